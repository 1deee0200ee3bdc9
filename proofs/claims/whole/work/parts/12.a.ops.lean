-- layer 2: operations that ask
theorem o_markOf (RO : ROT) : Op_markOf (Rel RO) := by
  intro v0 v1 v2 v3 v4 v5 v6 v7 v8 v9 v10 v11 v12 v13 v14 v15 v16 v17 v18 hR p0 p1
  have hR' := hR
  obtain ⟨w, h, A, G, hM, _, hA, _, ⟨hW, _⟩, _⟩ := hR'
  obtain ⟨c, c1, c2, rfl⟩ := iI_of p0
  obtain ⟨t, t1, t2, rfl⟩ := iI_of p1
  unfold f_X11_markOf f_X12_markOf
  simp (disch := omega) only [z_isCell hM hA.1, z_isCellC hW hA.1, bind_s, bI_0I, ite_not, sz_isTick, sz_isTickM, iLit]
  by_cases hc : 0 ≤ c ∧ c ≤ w * h - 1
  · by_cases ht : 0 ≤ t ∧ t ≤ 999
    · rw [if_pos hc, if_pos ht, if_pos hc, if_pos ht, z_seenMark hW hA.1 (by omega) (by omega) (by omega) (by omega), z_markAt hM hA.1 (by omega) (by omega) (by omega) (by omega)]
      exact ⟨_, rfl, rfl, hR⟩
    · rw [if_pos hc, if_neg ht, if_pos hc, if_neg ht]
      exact ⟨_, rfl, rfl, hR⟩
  · rw [if_neg hc, if_neg hc]
    exact ⟨_, rfl, rfl, hR⟩
theorem o_ray (RO : ROT) : Op_ray (Rel RO) := by
  intro v0 v1 v2 v3 v4 v5 v6 v7 v8 v9 v10 v11 v12 v13 v14 v15 v16 v17 v18 hR p0 p1 p2 p3 p4
  have hR' := hR
  obtain ⟨w, h, A, G, hM, _, hA, _, ⟨hW, _⟩, _, _, hn, _⟩ := hR'
  obtain ⟨x, x1, x2, rfl⟩ := iI_of p0
  obtain ⟨y, y1, y2, rfl⟩ := iI_of p1
  obtain ⟨s, s1, s2, rfl⟩ := iI_of p2
  obtain ⟨t, t1, t2, rfl⟩ := iI_of p3
  unfold f_X11_ray f_X12_ray
  simp (disch := omega) only [z_isPlace hM hA.1, z_isPlaceC hW hA.1, z_isSide, z_isSideM, bind_s, bI_0I, ite_not, sz_isTick, sz_isTickM, iLit]
  by_cases hp : (0 ≤ x ∧ x < 16 * w) ∧ 0 ≤ y ∧ y < 16 * h
  · by_cases hs : 0 ≤ s ∧ s ≤ 63
    · by_cases ht : 0 ≤ t ∧ t ≤ 999
      · rw [if_pos hp, if_pos hp, if_pos hs, if_pos hs, if_pos ht, if_pos ht]
        obtain ⟨r7, e7, hS⟩ := z_lookC (v := v5) (x := x) (y := y) hW hA.1 hn ht.1 (by omega)
        obtain ⟨q7, f7, hL⟩ := z_lay hM hA.1 ht.1 (by omega)
        obtain ⟨q8, f8, hF⟩ := z_shoot (hL.1.mw hM) hA.1 hL.2 hs.1 (by omega) hp.1 hp.2
        have hb := sR_bd hA.1 x y t s
        rw [e7, f7, bind_s, bind_s, f8, bind_s, z_trace hW hA.1 hS hs.1 (by omega) hp.1 hp.2, bind_s, hF.2.2.1, hF.2.2.2]
        simp (disch := omega) only [iLit, iI_and255, iI_shr8, iI_cl, iI_inB, gd_t, upd_at]
        have hf : FrP v17 q8 := (hL.1.trans hF.1).p
        have hR2 := hR.scr (v0' := v0) (v5' := r7) (v6' := v6) (v7' := v7) hf (hS.1.trans hn.symm) rfl rfl rfl
        have e1 : ((sR w h A x y t s).2 * 256 + (sR w h A x y t s).1) % 256 = (sR w h A x y t s).1 := by omega
        have e2 : ((sR w h A x y t s).2 * 256 + (sR w h A x y t s).1) / 256 = (sR w h A x y t s).2 := by omega
        rw [e1, e2]
        by_cases h4 : p4 = iI 0
        · rw [if_pos h4, if_pos h4]
          exact ⟨_, _, _, rfl, rfl, hR2⟩
        · rw [if_neg h4, if_neg h4]
          exact ⟨_, _, _, rfl, rfl, hR2⟩
      · rw [if_pos hp, if_pos hp, if_pos hs, if_pos hs, if_neg ht, if_neg ht]
        exact ⟨_, _, _, rfl, rfl, hR⟩
    · rw [if_pos hp, if_pos hp, if_neg hs, if_neg hs]
      exact ⟨_, _, _, rfl, rfl, hR⟩
  · rw [if_neg hp, if_neg hp]
    exact ⟨_, _, _, rfl, rfl, hR⟩
theorem z_lensTake {m : BX12} {w h : Int} {A T : Int → Int} (hM : MW m w h A) (hE : InE A) (hm : ∀ s : Int, 0 ≤ s → s < 64 → pX12_taken m s.toNat = iI (T s)) (hT : ∀ s, 0 ≤ s → s < 64 → 0 ≤ T s ∧ T s ≤ 255) {k head : Int} (h1 : 0 ≤ k) (h2 : k < 16) (hh : 0 ≤ head) (hh2 : head < 64) : f_X12_lensTake m (iI k) (iI head) = some (iI (sTake T (A (620 + 2 * k)) (A (620 + 2 * k + 1)) head)) := by
  have hk := hE.2.2.1 k h1 h2
  unfold f_X12_lensTake
  simp (disch := omega) only [iLit, iI_mul, iI_add, iI_inB, gd_t, iI_cl, hM.at, z_takeOf hm hT, bind_s]
theorem o_take (RO : ROT) : Op_take (Rel RO) := by
  intro v0 v1 v2 v3 v4 v5 v6 v7 v8 v9 v10 v11 v12 v13 v14 v15 v16 v17 v18 hR p0 p1 p2 p3 p4
  have hR' := hR
  obtain ⟨w, h, A, G, hM, _, hA, _, ⟨hW, hE, _⟩, _, _, hn, _⟩ := hR'
  obtain ⟨k, k1, k2, rfl⟩ := iI_of p0
  obtain ⟨x, x1, x2, rfl⟩ := iI_of p1
  obtain ⟨y, y1, y2, rfl⟩ := iI_of p2
  obtain ⟨s, s1, s2, rfl⟩ := iI_of p3
  obtain ⟨t, t1, t2, rfl⟩ := iI_of p4
  have hA1 := hA.2.1.1
  unfold f_X11_take f_X12_take
  simp (disch := omega) only [z_isPlace hM hA.1, z_isStanding hW hA.1, z_isSideM, z_isLens hM hA.2.1, z_isLensC hE hA.2.1, bind_s, bI_0I, ite_not, sz_isTick, sz_isTickM, iLit]
  by_cases hk : 0 ≤ k ∧ k ≤ A 1 - 1
  · by_cases hp : (0 ≤ x ∧ x < 16 * w) ∧ 0 ≤ y ∧ y < 16 * h
    · by_cases hs : 0 ≤ s ∧ s ≤ 63
      · by_cases ht : 0 ≤ t ∧ t ≤ 999
        · rw [if_pos hk, if_pos hk, if_pos ⟨hp, hs⟩, if_pos hp, if_pos hs, if_pos ht, if_pos ht]
          obtain ⟨r7, e7, hS⟩ := z_lookC (v := v5) (x := x) (y := y) hW hA.1 hn ht.1 (by omega)
          obtain ⟨q7, f7, hL⟩ := z_look hM hA.1 ht.1 (by omega) hp.1 hp.2
          have hks := hA.2.1.2.2.1 k (by omega) (by omega)
          have hkc := hE.2.2.1 k (by omega) (by omega)
          obtain ⟨r8, e8, hw⟩ := z_weigh hW hA.1 hS hp.1 hp.2 hks.1.1 hks.1.2 hs.1 (by omega) hks.2.1 hks.2.2
          rw [e7, f7, bind_s, bind_s, z_lensTake (hL.1.mw hM) hA.2.1 hL.2 (sT_bd hA.1 x y t) (by omega) (by omega) hs.1 (by omega), bind_s]
          simp (disch := omega) only [iI_cl, iI_inB, gd_t, hkc.1, hkc.2, e8, bind_s, hw.1]
          exact ⟨_, _, _, rfl, rfl, hR.scr hL.1.p (hw.2.1.trans hn.symm) rfl rfl rfl⟩
        · rw [if_pos hk, if_pos hk, if_pos ⟨hp, hs⟩, if_pos hp, if_pos hs, if_neg ht, if_neg ht]
          exact ⟨_, _, _, rfl, rfl, hR⟩
      · rw [if_pos hk, if_pos hk, if_neg (by omega), if_pos hp, if_neg hs]
        exact ⟨_, _, _, rfl, rfl, hR⟩
    · rw [if_pos hk, if_pos hk, if_neg (fun e => hp e.1), if_neg hp]
      exact ⟨_, _, _, rfl, rfl, hR⟩
  · rw [if_neg hk, if_neg hk]
    exact ⟨_, _, _, rfl, rfl, hR⟩
theorem o_fault (RO : ROT) : Op_fault (Rel RO) := by
  intro v0 v1 v2 v3 v4 v5 v6 v7 v8 v9 v10 v11 v12 v13 v14 v15 v16 v17 v18 hR p0
  have hR' := hR
  obtain ⟨w, h, A, G, _, _, _, _, _, _, _, _, _, hF⟩ := hR'
  unfold f_X11_fault f_X12_fault
  rcases hF with ⟨e1, e2, e3⟩ | ⟨e1, e2, e3⟩
  · rw [e1, e2, e3, if_pos (show iI 0 = (0 : Int32) from rfl)]
    by_cases h0 : p0 = 0
    · rw [if_pos h0]
      exact ⟨_, rfl, rfl, hR⟩
    · by_cases h1 : p0 = 1
      · rw [if_neg h0, if_pos h1]
        exact ⟨_, rfl, rfl, hR⟩
      · rw [if_neg h0, if_neg h1]
        exact ⟨_, rfl, rfl, hR⟩
  · rw [e1, e2, e3, if_neg (by decide)]
    by_cases h0 : p0 = 0
    · rw [if_pos h0]
      exact ⟨_, rfl, rfl, hR⟩
    · by_cases h1 : p0 = 1
      · rw [if_neg h0, if_pos h1]
        exact ⟨_, rfl, rfl, hR⟩
      · rw [if_neg h0, if_neg h1]
        exact ⟨_, rfl, rfl, hR⟩
theorem o_end (RO : ROT) : Op_end (Rel RO) := by
  intro v0 v1 v2 v3 v4 v5 v6 v7 v8 v9 v10 v11 v12 v13 v14 v15 v16 v17 v18 hR p0
  have hR' := hR
  obtain ⟨w, h, A, G, r1, r2, r3, r4, r5, r6, r7, r8, ⟨T, Z, t1, t2, t3, t4, t5, t6⟩, r10⟩ := hR'
  obtain ⟨n, n1, n2, rfl⟩ := iI_of p0
  unfold f_X11_end f_X12_end
  simp (disch := omega) only [t2, t3, iLit, sz_isIn, sz_isWithin, bind_s, bI_0I, ite_not, lt_e]
  by_cases hn : 0 ≤ n ∧ n ≤ T
  · rw [if_pos hn, if_pos hn]
    refine ⟨_, _, _, rfl, rfl, w, h, A, G, ⟨by rw [q12_w_taped]; exact r1.1, by rw [q12_h_taped]; exact r1.2.1, by rw [q12_a_taped]; exact r1.2.2⟩, by rw [q12_image_taped]; exact r2, r3, r4, r5, r6, by rw [q12_texts_taped]; exact r7, r8, ⟨n, Z, by omega, by rw [q12_taped_taped], by rw [q11_tapeSize_tapeSize], by rw [q12_tape_taped]; exact fun k k1 k2 => t4 k k1 (by omega), by rw [q11_tape_tapeSize]; exact fun k k1 k2 => t5 k k1 (by omega), fun k k1 k2 => t6 k k1 (by omega)⟩, ?_⟩
    unfold FT
    rw [q11_textRead_tapeSize, q12_fault_taped, q12_faultPlace_taped]
    exact r10
  · rw [if_neg hn, if_neg hn]
    exact ⟨_, _, _, rfl, rfl, hR⟩
