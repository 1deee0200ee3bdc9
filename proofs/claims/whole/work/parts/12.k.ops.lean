-- layer 2: image, back, tick
theorem z_copyState {v0 v1 : BX8} {v2 : BX1} {v3 : BX2} {v4 : BX5} {v5 : BX10} {v6 : BX1} {v7 : BX2} {v8 : BX5} {v9 : BX10} {b : PB} {w h : Int} {A : Int → Int} (hA : InA w h A) (hW : RWo v5 w h A) (hV : REy v2 A) (hR : RRe v4 A) (hF : RFl v3 A) (hc : ∀ i : Int, 0 ≤ i → i < 8 → ∃ q, pX8_codes v0 i.toNat = some q ∧ q ∈ b.1) (hn : pX10_n v9 = (w * h).toNat) (hw : pX10_w v9 = iI w) (hh : pX10_h v9 = iI h) : Wp (f_X8_copyFrom v0 v1 v2 v3 v4 v5 v6 v7 v8 v9 b) (fun r => (pX8_rules r.1 = pX8_rules v0 ∧ ∀ k : Int, 0 ≤ k → k < 8 → pX8_codes r.1 k.toNat = pX8_codes v0 k.toNat) ∧ REy r.2.1 A ∧ RFl r.2.2.1 A ∧ RRe r.2.2.2.1 A ∧ RWo r.2.2.2.2 w h A) := by
  unfold f_X8_copyFrom
  refine wp_bind (wp_mono (z_copyWorld hW hA.1 hn hw hh) (fun r1 k1 => ?_))
  refine wp_bind (wp_mono (z_copyEye hV) (fun r2 k2 => ?_))
  refine wp_bind (wp_mono (z_copyReads (w := w) (h := h) hR) (fun r3 k3 => ?_))
  refine wp_bind (wp_mono (z_copyFlight hF hA.2.2.2.1 hA.2.1) (fun r4 k4 => ?_))
  refine wp_mono (z_copyCodes hc 8 0 (sX8_rules v1 (pX8_rules v0)) (by omega) (by omega) (fun k k1 k2 => by omega) fU (by rw [fU_v]; omega)) (fun r hr => ?_)
  obtain ⟨⟨e1, e2⟩, e3⟩ := hr
  rw [e3]
  exact ⟨⟨by rw [e1, q8_rules_rules], e2⟩, k2, k4, k3, k1⟩
theorem CR.cp {RO : ROT} {v u : BX8} {b : PB} {texts : Nat → Int32} {N : Int} (hN : N ≤ 8) (hC : CR RO v b texts N) (e : ∀ k : Int, 0 ≤ k → k < 8 → pX8_codes u k.toNat = pX8_codes v k.toNat) : CR RO u b texts N := by
  refine ⟨fun i i1 i2 => by rw [e i i1 i2]; exact hC.1 i i1 i2, fun i i1 i2 q hq => ?_⟩
  rw [e i i1 (by omega)] at hq
  exact hC.2 i i1 i2 q hq
theorem o_image (RO : ROT) : Op_image (Rel RO) := by
  intro v0 v1 v2 v3 v4 v5 v6 v7 v8 v9 v10 v11 v12 v13 v14 v15 v16 v17 v18 hR
  obtain ⟨w, h, A, G, hM, r2, hA, hG, ⟨hW, hV, hRe, hFl⟩, ⟨gW, gV, gRe, gFl⟩, ⟨e1, e2, e3, e4, e5⟩, r8, r9, r10⟩ := hR
  unfold f_X11_image f_X12_image
  obtain ⟨x, ex, ⟨⟨c1, c2⟩, c3, c4, c5, c6⟩⟩ := z_copyState (v1 := v4) (v6 := v13) (v7 := v14) (v8 := v15) (b := v18) hA hW hV hRe hFl e4.1 gW.1 gW.2.1 gW.2.2.1
  obtain ⟨im, ei, hi⟩ := z_copyM 3170 0 (pX12_a v17) (pX12_image v17) (by omega) (by omega) (fun k k1 k2 => by omega) fU (by rw [fU_v]; omega)
  have ei' : f_X12_copy 3170 3170 (pX12_a v17) (pX12_image v17) = some im := ei
  have hb := hA.2.2.2.2
  rw [ex, bind_s, ei', bind_s]
  simp (disch := omega) only [iLit, iI_inB, gd_t, iI_cl, q12_a_image, hM.at, e1]
  refine ⟨_, _, _, rfl, rfl, w, h, A, A, ⟨by rw [q12_w_image]; exact hM.1, by rw [q12_h_image]; exact hM.2.1, by rw [q12_a_image]; exact hM.2.2⟩, ?_, hA, hA, ⟨hW, hV, hRe, hFl⟩, ⟨c6, c3, c5, c4⟩, ⟨e1, c1.trans e1, Int.le_refl _, by rw [q12_texts_image]; exact e4, by rw [q12_texts_image]; exact CR.cp hb.2 e4 c2⟩, r8, FrB r9 r10 (by rw [q12_taped_image]) (by rw [q12_tape_image]) (by rw [q12_fault_image]) (by rw [q12_faultPlace_image])⟩
  rw [q12_image_image]
  intro k k1 k2
  rw [hi k k1 k2]
  exact hM.at k1 k2
theorem o_back (RO : ROT) : Op_back (Rel RO) := by
  intro v0 v1 v2 v3 v4 v5 v6 v7 v8 v9 v10 v11 v12 v13 v14 v15 v16 v17 v18 hR
  obtain ⟨w, h, A, G, hM, r2, hA, hG, ⟨hW, hV, hRe, hFl⟩, ⟨gW, gV, gRe, gFl⟩, ⟨e1, e2, e3, e4, e5⟩, r8, r9, r10⟩ := hR
  unfold f_X11_back f_X12_back
  obtain ⟨x, ex, ⟨⟨c1, c2⟩, c3, c4, c5, c6⟩⟩ := z_copyState (v1 := v2) (v6 := v8) (v7 := v9) (v8 := v10) (b := v18) hG gW gV gRe gFl e5.1 hW.1 hW.2.1 hW.2.2.1
  obtain ⟨im, ei, hi⟩ := z_copyM 3170 0 (pX12_image v17) (pX12_a v17) (by omega) (by omega) (fun k k1 k2 => by omega) fU (by rw [fU_v]; omega)
  have ei' : f_X12_copy 3170 3170 (pX12_image v17) (pX12_a v17) = some im := ei
  have hb := hG.2.2.2.2
  have hAI : AI im G 3170 := fun k k1 k2 => by
    rw [hi k k1 k2]
    exact r2 k k1 k2
  have h3 : im (Int.toNat 3) = iI (G 3) := hAI 3 (by omega) (by omega)
  rw [ex, bind_s, ei', bind_s]
  simp (disch := omega) only [iLit, iI_inB, gd_t, iI_cl, q12_a_a, h3, c1, e2]
  exact ⟨_, _, _, rfl, rfl, w, h, G, G, ⟨by rw [q12_w_a]; exact hM.1, by rw [q12_h_a]; exact hM.2.1, by rw [q12_a_a]; exact hAI⟩, by rw [q12_image_a]; exact r2, hG, hG, ⟨c6, c3, c5, c4⟩, ⟨gW, gV, gRe, gFl⟩, ⟨c1.trans e2, e2, Int.le_refl _, by rw [q12_texts_a]; exact CR.cp hb.2 e5 c2, by rw [q12_texts_a]; exact e5⟩, r8, FrB r9 r10 (by rw [q12_taped_a]) (by rw [q12_tape_a]) (by rw [q12_fault_a]) (by rw [q12_faultPlace_a])⟩
/-- a take of a flight; 0 of a lens that isn't there -/
theorem z_takenBy {v : BX2} {L N : Int} {tk : Int → Int → Int} (hL : pX2_lenses v = iI L) (hL1 : 0 ≤ L) (hL2 : L ≤ 16) (hN : N ≤ 60) (hv : ∀ t : Int, 0 ≤ t → t < N → ∀ k : Int, 0 ≤ k → k < L → pX2_takes v (t * 16 + k).toNat = iI (tk t k)) {k t : Int} (k1 : 0 ≤ k) (k2 : k < L) (t1 : 0 ≤ t) (t2 : t < N) : f_X2_takenBy v (iI k) (iI t) = some (iI (tk t k)) := by
  unfold f_X2_takenBy
  simp (disch := omega) only [iLit, iI_mul, iI_add, lt_e, hL, iI_lt, iI_le, iI_inB, gd_t, iI_cl]
  rw [if_neg (by omega), if_neg (by omega), if_neg (by omega), if_neg (by omega), hv t t1 t2 k k1 k2]
theorem z_takenBy0 {v : BX2} {L : Int} (hL : pX2_lenses v = iI L) (hL1 : 0 ≤ L) (hL2 : L ≤ 16) {k t : Int} (k1 : L ≤ k) (k2 : k < 1000) (t1 : 0 ≤ t) (t2 : t ≤ 60) : f_X2_takenBy v (iI k) (iI t) = some (iI 0) := by
  unfold f_X2_takenBy
  simp (disch := omega) only [iLit, iI_mul, iI_add, lt_e, hL, iI_lt, iI_le]
  rw [if_neg (by omega), if_pos (by omega)]
theorem z_comparedBy {e : BX1} {v : BX2} {A : Int → Int} {L P N : Int} {tk : Int → Int → Int} (hV : REy e A) (hE : InE A) (hL : pX2_lenses v = iI L) (hL1 : 0 ≤ L) (hL2 : L ≤ 16) (hP : pX2_pairs v = iI P) (hP1 : 0 ≤ P) (hP2 : P ≤ A 2) (hN : N ≤ 60) (hv : ∀ t : Int, 0 ≤ t → t < N → ∀ k : Int, 0 ≤ k → k < L → pX2_takes v (t * 16 + k).toNat = iI (tk t k)) (hp : ∀ p : Int, 0 ≤ p → p < P → A (660 + 3 * p) < L ∧ A (660 + 3 * p + 1) < L) {p t : Int} (p1 : 0 ≤ p) (p2 : p < P) (t1 : 0 ≤ t) (t2 : t < N) : f_X2_comparedBy e v (iI p) (iI t) = some (iI (sPair A tk p t)) := by
  have hE2 := hE.2.1
  have hq := hE.2.2.2 p p1 (by omega)
  have hc := hV.2.2.2 p p1 (by omega)
  have hpp := hp p p1 p2
  unfold f_X2_comparedBy sPair
  simp (disch := omega) only [iLit, hP, iI_sub, sz_isWithin, bind_s, bI_0I, ite_not, iI_inB, gd_t, iI_cl, hc.1, hc.2.1, hc.2.2, iI_le, lt_e]
  rw [if_pos (by omega)]
  by_cases hd : A (660 + 3 * p + 2) ≤ t
  · rw [if_pos hd, if_neg (by omega)]
    simp (disch := omega) only [z_takenBy hL hL1 hL2 hN hv, bind_s, iI_mul, iI_sub]
  · rw [if_neg hd, if_pos (by omega)]
theorem z_comparedBy0 {e : BX1} {v : BX2} {P : Int} (hP : pX2_pairs v = iI P) (hP1 : 0 ≤ P) (hP2 : P ≤ 16) {p t : Int} (p1 : P ≤ p) (p2 : p < 1000) : f_X2_comparedBy e v (iI p) (iI t) = some (iI 0) := by
  unfold f_X2_comparedBy
  simp (disch := omega) only [iLit, hP, iI_sub, sz_isWithin, bind_s, bI_0I, ite_not]
  rw [if_neg (by omega)]
theorem o_tick (RO : ROT) : Op_tick (Rel RO) := by
  intro v0 v1 v2 v3 v4 v5 v6 v7 v8 v9 v10 v11 v12 v13 v14 v15 v16 v17 v18 hR p0 p1
  have hR' := hR
  obtain ⟨w, h, A, G, hM, _, hA, _, ⟨_, hV, _, hF⟩, _⟩ := hR'
  obtain ⟨t, t1, t2, rfl⟩ := iI_of p0
  obtain ⟨k, k1, k2, rfl⟩ := iI_of p1
  have hI := hA.2.2.2.1
  have hE := hA.2.1
  have hE1 := hE.1
  have hE2 := hE.2.1
  have n1 : -1 ≤ A 880 ∧ A 880 ≤ 60 := by
    rcases hI with e | ⟨e, _⟩ <;> omega
  unfold f_X11_tick f_X12_tick
  simp (disch := omega) only [iLit, iI_inB, gd_t, iI_cl, hM.at, iI_sub, sz_isIn, bind_s, bI_0I, ite_not]
  rcases hF.2 with ⟨e1, e2, e3⟩ | ⟨e1, e2, e3, e4, e5, e6, e7, e8, e9, e10, e11, e12⟩
  · simp (disch := omega) only [e3, iI_sub, sz_isWithin, bind_s, bI_0I, ite_not]
    rw [if_neg (by omega), if_neg (by omega)]
    exact ⟨_, rfl, rfl, hR⟩
  · rcases hI with e | ⟨hc, h4, h5, h6, h7, h8, h9⟩
    · exact absurd e e1
    · simp (disch := omega) only [e3, iI_sub, sz_isWithin, bind_s, bI_0I, ite_not]
      by_cases ht : 0 ≤ t ∧ t ≤ A 880 - 1
      · rw [if_pos ht, if_pos ht]
        by_cases hk : 0 ≤ k ∧ k ≤ 4
        · rw [if_pos hk]
          simp (disch := omega) only [iI_mul, iI_add, iI_inB, gd_t, iI_cl, hM.at, lt_e, sz_isIn, bind_s, bI_0I, ite_not]
          rw [if_pos hk]
          unfold f_X2_noted
          simp (disch := omega) only [iLit, iI_mul, iI_add, lt_e, iI_lt, iI_le, iI_inB, gd_t, iI_cl]
          rw [if_neg (by omega), if_neg (by omega), (e12 t ht.1 (by omega)).1 k hk.1 (by omega)]
          exact ⟨_, rfl, rfl, hR⟩
        · rw [if_neg hk]
          simp (disch := omega) only [iI_mul, iI_add, iI_inB, gd_t, iI_cl, hM.at, lt_e, sz_isIn, bind_s, bI_0I, ite_not, iI_lt, iI_le, e10, e11, iI_sub, sz_isWithin]
          rw [if_neg hk]
          by_cases hl : 100 ≤ k ∧ k ≤ 100 + A 887 - 1
          · rw [if_pos hl, if_neg (by omega), if_neg (by omega), z_takenBy (N := A 880) (tk := fun t k => A (890 + 38 * t + 5 + k)) e10 h6.1 (by omega) hc.2 (fun t a b k c d => (e12 t a b).2 k c d) (by omega) (by omega) ht.1 (by omega)]
            simp (disch := omega) only [iI_add, iI_sub, iI_inB, gd_t, iI_cl, hM.at, bind_s]
            refine ⟨_, rfl, ?_, hR⟩
            rw [show 890 + 38 * t + 5 + k - 100 = 890 + 38 * t + 5 + (k - 100) by omega]
          · rw [if_neg hl]
            unfold f_X12_tick_b84 f_X12_tick_b125
            simp (disch := omega) only [iLit, iI_add, iI_sub, iI_inB, gd_t, iI_cl, hM.at, bind_s, iI_lt, iI_le]
            have hfin : ∃ r, (if 200 ≤ k ∧ k ≤ 200 + A 888 - 1 then (f_X2_comparedBy v8 v9 (iI (k - 200)) (iI t)).bind fun r_9 => some r_9 else some (-iI 10000000)) = some r ∧ (if k < 200 then some (-iI 10000000) else if 200 + A 888 ≤ k then some (-iI 10000000) else some (iI (A (890 + 38 * t + 21 + k - 200)))) = some r := by
              by_cases hp : 200 ≤ k ∧ k ≤ 200 + A 888 - 1
              · rw [if_pos hp, if_neg (by omega), if_neg (by omega), z_comparedBy (N := A 880) (tk := fun t k => A (890 + 38 * t + 5 + k)) hV hE e10 h6.1 (by omega) e11 h7.1 h7.2 hc.2 (fun t a b k c d => (e12 t a b).2 k c d) h8 (by omega) (by omega) ht.1 (by omega)]
                refine ⟨_, rfl, ?_⟩
                rw [show 890 + 38 * t + 21 + k - 200 = 890 + 38 * t + 21 + (k - 200) by omega, h9 t ht.1 (by omega) (k - 200) (by omega) (by omega)]
              · rw [if_neg hp]
                split
                · exact ⟨_, rfl, rfl⟩
                · rw [if_pos (by omega)]
                  exact ⟨_, rfl, rfl⟩
            obtain ⟨r, f1, f2⟩ := hfin
            refine ⟨r, f1, ?_, hR⟩
            by_cases hk1 : k < 100
            · rw [if_pos hk1]
              exact f2
            · rw [if_neg hk1, if_pos (by omega)]
              exact f2
      · rw [if_neg ht, if_neg ht]
        exact ⟨_, rfl, rfl, hR⟩
