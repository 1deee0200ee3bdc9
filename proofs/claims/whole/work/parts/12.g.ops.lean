-- layer 2: about, and what puts things: mark, body, lens, pair, read, turned
theorem InW.cg {w h : Int} {A B : Int → Int} (hI : InW w h A) (e : ∀ k : Int, (k = 0 ∨ 10 ≤ k ∧ k < 614) → B k = A k) : InW w h B := by
  obtain ⟨h1, h2, h3, h4⟩ := hI
  refine ⟨h1, fun k k1 k2 => by rw [e _ (by omega)]; exact h2 k k1 k2, by rw [e 0 (by omega)]; exact h3, fun b b1 b2 => ?_⟩
  rw [e (590 + 4 * b) (by omega), e (590 + 4 * b + 1) (by omega), e (590 + 4 * b + 2) (by omega), e (590 + 4 * b + 3) (by omega), e 0 (by omega)]
  exact h4 b b1 b2
theorem RWo.cg {v : BX10} {w h : Int} {A B : Int → Int} (hW : RWo v w h A) (hI : InW w h A) (e : ∀ k : Int, (k = 0 ∨ 10 ≤ k ∧ k < 614) → B k = A k) : RWo v w h B := by
  obtain ⟨h1, h2, h3, h4, h5, h6⟩ := hW
  have hw := wh_bd hI.1.1 hI.1.2.1 hI.1.2.2.1 hI.1.2.2.2
  refine ⟨h1, h2, h3, by rw [e 0 (by omega)]; exact h4, fun k k1 k2 => by rw [e _ (by omega)]; exact h5 k k1 k2, fun b b1 b2 => ?_⟩
  rw [e (590 + 4 * b) (by omega), e (590 + 4 * b + 1) (by omega), e (590 + 4 * b + 2) (by omega), e (590 + 4 * b + 3) (by omega)]
  exact h6 b b1 b2
theorem InR.cg {w h : Int} {A B : Int → Int} (hI : InR w h A) (e : ∀ k : Int, (k = 4 ∨ 720 ≤ k ∧ k < 864) → B k = A k) : InR w h B := by
  obtain ⟨h1, h2⟩ := hI
  refine ⟨by rw [e 4 (by omega)]; exact h1, fun k k1 k2 => ?_⟩
  obtain ⟨g1, g2, g3, g4, g5⟩ := h2 k k1 k2
  rw [e (720 + 24 * k) (by omega), e (720 + 24 * k + 1) (by omega), e (720 + 24 * k + 2) (by omega), e (720 + 24 * k + 3) (by omega)]
  exact ⟨g1, g2, g3, g4, fun j j1 j2 => by rw [e _ (by omega)]; exact g5 j j1 j2⟩
theorem RRe.cg {v : BX5} {A B : Int → Int} (hI : RRe v A) (e : ∀ k : Int, (k = 4 ∨ 720 ≤ k ∧ k < 864) → B k = A k) : RRe v B := by
  obtain ⟨h1, h2⟩ := hI
  refine ⟨by rw [e 4 (by omega)]; exact h1, fun k k1 k2 => ?_⟩
  obtain ⟨g1, g2, g3, g4, g5⟩ := h2 k k1 k2
  rw [e (720 + 24 * k) (by omega), e (720 + 24 * k + 1) (by omega), e (720 + 24 * k + 2) (by omega), e (720 + 24 * k + 3) (by omega)]
  exact ⟨g1, g2, g3, g4, fun j j1 j2 => by rw [e _ (by omega)]; exact g5 j j1 j2⟩
theorem InF.mono {A B : Int → Int} (hF : InF A) (hE : InE A) (h1 : A 1 ≤ B 1) (h2 : A 2 ≤ B 2) (e : ∀ k : Int, 880 ≤ k → k < 3170 → B k = A k) (h4 : ∀ p : Int, 0 ≤ p → p < A 2 → B (660 + 3 * p) = A (660 + 3 * p) ∧ B (660 + 3 * p + 1) = A (660 + 3 * p + 1) ∧ B (660 + 3 * p + 2) = A (660 + 3 * p + 2)) : InF B := by
  unfold InF
  rw [e 880 (by omega) (by omega), e 884 (by omega) (by omega), e 885 (by omega) (by omega), e 887 (by omega) (by omega), e 888 (by omega) (by omega)]
  rcases hF with f | ⟨f1, f2, f3, f4, f5, f6, f7⟩
  · exact Or.inl f
  · refine Or.inr ⟨f1, f2, f3, by omega, by omega, fun p p1 p2 => ?_, fun t t1 t2 p p1 p2 => ?_⟩
    · obtain ⟨q1, q2, q3⟩ := h4 p p1 (by omega)
      rw [q1, q2]
      exact f6 p p1 p2
    · obtain ⟨q1, q2, q3⟩ := h4 p p1 (by omega)
      have hE1 := hE.1
      have hE2 := hE.2.1
      obtain ⟨s1, s2, s3⟩ := hE.2.2.2 p p1 (by omega)
      have f6p := f6 p p1 p2
      rw [e _ (by omega) (by omega), f7 t t1 t2 p p1 p2]
      unfold sPair
      rw [q1, q2, q3]
      split
      · rfl
      · dsimp only
        rw [e (890 + 38 * (t - A (660 + 3 * p + 2)) + 5 + A (660 + 3 * p)) (by omega) (by omega), e (890 + 38 * t + 5 + A (660 + 3 * p + 1)) (by omega) (by omega), e (890 + 38 * t + 5 + A (660 + 3 * p)) (by omega) (by omega), e (890 + 38 * (t - A (660 + 3 * p + 2)) + 5 + A (660 + 3 * p + 1)) (by omega) (by omega)]
theorem RFl.cg {v : BX2} {A B : Int → Int} (hF : InF A) (hE : InE A) (hR : RFl v A) (e : ∀ k : Int, 880 ≤ k → k < 3170 → B k = A k) : RFl v B := by
  unfold RFl
  rw [e 880 (by omega) (by omega), e 881 (by omega) (by omega), e 882 (by omega) (by omega), e 883 (by omega) (by omega), e 884 (by omega) (by omega), e 885 (by omega) (by omega), e 886 (by omega) (by omega), e 887 (by omega) (by omega), e 888 (by omega) (by omega)]
  refine ⟨hR.1, ?_⟩
  rcases hR.2 with g | ⟨g1, g2, g3, g4, g5, g6, g7, g8, g9, g10, g11, g12⟩
  · exact Or.inl g
  · refine Or.inr ⟨g1, g2, g3, g4, g5, g6, g7, g8, g9, g10, g11, fun t t1 t2 => ?_⟩
    have hE1 := hE.1
    rcases hF with f | ⟨f1, f2, f3, f4, f5, f6, f7⟩
    · exact absurd f g1
    · exact ⟨fun j j1 j2 => by rw [e _ (by omega) (by omega)]; exact (g12 t t1 t2).1 j j1 j2, fun j j1 j2 => by rw [e _ (by omega) (by omega)]; exact (g12 t t1 t2).2 j j1 j2⟩
/-- a put: all is kept but the array and one bundle -/
theorem FrA {m : BX12} {f : Nat → Int32} {v0 : BX11} {v3 : BX4} (hT : TP v0 m) (hF : FT v0 v3 m) : TP v0 (sX12_a m f) ∧ FT v0 v3 (sX12_a m f) := by
  obtain ⟨T, Z, t1, t2, t3, t4, t5, t6⟩ := hT
  refine ⟨⟨T, Z, t1, by rw [q12_taped_a]; exact t2, t3, by rw [q12_tape_a]; exact t4, t5, t6⟩, ?_⟩
  unfold FT
  rw [q12_fault_a, q12_faultPlace_a]
  exact hF
theorem o_mark (RO : ROT) : Op_mark (Rel RO) := by
  intro v0 v1 v2 v3 v4 v5 v6 v7 v8 v9 v10 v11 v12 v13 v14 v15 v16 v17 v18 hR p0 p1
  have hR' := hR
  obtain ⟨w, h, A, G, hM, r2, hA, r4, ⟨hW, hV, hRe, hFl⟩, r6, r7, r8, r9, r10⟩ := hR'
  obtain ⟨c, c1, c2, rfl⟩ := iI_of p0
  obtain ⟨k, k1, k2, rfl⟩ := iI_of p1
  have hw := wh_bd hA.1.1.1 hA.1.1.2.1 hA.1.1.2.2.1 hA.1.1.2.2.2
  have hn2 : ((w * h).toNat : Int) = w * h := Int.toNat_of_nonneg (by omega)
  unfold f_X11_mark f_X12_mark
  simp (disch := omega) only [z_isCell hM hA.1, z_isCellC hW hA.1, bind_s, bI_0I, ite_not, sz_isIn, sz_isWithin, iLit]
  by_cases hc : 0 ≤ c ∧ c ≤ w * h - 1
  · by_cases hk : 0 ≤ k ∧ k ≤ 255
    · rw [if_pos hc, if_pos hc, if_pos hk, if_pos hk]
      simp (disch := omega) only [hW.1, iI_inB, hn2, gd_t, iI_cl, iI_add, lt_e]
      have hE2 : InE (up A (10 + c) k) := hA.2.1.cg (fun j hj => up_n (by omega))
      have hfr := FrA (f := upd (pX12_a v17) (10 + c).toNat (iI k)) r9 r10
      refine ⟨_, _, _, rfl, rfl, w, h, up A (10 + c) k, G, hM.set k (by omega), by rw [q12_image_a]; exact r2, ⟨?_, hE2, hA.2.2.1.cg (fun j hj => up_n (by omega)), ?_, ?_⟩, r4, ⟨?_, hV.cg (fun j hj => up_n (by omega)), hRe.cg (fun j hj => up_n (by omega)), RFl.cg hA.2.2.2.1 hA.2.1 hFl (fun j j1 j2 => up_n (by omega))⟩, r6, ?_, r8, hfr.1, hfr.2⟩
      · obtain ⟨i1, i2, i3, i4⟩ := hA.1
        refine ⟨i1, fun j j1 j2 => ?_, by rw [up_n (by omega)]; exact i3, fun b b1 b2 => ?_⟩
        · unfold up
          split
          · omega
          · exact i2 j j1 j2
        · rw [up_n (show 590 + 4 * b ≠ 10 + c by omega), up_n (show 590 + 4 * b + 1 ≠ 10 + c by omega), up_n (show 590 + 4 * b + 2 ≠ 10 + c by omega), up_n (show 590 + 4 * b + 3 ≠ 10 + c by omega), up_n (show (0 : Int) ≠ 10 + c by omega)]
          exact i4 b b1 b2
      · refine hA.2.2.2.1.mono hA.2.1 (by rw [up_n (by omega)]; omega) (by rw [up_n (by omega)]; omega) (fun j j1 j2 => up_n (by omega)) (fun p p1 p2 => ⟨up_n (by omega), up_n (by omega), up_n (by omega)⟩)
      · rw [up_n (by omega)]
        exact hA.2.2.2.2
      · obtain ⟨e1, e2, e3, e4, e5, e6⟩ := hW
        refine ⟨by rw [q10_n_own]; exact e1, by rw [q10_w_own]; exact e2, by rw [q10_h_own]; exact e3, by rw [q10_bodies_own, up_n (by omega)]; exact e4, fun j j1 j2 => ?_, fun b b1 b2 => ?_⟩
        · rw [q10_own_own, ai_upd hc.1 j1]
          by_cases he : j = c
          · rw [if_pos he, up_e (by omega)]
          · rw [if_neg he, up_n (by omega)]
            exact e5 j j1 j2
        · rw [q10_bodyX_own, q10_bodyY_own, q10_bodyWayX_own, q10_bodyWayY_own, q10_bodyMark_own, up_n (show 590 + 4 * b ≠ 10 + c by omega), up_n (show 590 + 4 * b + 1 ≠ 10 + c by omega), up_n (show 590 + 4 * b + 2 ≠ 10 + c by omega), up_n (show 590 + 4 * b + 3 ≠ 10 + c by omega)]
          exact e6 b b1 b2
      · rw [up_n (by omega), q12_texts_a]
        exact r7
    · rw [if_pos hc, if_pos hc, if_neg hk, if_neg hk]
      exact ⟨_, _, _, rfl, rfl, hR⟩
  · rw [if_neg hc, if_neg hc]
    exact ⟨_, _, _, rfl, rfl, hR⟩
theorem o_lens (RO : ROT) : Op_lens (Rel RO) := by
  intro v0 v1 v2 v3 v4 v5 v6 v7 v8 v9 v10 v11 v12 v13 v14 v15 v16 v17 v18 hR p0 p1
  have hR' := hR
  obtain ⟨w, h, A, G, hM, r2, hA, r4, ⟨hW, hV, hRe, hFl⟩, r6, r7, r8, r9, r10⟩ := hR'
  obtain ⟨s, s1, s2, rfl⟩ := iI_of p0
  obtain ⟨k, k1, k2, rfl⟩ := iI_of p1
  have hE := hA.2.1
  have hE1 := hE.1
  have hE2 := hE.2.1
  unfold f_X11_lens f_X12_lens
  simp (disch := omega) only [z_isSide, z_isSideM, bind_s, bI_0I, ite_not, sz_isIn, sz_isWithin, iLit]
  by_cases hs : 0 ≤ s ∧ s ≤ 63
  · by_cases hk : 0 ≤ k ∧ k ≤ 7
    · rw [if_pos hs, if_pos hs, if_pos hk, if_pos hk]
      simp (disch := omega) only [hV.1, iI_inB, gd_t, iI_cl, hM.at, iI_lt, iI_eq]
      by_cases hl : A 1 < 16
      · rw [if_pos hl, if_neg (by omega)]
        have m1 := hM.set (k := 620 + 2 * A 1) s (by omega)
        have m2 := m1.set (k := 620 + 2 * A 1 + 1) k (by omega)
        have m3 := m2.set (k := 1) (A 1 + 1) (by omega)
        have u1 : up A (620 + 2 * A 1) s 1 = A 1 := up_n (by omega)
        have u2 : up (up A (620 + 2 * A 1) s) (620 + 2 * A 1 + 1) k 1 = A 1 := by rw [up_n (by omega), u1]
        have u3 : up (up (up A (620 + 2 * A 1) s) (620 + 2 * A 1 + 1) k) 1 (A 1 + 1) 1 = A 1 + 1 := up_s _ _ _
        simp (disch := omega) only [iI_mul, iI_add, iI_inB, gd_t, iI_cl, lt_e, m1.at, u1]
        simp (disch := omega) only [iI_mul, iI_add, iI_inB, gd_t, iI_cl, lt_e, m2.at, u2]
        simp (disch := omega) only [iI_mul, iI_add, iI_inB, gd_t, iI_cl, lt_e, m3.at, u3, iI_sub]
        rw [show A 1 + 1 - 1 = A 1 by omega]
        generalize hB : up (up (up A (620 + 2 * A 1) s) (620 + 2 * A 1 + 1) k) 1 (A 1 + 1) = B at m3
        have eB : ∀ j : Int, j ≠ 1 → j ≠ 620 + 2 * A 1 → j ≠ 620 + 2 * A 1 + 1 → B j = A j := by
          intro j j1 j2 j3
          rw [← hB, up_n j1, up_n j3, up_n j2]
        have eB1 : B 1 = A 1 + 1 := by rw [← hB, up_s]
        have eB2 : B (620 + 2 * A 1) = s := by rw [← hB, up_n (by omega), up_n (by omega), up_s]
        have eB3 : B (620 + 2 * A 1 + 1) = k := by rw [← hB, up_n (by omega), up_s]
        have hf1 := FrA (f := upd (pX12_a v17) (620 + 2 * A 1).toNat (iI s)) r9 r10
        have hf2 := FrA (f := upd (pX12_a (sX12_a v17 (upd (pX12_a v17) (620 + 2 * A 1).toNat (iI s)))) (620 + 2 * A 1 + 1).toNat (iI k)) hf1.1 hf1.2
        have hf3 := FrA (f := upd (pX12_a (sX12_a (sX12_a v17 (upd (pX12_a v17) (620 + 2 * A 1).toNat (iI s))) (upd (pX12_a (sX12_a v17 (upd (pX12_a v17) (620 + 2 * A 1).toNat (iI s)))) (620 + 2 * A 1 + 1).toNat (iI k)))) (Int.toNat 1) (iI (A 1 + 1))) hf2.1 hf2.2
        refine ⟨_, _, _, rfl, rfl, w, h, B, G, m3, by rw [q12_image_a, q12_image_a, q12_image_a]; exact r2, ⟨hA.1.cg (fun j hj => eB j (by omega) (by omega) (by omega)), ?_, hA.2.2.1.cg (fun j hj => eB j (by omega) (by omega) (by omega)), ?_, ?_⟩, r4, ⟨hW.cg hA.1 (fun j hj => eB j (by omega) (by omega) (by omega)), ?_, hRe.cg (fun j hj => eB j (by omega) (by omega) (by omega)), RFl.cg hA.2.2.2.1 hE hFl (fun j j1 j2 => eB j (by omega) (by omega) (by omega))⟩, r6, ?_, r8, hf3.1, hf3.2⟩
        · obtain ⟨i1, i2, i3, i4⟩ := hE
          unfold InE
          rw [eB1, eB 2 (by omega) (by omega) (by omega)]
          refine ⟨by omega, i2, fun j j1 j2 => ?_, fun j j1 j2 => ?_⟩
          · by_cases he : j = A 1
            · rw [he, eB2, eB3]
              omega
            · rw [eB (620 + 2 * j) (by omega) (by omega) (by omega), eB (620 + 2 * j + 1) (by omega) (by omega) (by omega)]
              exact i3 j j1 j2
          · rw [eB (660 + 3 * j) (by omega) (by omega) (by omega), eB (660 + 3 * j + 1) (by omega) (by omega) (by omega), eB (660 + 3 * j + 2) (by omega) (by omega) (by omega)]
            have := i4 j j1 j2
            omega
        · exact hA.2.2.2.1.mono hE (by omega) (by rw [eB 2 (by omega) (by omega) (by omega)]; omega) (fun j j1 j2 => eB j (by omega) (by omega) (by omega)) (fun p p1 p2 => ⟨eB _ (by omega) (by omega) (by omega), eB _ (by omega) (by omega) (by omega), eB _ (by omega) (by omega) (by omega)⟩)
        · rw [eB 3 (by omega) (by omega) (by omega)]
          exact hA.2.2.2.2
        · obtain ⟨i1, i2, i3, i4⟩ := hV
          refine ⟨by rw [q1_lenses_lenses, eB1], by rw [q1_pairs_lenses, q1_pairs_lensWidth, q1_pairs_lensSide, eB 2 (by omega) (by omega) (by omega)]; exact i2, fun j j1 j2 => ?_, fun j j1 j2 => ?_⟩
          · rw [q1_lensSide_lenses, q1_lensSide_lensWidth, q1_lensSide_lensSide, q1_lensWidth_lenses, q1_lensWidth_lensWidth, q1_lensWidth_lensSide, ai_upd (by omega) j1, ai_upd (by omega) j1]
            by_cases he : j = A 1
            · rw [if_pos he, if_pos he, he, eB2, eB3]
              exact ⟨rfl, rfl⟩
            · rw [if_neg he, if_neg he, eB (620 + 2 * j) (by omega) (by omega) (by omega), eB (620 + 2 * j + 1) (by omega) (by omega) (by omega)]
              exact i3 j j1 j2
          · rw [q1_pairA_lenses, q1_pairA_lensWidth, q1_pairA_lensSide, q1_pairB_lenses, q1_pairB_lensWidth, q1_pairB_lensSide, q1_pairDelay_lenses, q1_pairDelay_lensWidth, q1_pairDelay_lensSide, eB (660 + 3 * j) (by omega) (by omega) (by omega), eB (660 + 3 * j + 1) (by omega) (by omega) (by omega), eB (660 + 3 * j + 2) (by omega) (by omega) (by omega)]
            exact i4 j j1 j2
        · rw [eB 3 (by omega) (by omega) (by omega), q12_texts_a, q12_texts_a, q12_texts_a]
          exact r7
      · rw [if_neg hl, if_pos (by omega)]
        exact ⟨_, _, _, rfl, rfl, hR⟩
    · rw [if_pos hs, if_pos hs, if_neg hk, if_neg hk]
      exact ⟨_, _, _, rfl, rfl, hR⟩
  · rw [if_neg hs, if_neg hs]
    exact ⟨_, _, _, rfl, rfl, hR⟩
