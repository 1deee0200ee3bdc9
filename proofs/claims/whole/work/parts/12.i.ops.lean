-- layer 2: read, turned, body
/-- a put over several cells: what of the relation stays -/
theorem FrB {m m' : BX12} {v0 : BX11} {v3 : BX4} (hT : TP v0 m) (hF : FT v0 v3 m) (e1 : pX12_taped m' = pX12_taped m) (e2 : pX12_tape m' = pX12_tape m) (e3 : pX12_fault m' = pX12_fault m) (e4 : pX12_faultPlace m' = pX12_faultPlace m) : TP v0 m' ∧ FT v0 v3 m' := by
  obtain ⟨T, Z, t1, t2, t3, t4, t5, t6⟩ := hT
  refine ⟨⟨T, Z, t1, e1.trans t2, t3, by rw [e2]; exact t4, t5, t6⟩, ?_⟩
  unfold FT
  rw [e3, e4]
  exact hF
theorem o_read (RO : ROT) : Op_read (Rel RO) := by
  intro v0 v1 v2 v3 v4 v5 v6 v7 v8 v9 v10 v11 v12 v13 v14 v15 v16 v17 v18 hR p0 p1 p2
  have hR' := hR
  obtain ⟨w, h, A, G, hM, r2, hA, r4, ⟨hW, hV, hRe, hFl⟩, r6, r7, r8, r9, r10⟩ := hR'
  obtain ⟨x, x1, x2, rfl⟩ := iI_of p0
  obtain ⟨y, y1, y2, rfl⟩ := iI_of p1
  obtain ⟨s, s1, s2, rfl⟩ := iI_of p2
  have hI4 := hA.2.2.1.1
  unfold f_X11_read f_X12_read
  simp (disch := omega) only [z_isStanding hW hA.1, z_isPlace hM hA.1, z_isSideM, bind_s, bI_0I, ite_not, iLit]
  by_cases hp : (0 ≤ x ∧ x < 16 * w) ∧ 0 ≤ y ∧ y < 16 * h
  · by_cases hs : 0 ≤ s ∧ s ≤ 63
    · rw [if_pos ⟨hp, hs⟩, if_pos hp, if_pos hs]
      simp (disch := omega) only [hRe.1, iI_inB, gd_t, iI_cl, hM.at, iI_lt, iI_eq]
      by_cases hl : A 4 < 6
      · rw [if_pos hl, if_neg (by omega)]
        have m1 := hM.set (k := 720 + 24 * A 4) x (by omega)
        have m2 := m1.set (k := 720 + 24 * A 4 + 1) y (by omega)
        have m3 := m2.set (k := 720 + 24 * A 4 + 2) s (by omega)
        have m4 := m3.set (k := 720 + 24 * A 4 + 3) 0 (by omega)
        have m5 := m4.set (k := 4) (A 4 + 1) (by omega)
        have u4 : up (up (up (up A (720 + 24 * A 4) x) (720 + 24 * A 4 + 1) y) (720 + 24 * A 4 + 2) s) (720 + 24 * A 4 + 3) 0 4 = A 4 := by rw [up_n (by omega), up_n (by omega), up_n (by omega), up_n (by omega)]
        have u5 : up (up (up (up (up A (720 + 24 * A 4) x) (720 + 24 * A 4 + 1) y) (720 + 24 * A 4 + 2) s) (720 + 24 * A 4 + 3) 0) 4 (A 4 + 1) 4 = A 4 + 1 := up_s _ _ _
        simp (disch := omega) only [iI_mul, iI_add, iI_inB, gd_t, iI_cl, lt_e]
        simp (disch := omega) only [iI_mul, iI_add, iI_inB, gd_t, iI_cl, lt_e, m4.at, u4]
        simp (disch := omega) only [iI_mul, iI_add, iI_inB, gd_t, iI_cl, lt_e, m5.at, u5, iI_sub]
        rw [show A 4 + 1 - 1 = A 4 by omega]
        generalize hB : up (up (up (up (up A (720 + 24 * A 4) x) (720 + 24 * A 4 + 1) y) (720 + 24 * A 4 + 2) s) (720 + 24 * A 4 + 3) 0) 4 (A 4 + 1) = B at m5
        have eB : ∀ j : Int, j ≠ 4 → (j < 720 + 24 * A 4 ∨ 720 + 24 * A 4 + 3 < j) → B j = A j := by
          intro j j1 j2
          rw [← hB, up_n j1, up_n (by omega), up_n (by omega), up_n (by omega), up_n (by omega)]
        have eB0 : B 4 = A 4 + 1 := by rw [← hB, up_s]
        have eB1 : B (720 + 24 * A 4) = x := by rw [← hB, up_n (by omega), up_n (by omega), up_n (by omega), up_n (by omega), up_s]
        have eB2 : B (720 + 24 * A 4 + 1) = y := by rw [← hB, up_n (by omega), up_n (by omega), up_n (by omega), up_s]
        have eB3 : B (720 + 24 * A 4 + 2) = s := by rw [← hB, up_n (by omega), up_n (by omega), up_s]
        have eB4 : B (720 + 24 * A 4 + 3) = 0 := by rw [← hB, up_n (by omega), up_s]
        refine ⟨_, _, _, rfl, rfl, w, h, B, G, m5, by rw [q12_image_a, q12_image_a, q12_image_a, q12_image_a, q12_image_a]; exact r2, ⟨hA.1.cg (fun j hj => eB j (by omega) (by omega)), hA.2.1.cg (fun j hj => eB j (by omega) (by omega)), ?_, ?_, ?_⟩, r4, ⟨hW.cg hA.1 (fun j hj => eB j (by omega) (by omega)), hV.cg (fun j hj => eB j (by omega) (by omega)), ?_, RFl.cg hA.2.2.2.1 hA.2.1 hFl (fun j j1 j2 => eB j (by omega) (by omega))⟩, r6, ?_, r8, FrB r9 r10 (by rw [q12_taped_a, q12_taped_a, q12_taped_a, q12_taped_a, q12_taped_a]) (by rw [q12_tape_a, q12_tape_a, q12_tape_a, q12_tape_a, q12_tape_a]) (by rw [q12_fault_a, q12_fault_a, q12_fault_a, q12_fault_a, q12_fault_a]) (by rw [q12_faultPlace_a, q12_faultPlace_a, q12_faultPlace_a, q12_faultPlace_a, q12_faultPlace_a])⟩
        · obtain ⟨i1, i2⟩ := hA.2.2.1
          unfold InR
          rw [eB0]
          refine ⟨by omega, fun j j1 j2 => ?_⟩
          obtain ⟨g1, g2, g3, g4, g5⟩ := i2 j j1 j2
          by_cases he : j = A 4
          · rw [he, eB1, eB2, eB3, eB4]
            rw [he] at g5
            exact ⟨hp.1, hp.2, by omega, by omega, fun q q1 q2 => by rw [eB _ (by omega) (by omega)]; exact g5 q q1 q2⟩
          · rw [eB (720 + 24 * j) (by omega) (by omega), eB (720 + 24 * j + 1) (by omega) (by omega), eB (720 + 24 * j + 2) (by omega) (by omega), eB (720 + 24 * j + 3) (by omega) (by omega)]
            exact ⟨g1, g2, g3, g4, fun q q1 q2 => by rw [eB _ (by omega) (by omega)]; exact g5 q q1 q2⟩
        · exact hA.2.2.2.1.mono hA.2.1 (by rw [eB 1 (by omega) (by omega)]; omega) (by rw [eB 2 (by omega) (by omega)]; omega) (fun j j1 j2 => eB j (by omega) (by omega)) (fun p p1 p2 => by
            have := hA.2.1.2.1
            exact ⟨eB _ (by omega) (by omega), eB _ (by omega) (by omega), eB _ (by omega) (by omega)⟩)
        · rw [eB 3 (by omega) (by omega)]
          exact hA.2.2.2.2
        · obtain ⟨i1, i2⟩ := hRe
          refine ⟨by rw [q5_count_count, eB0], fun j j1 j2 => ?_⟩
          obtain ⟨g1, g2, g3, g4, g5⟩ := i2 j j1 j2
          rw [q5_x_count, q5_x_size, q5_x_head, q5_x_y, q5_x_x, q5_y_count, q5_y_size, q5_y_head, q5_y_y, q5_y_x, q5_head_count, q5_head_size, q5_head_head, q5_head_y, q5_head_x, q5_size_count, q5_size_size, q5_size_head, q5_size_y, q5_size_x, q5_turns_count, q5_turns_size, q5_turns_head, q5_turns_y, q5_turns_x, ai_upd (by omega) j1, ai_upd (by omega) j1, ai_upd (by omega) j1, ai_upd (by omega) j1]
          by_cases he : j = A 4
          · rw [if_pos he, if_pos he, if_pos he, if_pos he, he, eB1, eB2, eB3, eB4]
            rw [he] at g5
            exact ⟨rfl, rfl, rfl, rfl, fun q q1 q2 => by rw [eB _ (by omega) (by omega)]; exact g5 q q1 q2⟩
          · rw [if_neg he, if_neg he, if_neg he, if_neg he, eB (720 + 24 * j) (by omega) (by omega), eB (720 + 24 * j + 1) (by omega) (by omega), eB (720 + 24 * j + 2) (by omega) (by omega), eB (720 + 24 * j + 3) (by omega) (by omega)]
            exact ⟨g1, g2, g3, g4, fun q q1 q2 => by rw [eB _ (by omega) (by omega)]; exact g5 q q1 q2⟩
        · rw [eB 3 (by omega) (by omega), q12_texts_a, q12_texts_a, q12_texts_a, q12_texts_a, q12_texts_a]
          exact r7
      · rw [if_neg hl, if_pos (by omega)]
        exact ⟨_, _, _, rfl, rfl, hR⟩
    · rw [if_neg (by omega), if_pos hp, if_neg hs]
      exact ⟨_, _, _, rfl, rfl, hR⟩
  · rw [if_neg (fun e => hp e.1), if_neg hp]
    exact ⟨_, _, _, rfl, rfl, hR⟩
theorem o_turned (RO : ROT) : Op_turned (Rel RO) := by
  intro v0 v1 v2 v3 v4 v5 v6 v7 v8 v9 v10 v11 v12 v13 v14 v15 v16 v17 v18 hR p0 p1
  have hR' := hR
  obtain ⟨w, h, A, G, hM, r2, hA, r4, ⟨hW, hV, hRe, hFl⟩, r6, r7, r8, r9, r10⟩ := hR'
  obtain ⟨k, k1, k2, rfl⟩ := iI_of p0
  obtain ⟨t, t1, t2, rfl⟩ := iI_of p1
  have hI4 := hA.2.2.1.1
  unfold f_X11_turned f_X12_turned
  simp (disch := omega) only [iLit, iI_inB, gd_t, iI_cl, hM.at, hRe.1, iI_sub, iI_neg, sz_isIn, sz_isWithin, bind_s, bI_0I, ite_not]
  by_cases hk : 0 ≤ k ∧ k ≤ A 4 - 1
  · by_cases ht : -8 ≤ t ∧ t ≤ 8
    · rw [if_pos hk, if_pos hk, if_pos ht, if_pos ht]
      obtain ⟨g1, g2, g3, g4, g5⟩ := hA.2.2.1.2 k hk.1 (by omega)
      obtain ⟨c1, c2, c3, c4, c5⟩ := hRe.2 k hk.1 (by omega)
      simp (disch := omega) only [iI_mul, iI_add, iI_inB, gd_t, iI_cl, hM.at, lt_e, c4, iI_lt, iI_eq]
      by_cases hl : A (720 + 24 * k + 3) < 20
      · rw [if_pos hl, if_neg (by omega)]
        have m1 := hM.set (k := 720 + 24 * k + 4 + A (720 + 24 * k + 3)) t (by omega)
        have m2 := m1.set (k := 720 + 24 * k + 3) (A (720 + 24 * k + 3) + 1) (by omega)
        have u1 : up A (720 + 24 * k + 4 + A (720 + 24 * k + 3)) t (720 + 24 * k + 3) = A (720 + 24 * k + 3) := by rw [up_n (by omega)]
        have u2 : up (up A (720 + 24 * k + 4 + A (720 + 24 * k + 3)) t) (720 + 24 * k + 3) (A (720 + 24 * k + 3) + 1) (720 + 24 * k + 3) = A (720 + 24 * k + 3) + 1 := up_s _ _ _
        simp (disch := omega) only [iI_mul, iI_add, iI_inB, gd_t, iI_cl, lt_e, m1.at, u1]
        simp (disch := omega) only [iI_mul, iI_add, iI_inB, gd_t, iI_cl, lt_e, m2.at, u2]
        generalize hB : up (up A (720 + 24 * k + 4 + A (720 + 24 * k + 3)) t) (720 + 24 * k + 3) (A (720 + 24 * k + 3) + 1) = B at m2
        have eB : ∀ j : Int, j ≠ 720 + 24 * k + 3 → j ≠ 720 + 24 * k + 4 + A (720 + 24 * k + 3) → B j = A j := by
          intro j j1 j2
          rw [← hB, up_n j1, up_n j2]
        have eB0 : B (720 + 24 * k + 3) = A (720 + 24 * k + 3) + 1 := by rw [← hB, up_s]
        have eB1 : B (720 + 24 * k + 4 + A (720 + 24 * k + 3)) = t := by rw [← hB, up_n (by omega), up_s]
        refine ⟨_, _, _, rfl, rfl, w, h, B, G, m2, by rw [q12_image_a, q12_image_a]; exact r2, ⟨hA.1.cg (fun j hj => eB j (by omega) (by omega)), hA.2.1.cg (fun j hj => eB j (by omega) (by omega)), ?_, ?_, ?_⟩, r4, ⟨hW.cg hA.1 (fun j hj => eB j (by omega) (by omega)), hV.cg (fun j hj => eB j (by omega) (by omega)), ?_, RFl.cg hA.2.2.2.1 hA.2.1 hFl (fun j j1 j2 => eB j (by omega) (by omega))⟩, r6, ?_, r8, FrB r9 r10 (by rw [q12_taped_a, q12_taped_a]) (by rw [q12_tape_a, q12_tape_a]) (by rw [q12_fault_a, q12_fault_a]) (by rw [q12_faultPlace_a, q12_faultPlace_a])⟩
        · obtain ⟨i1, i2⟩ := hA.2.2.1
          unfold InR
          rw [eB 4 (by omega) (by omega)]
          refine ⟨i1, fun j j1 j2 => ?_⟩
          obtain ⟨q1, q2, q3, q4, q5⟩ := i2 j j1 j2
          rw [eB (720 + 24 * j) (by omega) (by omega), eB (720 + 24 * j + 1) (by omega) (by omega), eB (720 + 24 * j + 2) (by omega) (by omega)]
          by_cases he : j = k
          · subst he
            rw [eB0]
            refine ⟨q1, q2, q3, by omega, fun q z1 z2 => ?_⟩
            by_cases hq : q = A (720 + 24 * j + 3)
            · rw [hq, eB1]
              exact ht
            · rw [eB _ (by omega) (by omega)]
              exact q5 q z1 z2
          · rw [eB (720 + 24 * j + 3) (by omega) (by omega)]
            exact ⟨q1, q2, q3, q4, fun q z1 z2 => by rw [eB _ (by omega) (by omega)]; exact q5 q z1 z2⟩
        · exact hA.2.2.2.1.mono hA.2.1 (by rw [eB 1 (by omega) (by omega)]; omega) (by rw [eB 2 (by omega) (by omega)]; omega) (fun j j1 j2 => eB j (by omega) (by omega)) (fun p p1 p2 => by
            have := hA.2.1.2.1
            exact ⟨eB _ (by omega) (by omega), eB _ (by omega) (by omega), eB _ (by omega) (by omega)⟩)
        · rw [eB 3 (by omega) (by omega)]
          exact hA.2.2.2.2
        · obtain ⟨i1, i2⟩ := hRe
          refine ⟨by rw [q5_count_size, q5_count_turns, eB 4 (by omega) (by omega)]; exact i1, fun j j1 j2 => ?_⟩
          obtain ⟨q1, q2, q3, q4, q5⟩ := i2 j j1 j2
          rw [q5_x_size, q5_x_turns, q5_y_size, q5_y_turns, q5_head_size, q5_head_turns, q5_size_size, q5_size_turns, q5_turns_size, q5_turns_turns, ai_upd (by omega) j1, eB (720 + 24 * j) (by omega) (by omega), eB (720 + 24 * j + 1) (by omega) (by omega), eB (720 + 24 * j + 2) (by omega) (by omega)]
          by_cases he : j = k
          · subst he
            rw [if_pos rfl, eB0]
            refine ⟨q1, q2, q3, rfl, fun q z1 z2 => ?_⟩
            rw [ai_upd (by omega) (by omega)]
            by_cases hq : q = A (720 + 24 * j + 3)
            · rw [if_pos (by omega), hq, eB1]
            · rw [if_neg (by omega), eB _ (by omega) (by omega)]
              exact q5 q z1 z2
          · rw [if_neg he, eB (720 + 24 * j + 3) (by omega) (by omega)]
            refine ⟨q1, q2, q3, q4, fun q z1 z2 => ?_⟩
            rw [ai_upd (by omega) (by omega), if_neg (by omega), eB _ (by omega) (by omega)]
            exact q5 q z1 z2
        · rw [eB 3 (by omega) (by omega), q12_texts_a, q12_texts_a]
          exact r7
      · rw [if_neg hl, if_pos (by omega)]
        exact ⟨_, _, _, rfl, rfl, hR⟩
    · rw [if_pos hk, if_pos hk, if_neg ht, if_neg ht]
      exact ⟨_, _, _, rfl, rfl, hR⟩
  · rw [if_neg hk, if_neg hk]
    exact ⟨_, _, _, rfl, rfl, hR⟩
theorem o_body (RO : ROT) : Op_body (Rel RO) := by
  intro v0 v1 v2 v3 v4 v5 v6 v7 v8 v9 v10 v11 v12 v13 v14 v15 v16 v17 v18 hR p0 p1 p2 p3
  have hR' := hR
  obtain ⟨w, h, A, G, hM, r2, hA, r4, ⟨hW, hV, hRe, hFl⟩, r6, r7, r8, r9, r10⟩ := hR'
  obtain ⟨c, c1, c2, rfl⟩ := iI_of p0
  obtain ⟨x, x1, x2, rfl⟩ := iI_of p1
  obtain ⟨y, y1, y2, rfl⟩ := iI_of p2
  obtain ⟨k, k1, k2, rfl⟩ := iI_of p3
  have hI0 := hA.1.2.2.1
  have hwb := hA.1.1
  have hw := wh_bd hA.1.1.1 hA.1.1.2.1 hA.1.1.2.2.1 hA.1.1.2.2.2
  unfold f_X11_body f_X12_body
  rw [z_isCellC hW hA.1 c1 c2, z_isCell hM hA.1 c1 c2, bind_s, bind_s]
  simp (disch := omega) only [iLit, iI_neg, sz_isIn, sz_isWithin, bind_s, bI_0I, ite_not, hW.2.2.2.1, iI_lt]
  by_cases hc : 0 ≤ c ∧ c ≤ w * h - 1
  · by_cases hx : -2 ≤ x ∧ x ≤ 2
    · by_cases hy : -2 ≤ y ∧ y ≤ 2
      · by_cases hk : 1 ≤ k ∧ k ≤ 255
        · rw [if_pos hc, if_pos hc, if_pos hx, if_pos hx, if_pos hy, if_pos hy, if_pos hk, if_pos hk]
          simp (disch := omega) only [iI_inB, gd_t, iI_cl, hM.at, iI_eq]
          by_cases hl : A 0 < 6
          · rw [if_pos hl, if_neg (by omega)]
            have hxy := xy_bd hwb.1 hwb.2.1 hwb.2.2.1 hwb.2.2.2 hc.1 (show c < w * h by omega)
            have m1 := hM.set (k := 590 + 4 * A 0) c (by omega)
            have m2 := m1.set (k := 590 + 4 * A 0 + 1) x (by omega)
            have m3 := m2.set (k := 590 + 4 * A 0 + 2) y (by omega)
            have m4 := m3.set (k := 590 + 4 * A 0 + 3) k (by omega)
            have m5 := m4.set (k := 0) (A 0 + 1) (by omega)
            have u4 : up (up (up (up A (590 + 4 * A 0) c) (590 + 4 * A 0 + 1) x) (590 + 4 * A 0 + 2) y) (590 + 4 * A 0 + 3) k 0 = A 0 := by rw [up_n (by omega), up_n (by omega), up_n (by omega), up_n (by omega)]
            have u5 : up (up (up (up (up A (590 + 4 * A 0) c) (590 + 4 * A 0 + 1) x) (590 + 4 * A 0 + 2) y) (590 + 4 * A 0 + 3) k) 0 (A 0 + 1) 0 = A 0 + 1 := up_s _ _ _
            unfold f_X10_rowOf
            simp (disch := omega) only [iI_mul, iI_add, iI_inB, gd_t, iI_cl, lt_e, hW.2.1, iI_le, iLit, iI_eq, iI_div]
            simp (disch := omega) only [iI_mul, iI_add, iI_inB, gd_t, iI_cl, lt_e, m4.at, u4]
            simp (disch := omega) only [iI_mul, iI_add, iI_inB, gd_t, iI_cl, lt_e, m5.at, u5, iI_sub]
            rw [show A 0 + 1 - 1 = A 0 by omega, if_neg (show ¬ w ≤ 0 by omega), bind_s]
            simp (disch := omega) only [q10_bodyY_bodyY, q10_w_bodyY, upd_at, hW.2.1, iI_mul, iI_sub]
            generalize hB : up (up (up (up (up A (590 + 4 * A 0) c) (590 + 4 * A 0 + 1) x) (590 + 4 * A 0 + 2) y) (590 + 4 * A 0 + 3) k) 0 (A 0 + 1) = B at m5
            have eB : ∀ j : Int, j ≠ 0 → (j < 590 + 4 * A 0 ∨ 590 + 4 * A 0 + 3 < j) → B j = A j := by
              intro j j1 j2
              rw [← hB, up_n j1, up_n (by omega), up_n (by omega), up_n (by omega), up_n (by omega)]
            have eB0 : B 0 = A 0 + 1 := by rw [← hB, up_s]
            have eB1 : B (590 + 4 * A 0) = c := by rw [← hB, up_n (by omega), up_n (by omega), up_n (by omega), up_n (by omega), up_s]
            have eB2 : B (590 + 4 * A 0 + 1) = x := by rw [← hB, up_n (by omega), up_n (by omega), up_n (by omega), up_s]
            have eB3 : B (590 + 4 * A 0 + 2) = y := by rw [← hB, up_n (by omega), up_n (by omega), up_s]
            have eB4 : B (590 + 4 * A 0 + 3) = k := by rw [← hB, up_n (by omega), up_s]
            refine ⟨_, _, _, rfl, rfl, w, h, B, G, m5, by rw [q12_image_a, q12_image_a, q12_image_a, q12_image_a, q12_image_a]; exact r2, ⟨?_, hA.2.1.cg (fun j hj => eB j (by omega) (by omega)), hA.2.2.1.cg (fun j hj => eB j (by omega) (by omega)), ?_, ?_⟩, r4, ⟨?_, hV.cg (fun j hj => eB j (by omega) (by omega)), hRe.cg (fun j hj => eB j (by omega) (by omega)), RFl.cg hA.2.2.2.1 hA.2.1 hFl (fun j j1 j2 => eB j (by omega) (by omega))⟩, r6, ?_, r8, FrB r9 r10 (by rw [q12_taped_a, q12_taped_a, q12_taped_a, q12_taped_a, q12_taped_a]) (by rw [q12_tape_a, q12_tape_a, q12_tape_a, q12_tape_a, q12_tape_a]) (by rw [q12_fault_a, q12_fault_a, q12_fault_a, q12_fault_a, q12_fault_a]) (by rw [q12_faultPlace_a, q12_faultPlace_a, q12_faultPlace_a, q12_faultPlace_a, q12_faultPlace_a])⟩
            · obtain ⟨i1, i2, i3, i4⟩ := hA.1
              refine ⟨i1, fun j j1 j2 => by rw [eB _ (by omega) (by omega)]; exact i2 j j1 j2, by omega, fun j j1 j2 => ?_⟩
              rw [eB0]
              have i5 := i4 j j1 j2
              by_cases he : j = A 0
              · rw [he, eB1, eB2, eB3, eB4]
                omega
              · rw [eB (590 + 4 * j) (by omega) (by omega), eB (590 + 4 * j + 1) (by omega) (by omega), eB (590 + 4 * j + 2) (by omega) (by omega), eB (590 + 4 * j + 3) (by omega) (by omega)]
                exact ⟨i5.1, i5.2.1, i5.2.2.1, i5.2.2.2.1, fun z => i5.2.2.2.2 (by omega)⟩
            · exact hA.2.2.2.1.mono hA.2.1 (by rw [eB 1 (by omega) (by omega)]; omega) (by rw [eB 2 (by omega) (by omega)]; omega) (fun j j1 j2 => eB j (by omega) (by omega)) (fun p p1 p2 => by
                have := hA.2.1.2.1
                exact ⟨eB _ (by omega) (by omega), eB _ (by omega) (by omega), eB _ (by omega) (by omega)⟩)
            · rw [eB 3 (by omega) (by omega)]
              exact hA.2.2.2.2
            · obtain ⟨e1, e2, e3, e4, e5, e6⟩ := hW
              refine ⟨by rw [q10_n_bodies, q10_n_bodyMark, q10_n_bodyWayY, q10_n_bodyWayX, q10_n_bodyX, q10_n_bodyY]; exact e1, by rw [q10_w_bodies, q10_w_bodyMark, q10_w_bodyWayY, q10_w_bodyWayX, q10_w_bodyX, q10_w_bodyY]; exact e2, by rw [q10_h_bodies, q10_h_bodyMark, q10_h_bodyWayY, q10_h_bodyWayX, q10_h_bodyX, q10_h_bodyY]; exact e3, by rw [q10_bodies_bodies, eB0], fun j j1 j2 => by rw [q10_own_bodies, q10_own_bodyMark, q10_own_bodyWayY, q10_own_bodyWayX, q10_own_bodyX, q10_own_bodyY, eB _ (by omega) (by omega)]; exact e5 j j1 j2, fun j j1 j2 => ?_⟩
              have e7 := e6 j j1 j2
              rw [q10_bodyX_bodies, q10_bodyX_bodyMark, q10_bodyX_bodyWayY, q10_bodyX_bodyWayX, q10_bodyX_bodyX, q10_bodyX_bodyY, q10_bodyY_bodies, q10_bodyY_bodyMark, q10_bodyY_bodyWayY, q10_bodyY_bodyWayX, q10_bodyY_bodyX, q10_bodyY_bodyY, q10_bodyWayX_bodies, q10_bodyWayX_bodyMark, q10_bodyWayX_bodyWayY, q10_bodyWayX_bodyWayX, q10_bodyWayX_bodyX, q10_bodyWayX_bodyY, q10_bodyWayY_bodies, q10_bodyWayY_bodyMark, q10_bodyWayY_bodyWayY, q10_bodyWayY_bodyWayX, q10_bodyWayY_bodyX, q10_bodyWayY_bodyY, q10_bodyMark_bodies, q10_bodyMark_bodyMark, q10_bodyMark_bodyWayY, q10_bodyMark_bodyWayX, q10_bodyMark_bodyX, q10_bodyMark_bodyY, ai_upd (by omega) j1, ai_upd (by omega) j1, ai_upd (by omega) j1, ai_upd (by omega) j1, ai_upd (by omega) j1]
              by_cases he : j = A 0
              · rw [if_pos he, if_pos he, if_pos he, if_pos he, if_pos he, he, eB1, eB2, eB3, eB4]
                exact ⟨rfl, rfl, rfl, rfl, rfl⟩
              · rw [if_neg he, if_neg he, if_neg he, if_neg he, if_neg he, eB (590 + 4 * j) (by omega) (by omega), eB (590 + 4 * j + 1) (by omega) (by omega), eB (590 + 4 * j + 2) (by omega) (by omega), eB (590 + 4 * j + 3) (by omega) (by omega)]
                exact e7
            · rw [eB 3 (by omega) (by omega), q12_texts_a, q12_texts_a, q12_texts_a, q12_texts_a, q12_texts_a]
              exact r7
          · rw [if_neg hl, if_pos (by omega)]
            exact ⟨_, _, _, rfl, rfl, hR⟩
        · rw [if_pos hc, if_pos hc, if_neg hk, if_neg hk, if_pos hx, if_pos hy]
          exact ⟨_, _, _, rfl, rfl, hR⟩
      · rw [if_pos hc, if_pos hc, if_pos hx, if_pos hx, if_neg hy, if_neg hy]
        refine ⟨_, _, _, ?_, rfl, hR⟩
        split
        · split <;> rfl
        · rfl
    · rw [if_pos hc, if_pos hc, if_neg hx, if_neg hx]
      refine ⟨_, _, _, ?_, rfl, hR⟩
      split
      · split <;> rfl
      · rfl
  · rw [if_neg hc, if_neg hc]
    exact ⟨_, _, _, rfl, rfl, hR⟩
