-- layer 2: pair, body, read, turned, about
theorem o_pair (RO : ROT) : Op_pair (Rel RO) := by
  intro v0 v1 v2 v3 v4 v5 v6 v7 v8 v9 v10 v11 v12 v13 v14 v15 v16 v17 v18 hR p0 p1 p2
  have hR' := hR
  obtain ⟨w, h, A, G, hM, r2, hA, r4, ⟨hW, hV, hRe, hFl⟩, r6, r7, r8, r9, r10⟩ := hR'
  obtain ⟨a, a1, a2, rfl⟩ := iI_of p0
  obtain ⟨b, b1, b2, rfl⟩ := iI_of p1
  obtain ⟨d, d1, d2, rfl⟩ := iI_of p2
  have hE := hA.2.1
  have hE1 := hE.1
  have hE2 := hE.2.1
  unfold f_X11_pair f_X12_pair
  simp (disch := omega) only [z_isLens hM hE, z_isLensC hV hE, bind_s, bI_0I, ite_not, sz_isIn, sz_isWithin, iLit, iI_eq]
  by_cases ha : 0 ≤ a ∧ a ≤ A 1 - 1
  · by_cases hb : 0 ≤ b ∧ b ≤ A 1 - 1
    · by_cases hab : a = b
      · rw [if_pos ha, if_pos ha, if_pos hb, if_pos hb, if_pos hab, if_pos hab]
        exact ⟨_, _, _, rfl, rfl, hR⟩
      · by_cases hd : 1 ≤ d ∧ d ≤ 8
        · rw [if_pos ha, if_pos ha, if_pos hb, if_pos hb, if_neg hab, if_neg hab, if_pos hd, if_pos hd]
          simp (disch := omega) only [hV.2.1, iI_inB, gd_t, iI_cl, hM.at, iI_lt, iI_eq]
          by_cases hl : A 2 < 16
          · rw [if_pos hl, if_neg (by omega)]
            have m1 := hM.set (k := 660 + 3 * A 2) a (by omega)
            have m2 := m1.set (k := 660 + 3 * A 2 + 1) b (by omega)
            have m3 := m2.set (k := 660 + 3 * A 2 + 2) d (by omega)
            have m4 := m3.set (k := 2) (A 2 + 1) (by omega)
            have u3 : up (up (up A (660 + 3 * A 2) a) (660 + 3 * A 2 + 1) b) (660 + 3 * A 2 + 2) d 2 = A 2 := by rw [up_n (by omega), up_n (by omega), up_n (by omega)]
            have u4 : up (up (up (up A (660 + 3 * A 2) a) (660 + 3 * A 2 + 1) b) (660 + 3 * A 2 + 2) d) 2 (A 2 + 1) 2 = A 2 + 1 := up_s _ _ _
            simp (disch := omega) only [iI_mul, iI_add, iI_inB, gd_t, iI_cl, lt_e]
            simp (disch := omega) only [iI_mul, iI_add, iI_inB, gd_t, iI_cl, lt_e, m3.at, u3]
            simp (disch := omega) only [iI_mul, iI_add, iI_inB, gd_t, iI_cl, lt_e, m4.at, u4, iI_sub]
            rw [show A 2 + 1 - 1 = A 2 by omega]
            generalize hB : up (up (up (up A (660 + 3 * A 2) a) (660 + 3 * A 2 + 1) b) (660 + 3 * A 2 + 2) d) 2 (A 2 + 1) = B at m4
            have eB : ∀ j : Int, j ≠ 2 → j ≠ 660 + 3 * A 2 → j ≠ 660 + 3 * A 2 + 1 → j ≠ 660 + 3 * A 2 + 2 → B j = A j := by
              intro j j1 j2 j3 j4
              rw [← hB, up_n j1, up_n j4, up_n j3, up_n j2]
            have eB1 : B 2 = A 2 + 1 := by rw [← hB, up_s]
            have eB2 : B (660 + 3 * A 2) = a := by rw [← hB, up_n (by omega), up_n (by omega), up_n (by omega), up_s]
            have eB3 : B (660 + 3 * A 2 + 1) = b := by rw [← hB, up_n (by omega), up_n (by omega), up_s]
            have eB4 : B (660 + 3 * A 2 + 2) = d := by rw [← hB, up_n (by omega), up_s]
            have hf1 := FrA (f := upd (pX12_a v17) (660 + 3 * A 2).toNat (iI a)) r9 r10
            have hf2 := FrA (f := upd (pX12_a (sX12_a v17 (upd (pX12_a v17) (660 + 3 * A 2).toNat (iI a)))) (660 + 3 * A 2 + 1).toNat (iI b)) hf1.1 hf1.2
            have hf3 := FrA (f := upd (pX12_a (sX12_a (sX12_a v17 (upd (pX12_a v17) (660 + 3 * A 2).toNat (iI a))) (upd (pX12_a (sX12_a v17 (upd (pX12_a v17) (660 + 3 * A 2).toNat (iI a)))) (660 + 3 * A 2 + 1).toNat (iI b)))) (660 + 3 * A 2 + 2).toNat (iI d)) hf2.1 hf2.2
            have hf4 := FrA (f := upd (pX12_a (sX12_a (sX12_a (sX12_a v17 (upd (pX12_a v17) (660 + 3 * A 2).toNat (iI a))) (upd (pX12_a (sX12_a v17 (upd (pX12_a v17) (660 + 3 * A 2).toNat (iI a)))) (660 + 3 * A 2 + 1).toNat (iI b))) (upd (pX12_a (sX12_a (sX12_a v17 (upd (pX12_a v17) (660 + 3 * A 2).toNat (iI a))) (upd (pX12_a (sX12_a v17 (upd (pX12_a v17) (660 + 3 * A 2).toNat (iI a)))) (660 + 3 * A 2 + 1).toNat (iI b)))) (660 + 3 * A 2 + 2).toNat (iI d)))) (Int.toNat 2) (iI (A 2 + 1))) hf3.1 hf3.2
            refine ⟨_, _, _, rfl, rfl, w, h, B, G, m4, by rw [q12_image_a, q12_image_a, q12_image_a, q12_image_a]; exact r2, ⟨hA.1.cg (fun j hj => eB j (by omega) (by omega) (by omega) (by omega)), ?_, hA.2.2.1.cg (fun j hj => eB j (by omega) (by omega) (by omega) (by omega)), ?_, ?_⟩, r4, ⟨hW.cg hA.1 (fun j hj => eB j (by omega) (by omega) (by omega) (by omega)), ?_, hRe.cg (fun j hj => eB j (by omega) (by omega) (by omega) (by omega)), RFl.cg hA.2.2.2.1 hE hFl (fun j j1 j2 => eB j (by omega) (by omega) (by omega) (by omega))⟩, r6, ?_, r8, hf4.1, hf4.2⟩
            · obtain ⟨i1, i2, i3, i4⟩ := hE
              unfold InE
              rw [eB1, eB 1 (by omega) (by omega) (by omega) (by omega)]
              refine ⟨i1, by omega, fun j j1 j2 => ?_, fun j j1 j2 => ?_⟩
              · rw [eB (620 + 2 * j) (by omega) (by omega) (by omega) (by omega), eB (620 + 2 * j + 1) (by omega) (by omega) (by omega) (by omega)]
                exact i3 j j1 j2
              · by_cases he : j = A 2
                · rw [he, eB2, eB3, eB4]
                  omega
                · rw [eB (660 + 3 * j) (by omega) (by omega) (by omega) (by omega), eB (660 + 3 * j + 1) (by omega) (by omega) (by omega) (by omega), eB (660 + 3 * j + 2) (by omega) (by omega) (by omega) (by omega)]
                  exact i4 j j1 (by omega)
            · exact hA.2.2.2.1.mono hE (by rw [eB 1 (by omega) (by omega) (by omega) (by omega)]; omega) (by omega) (fun j j1 j2 => eB j (by omega) (by omega) (by omega) (by omega)) (fun p p1 p2 => ⟨eB _ (by omega) (by omega) (by omega) (by omega), eB _ (by omega) (by omega) (by omega) (by omega), eB _ (by omega) (by omega) (by omega) (by omega)⟩)
            · rw [eB 3 (by omega) (by omega) (by omega) (by omega)]
              exact hA.2.2.2.2
            · obtain ⟨i1, i2, i3, i4⟩ := hV
              refine ⟨by rw [q1_lenses_pairs, q1_lenses_pairDelay, q1_lenses_pairB, q1_lenses_pairA, eB 1 (by omega) (by omega) (by omega) (by omega)]; exact i1, by rw [q1_pairs_pairs, eB1], fun j j1 j2 => ?_, fun j j1 j2 => ?_⟩
              · rw [q1_lensSide_pairs, q1_lensSide_pairDelay, q1_lensSide_pairB, q1_lensSide_pairA, q1_lensWidth_pairs, q1_lensWidth_pairDelay, q1_lensWidth_pairB, q1_lensWidth_pairA, eB (620 + 2 * j) (by omega) (by omega) (by omega) (by omega), eB (620 + 2 * j + 1) (by omega) (by omega) (by omega) (by omega)]
                exact i3 j j1 j2
              · rw [q1_pairA_pairs, q1_pairA_pairDelay, q1_pairA_pairB, q1_pairA_pairA, q1_pairB_pairs, q1_pairB_pairDelay, q1_pairB_pairB, q1_pairB_pairA, q1_pairDelay_pairs, q1_pairDelay_pairDelay, q1_pairDelay_pairB, q1_pairDelay_pairA, ai_upd (by omega) j1, ai_upd (by omega) j1, ai_upd (by omega) j1]
                by_cases he : j = A 2
                · rw [if_pos he, if_pos he, if_pos he, he, eB2, eB3, eB4]
                  exact ⟨rfl, rfl, rfl⟩
                · rw [if_neg he, if_neg he, if_neg he, eB (660 + 3 * j) (by omega) (by omega) (by omega) (by omega), eB (660 + 3 * j + 1) (by omega) (by omega) (by omega) (by omega), eB (660 + 3 * j + 2) (by omega) (by omega) (by omega) (by omega)]
                  exact i4 j j1 j2
            · rw [eB 3 (by omega) (by omega) (by omega) (by omega), q12_texts_a, q12_texts_a, q12_texts_a, q12_texts_a]
              exact r7
          · rw [if_neg hl, if_pos (by omega)]
            exact ⟨_, _, _, rfl, rfl, hR⟩
        · rw [if_pos ha, if_pos ha, if_pos hb, if_pos hb, if_neg hab, if_neg hab, if_neg hd, if_neg hd]
          exact ⟨_, _, _, rfl, rfl, hR⟩
    · rw [if_pos ha, if_pos ha, if_neg hb, if_neg hb]
      exact ⟨_, _, _, rfl, rfl, hR⟩
  · rw [if_neg ha, if_neg ha]
    exact ⟨_, _, _, rfl, rfl, hR⟩
theorem o_about (RO : ROT) : Op_about (Rel RO) := by
  intro v0 v1 v2 v3 v4 v5 v6 v7 v8 v9 v10 v11 v12 v13 v14 v15 v16 v17 v18 hR p0
  have hR' := hR
  obtain ⟨w, h, A, G, hM, r2, hA, r4, ⟨hW, hV, hRe, hFl⟩, r6, r7, r8, ⟨T, Z, t1, t2, t3, t4, t5, t6⟩, r10⟩ := hR'
  have hw := wh_bd hA.1.1.1 hA.1.1.2.1 hA.1.1.2.2.1 hA.1.1.2.2.2
  have hn2 : ((w * h).toNat : Int) = w * h := Int.toNat_of_nonneg (by omega)
  have key : ∀ (n : Nat) (c a : Int), 0 ≤ c → (n : Int) + c = w * h → 0 ≤ a → a + n ≤ 576 → ∀ F : Nat, n < F → ∃ r, f_X12_about_b106 v17 F (iI a, iI c) = some r ∧ f_X10_countOwnMarks_b4 v11 F (iI a, iI c) = some r := by
    intro n
    induction n with
    | zero =>
      intro c a c1 c2 a1 a2 F hF
      obtain ⟨F, rfl⟩ : ∃ F', F = F' + 1 := ⟨F - 1, by omega⟩
      refine ⟨iI a, ?_, ?_⟩
      · show f_X12_about_b106B v17 (f_X12_about_b106 v17 F) (iI a) (iI c) = _
        unfold f_X12_about_b106B
        simp (disch := omega) only [hM.1, hM.2.1, iI_mul, iI_le]
        rw [if_pos (by omega)]
      · show f_X10_countOwnMarks_b4B v11 (f_X10_countOwnMarks_b4 v11 F) (iI a) (iI c) = _
        unfold f_X10_countOwnMarks_b4B
        simp (disch := omega) only [hW.1, ofNat_toNat, iI_le]
        rw [if_pos (by omega)]
    | succ n ih =>
      intro c a c1 c2 a1 a2 F hF
      obtain ⟨F, rfl⟩ : ∃ F', F = F' + 1 := ⟨F - 1, by omega⟩
      obtain ⟨r, i1, i2⟩ := ih (c + 1) (if A (10 + c) = 0 then a else a + 1) (by omega) (by omega) (by split <;> omega) (by split <;> omega) F (by omega)
      have hb := hA.1.2.1 c c1 (by omega)
      refine ⟨r, ?_, ?_⟩
      · show f_X12_about_b106B v17 (f_X12_about_b106 v17 F) (iI a) (iI c) = _
        unfold f_X12_about_b106B f_X12_about_b137
        simp (disch := omega) only [iLit, hM.1, hM.2.1, iI_mul, iI_le, iI_add, iI_inB, gd_t, iI_cl, hM.at, lt_e]
        rw [if_neg (by omega)]
        by_cases hz : A (10 + c) = 0
        · rw [if_pos (by omega), Int.add_zero]
          rw [if_pos hz] at i1
          exact i1
        · rw [if_neg (by omega)]
          rw [if_neg hz] at i1
          exact i1
      · show f_X10_countOwnMarks_b4B v11 (f_X10_countOwnMarks_b4 v11 F) (iI a) (iI c) = _
        unfold f_X10_countOwnMarks_b4B f_X10_countOwnMarks_b25
        simp (disch := omega) only [iLit, hW.1, ofNat_toNat, iI_le, iI_inB, hn2, gd_t, iI_cl, hW.2.2.2.2.1, iI_eq, iI_add, lt_e]
        rw [if_neg (by omega)]
        by_cases hz : A (10 + c) = 0
        · rw [if_pos hz]
          rw [if_pos hz] at i2
          exact i2
        · rw [if_neg hz]
          rw [if_neg hz] at i2
          exact i2
  obtain ⟨r, k1, k2⟩ := key (w * h).toNat 0 0 (by omega) (by omega) (by omega) (by omega) fU (by rw [fU_v]; omega)
  have k1' : f_X12_about_b106 v17 fU (0, 0) = some r := k1
  have k2' : f_X10_countOwnMarks v11 = some r := k2
  unfold f_X11_about f_X12_about
  rw [k1', k2']
  simp (disch := omega) only [iLit, iI_inB, gd_t, iI_cl, hM.at, hM.1, hM.2.1, hW.2.1, hW.2.2.1, hW.2.2.2.1, hV.1, hV.2.1, r7.1, hRe.1, t2, t3, bind_s]
  split
  · exact ⟨_, rfl, rfl, hR⟩
  · split
    · exact ⟨_, rfl, rfl, hR⟩
    · split
      · exact ⟨_, rfl, rfl, hR⟩
      · split
        · exact ⟨_, rfl, rfl, hR⟩
        · split
          · exact ⟨_, rfl, rfl, hR⟩
          · split
            · exact ⟨_, rfl, rfl, hR⟩
            · split
              · exact ⟨_, rfl, rfl, hR⟩
              · split
                · exact ⟨_, rfl, rfl, hR⟩
                · split
                  · exact ⟨_, rfl, rfl, hR⟩
                  · exact ⟨_, rfl, rfl, hR⟩
