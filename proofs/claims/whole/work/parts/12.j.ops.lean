-- layer 2: image, back, tick
theorem z_copyRow {n : Int} (h0 : 0 ≤ n) (h1 : n < 2147483648) (f g : Nat → Int32) : f_X11_copyRow n.toNat n.toNat f g = some (va_cpy f g 0 0 n.toNat) := by
  unfold f_X11_copyRow
  simp (disch := omega) only [ofNat_toNat, iI_lt, iLit, iI_cl, ite_self, lt_e]
  rw [gd_t (by omega)]
  rfl
theorem cpy_at {f g : Nat → Int32} {n k : Int} (k1 : 0 ≤ k) (k2 : k < n) : va_cpy f g 0 0 n.toNat k.toNat = f k.toNat := by
  unfold va_cpy
  rw [if_pos (by omega)]
  congr 1
  omega
theorem z_copyM : ∀ (n : Nat) (i : Int) (f g : Nat → Int32), 0 ≤ i → (n : Int) + i = 3170 → (∀ k : Int, 0 ≤ k → k < i → g k.toNat = f k.toNat) → ∀ F : Nat, n < F → Wp (f_X12_copy_b2 3170 3170 f F (iI i, g)) (fun r => ∀ k : Int, 0 ≤ k → k < 3170 → r k.toNat = f k.toNat) := by
  intro n
  induction n with
  | zero =>
    intro i f g i1 i2 h F hF
    obtain ⟨F, rfl⟩ : ∃ F', F = F' + 1 := ⟨F - 1, by omega⟩
    show Wp (f_X12_copy_b2B 3170 3170 f (f_X12_copy_b2 3170 3170 f F) (iI i) g) _
    unfold f_X12_copy_b2B
    simp (disch := omega) only [iLit, iI_le]
    rw [if_pos (by omega)]
    exact wp_some (fun k k1 k2 => h k k1 (by omega))
  | succ n ih =>
    intro i f g i1 i2 h F hF
    obtain ⟨F, rfl⟩ : ∃ F', F = F' + 1 := ⟨F - 1, by omega⟩
    show Wp (f_X12_copy_b2B 3170 3170 f (f_X12_copy_b2 3170 3170 f F) (iI i) g) _
    unfold f_X12_copy_b2B
    simp (disch := omega) only [iLit, iI_le, iI_inB, gd_t, iI_cl, iI_add, lt_e]
    rw [if_neg (by omega)]
    refine ih (i + 1) f _ (by omega) (by omega) (fun k k1 k2 => ?_) F (by omega)
    rw [ai_upd i1 k1]
    by_cases he : k = i
    · rw [if_pos he, he]
    · rw [if_neg he, h k k1 (by omega)]
theorem z_copyEye {v u : BX1} {A : Int → Int} (hV : REy v A) : Wp (f_X1_copyFrom v u) (fun r => REy r A) := by
  unfold f_X1_copyFrom
  rw [show (16 : Nat) = Int.toNat 16 from rfl]
  simp only [z_copyRow (show (0 : Int) ≤ 16 by omega) (show (16 : Int) < 2147483648 by omega), bind_s, lt_e]
  obtain ⟨h1, h2, h3, h4⟩ := hV
  refine wp_some ⟨?_, ?_, fun k k1 k2 => ?_, fun k k1 k2 => ?_⟩
  · rw [q1_lenses_pairs, q1_lenses_lenses]
    exact h1
  · rw [q1_pairs_pairs]
    exact h2
  · rw [q1_lensSide_pairs, q1_lensSide_lenses, q1_lensSide_pairDelay, q1_lensSide_pairB, q1_lensSide_pairA, q1_lensSide_lensWidth, q1_lensSide_lensSide, q1_lensWidth_pairs, q1_lensWidth_lenses, q1_lensWidth_pairDelay, q1_lensWidth_pairB, q1_lensWidth_pairA, q1_lensWidth_lensWidth, cpy_at k1 k2, cpy_at k1 k2]
    exact h3 k k1 k2
  · rw [q1_pairA_pairs, q1_pairA_lenses, q1_pairA_pairDelay, q1_pairA_pairB, q1_pairA_pairA, q1_pairB_pairs, q1_pairB_lenses, q1_pairB_pairDelay, q1_pairB_pairB, q1_pairDelay_pairs, q1_pairDelay_lenses, q1_pairDelay_pairDelay, cpy_at k1 k2, cpy_at k1 k2, cpy_at k1 k2]
    exact h4 k k1 k2
theorem z_copyReads {v u : BX5} {w h : Int} {A : Int → Int} (hV : RRe v A) : Wp (f_X5_copyFrom v u) (fun r => RRe r A) := by
  unfold f_X5_copyFrom
  rw [show (6 : Nat) = Int.toNat 6 from rfl, show (120 : Nat) = Int.toNat 120 from rfl]
  simp only [z_copyRow (show (0 : Int) ≤ 6 by omega) (show (6 : Int) < 2147483648 by omega), z_copyRow (show (0 : Int) ≤ 120 by omega) (show (120 : Int) < 2147483648 by omega), bind_s, lt_e]
  obtain ⟨h1, h2⟩ := hV
  refine wp_some ⟨?_, fun k k1 k2 => ?_⟩
  · rw [q5_count_count]
    exact h1
  · rw [q5_x_count, q5_x_turns, q5_x_size, q5_x_head, q5_x_y, q5_x_x, q5_y_count, q5_y_turns, q5_y_size, q5_y_head, q5_y_y, q5_head_count, q5_head_turns, q5_head_size, q5_head_head, q5_size_count, q5_size_turns, q5_size_size, q5_turns_count, q5_turns_turns, cpy_at k1 k2, cpy_at k1 k2, cpy_at k1 k2, cpy_at k1 k2]
    obtain ⟨g1, g2, g3, g4, g5⟩ := h2 k k1 k2
    exact ⟨g1, g2, g3, g4, fun j j1 j2 => by rw [cpy_at (by omega) (by omega)]; exact g5 j j1 j2⟩
theorem z_copyWorld {v u : BX10} {w h : Int} {A : Int → Int} (hV : RWo v w h A) (hI : InW w h A) (hn : pX10_n u = (w * h).toNat) (hw : pX10_w u = iI w) (hh : pX10_h u = iI h) : Wp (f_X10_copyFrom v u) (fun r => RWo r w h A) := by
  have hwh := wh_bd hI.1.1 hI.1.2.1 hI.1.2.2.1 hI.1.2.2.2
  unfold f_X10_copyFrom
  rw [hn, hV.1, show (6 : Nat) = Int.toNat 6 from rfl]
  simp only [z_copyRow (show (0 : Int) ≤ 6 by omega) (show (6 : Int) < 2147483648 by omega), z_copyRow (show (0 : Int) ≤ w * h by omega) (show w * h < 2147483648 by omega), bind_s, lt_e]
  obtain ⟨h1, h2, h3, h4, h5, h6⟩ := hV
  refine wp_some ⟨?_, ?_, ?_, ?_, fun k k1 k2 => ?_, fun k k1 k2 => ?_⟩
  · rw [q10_n_bodies, q10_n_bodyMark, q10_n_bodyWayY, q10_n_bodyWayX, q10_n_bodyY, q10_n_bodyX, q10_n_own]
    exact hn
  · rw [q10_w_bodies, q10_w_bodyMark, q10_w_bodyWayY, q10_w_bodyWayX, q10_w_bodyY, q10_w_bodyX, q10_w_own]
    exact hw
  · rw [q10_h_bodies, q10_h_bodyMark, q10_h_bodyWayY, q10_h_bodyWayX, q10_h_bodyY, q10_h_bodyX, q10_h_own]
    exact hh
  · rw [q10_bodies_bodies]
    exact h4
  · rw [q10_own_bodies, q10_own_bodyMark, q10_own_bodyWayY, q10_own_bodyWayX, q10_own_bodyY, q10_own_bodyX, q10_own_own, cpy_at k1 k2]
    exact h5 k k1 k2
  · rw [q10_bodyX_bodies, q10_bodyX_bodyMark, q10_bodyX_bodyWayY, q10_bodyX_bodyWayX, q10_bodyX_bodyY, q10_bodyX_bodyX, q10_bodyY_bodies, q10_bodyY_bodyMark, q10_bodyY_bodyWayY, q10_bodyY_bodyWayX, q10_bodyY_bodyY, q10_bodyWayX_bodies, q10_bodyWayX_bodyMark, q10_bodyWayX_bodyWayY, q10_bodyWayX_bodyWayX, q10_bodyWayY_bodies, q10_bodyWayY_bodyMark, q10_bodyWayY_bodyWayY, q10_bodyMark_bodies, q10_bodyMark_bodyMark, cpy_at k1 k2, cpy_at k1 k2, cpy_at k1 k2, cpy_at k1 k2, cpy_at k1 k2]
    exact h6 k k1 k2
theorem z_copyFlight {v u : BX2} {A : Int → Int} (hV : RFl v A) (hF : InF A) (hE : InE A) : Wp (f_X2_copyFrom v u) (fun r => RFl r A) := by
  unfold f_X2_copyFrom
  rw [show (300 : Nat) = Int.toNat 300 from rfl, show (960 : Nat) = Int.toNat 960 from rfl]
  obtain ⟨⟨b1, b2, b3⟩, h2⟩ := hV
  simp only [z_copyRow (show (0 : Int) ≤ 300 by omega) (show (300 : Int) < 2147483648 by omega), z_copyRow (show (0 : Int) ≤ 960 by omega) (show (960 : Int) < 2147483648 by omega), bind_s, lt_e, gd_t b1]
  refine wp_gd b1 (wp_gd b2 (wp_gd b3 (wp_some ?_)))
  have hE1 := hE.1
  refine ⟨⟨?_, ?_, ?_⟩, ?_⟩
  · rw [q2_begun_pairs, q2_begun_lenses, q2_begun_head, q2_begun_y, q2_begun_x, q2_begun_over, q2_begun_count, q2_begun_rested, q2_begun_hit, q2_begun_begun]
    exact b1
  · rw [q2_hit_pairs, q2_hit_lenses, q2_hit_head, q2_hit_y, q2_hit_x, q2_hit_over, q2_hit_count, q2_hit_rested, q2_hit_hit]
    exact b2
  · rw [q2_rested_pairs, q2_rested_lenses, q2_rested_head, q2_rested_y, q2_rested_x, q2_rested_over, q2_rested_count, q2_rested_rested]
    exact b3
  · rw [q2_begun_pairs, q2_begun_lenses, q2_begun_head, q2_begun_y, q2_begun_x, q2_begun_over, q2_begun_count, q2_begun_rested, q2_begun_hit, q2_begun_begun, q2_hit_pairs, q2_hit_lenses, q2_hit_head, q2_hit_y, q2_hit_x, q2_hit_over, q2_hit_count, q2_hit_rested, q2_hit_hit, q2_rested_pairs, q2_rested_lenses, q2_rested_head, q2_rested_y, q2_rested_x, q2_rested_over, q2_rested_count, q2_rested_rested, q2_count_pairs, q2_count_lenses, q2_count_head, q2_count_y, q2_count_x, q2_count_over, q2_count_count, q2_x_pairs, q2_x_lenses, q2_x_head, q2_x_y, q2_x_x, q2_y_pairs, q2_y_lenses, q2_y_head, q2_y_y, q2_head_pairs, q2_head_lenses, q2_head_head, q2_over_pairs, q2_over_lenses, q2_over_head, q2_over_y, q2_over_x, q2_over_over, q2_lenses_pairs, q2_lenses_lenses, q2_pairs_pairs]
    rcases h2 with g | ⟨g1, g2, g3, g4, g5, g6, g7, g8, g9, g10, g11, g12⟩
    · exact Or.inl g
    · refine Or.inr ⟨g1, g2, g3, g4, g5, g6, g7, g8, g9, g10, g11, fun t t1 t2 => ?_⟩
      rw [q2_rows_pairs, q2_rows_lenses, q2_rows_head, q2_rows_y, q2_rows_x, q2_rows_over, q2_rows_count, q2_rows_rested, q2_rows_hit, q2_rows_begun, q2_rows_takes, q2_rows_rows, q2_takes_pairs, q2_takes_lenses, q2_takes_head, q2_takes_y, q2_takes_x, q2_takes_over, q2_takes_count, q2_takes_rested, q2_takes_hit, q2_takes_begun, q2_takes_takes]
      rcases hF with f | ⟨f1, f2, f3, f4, _⟩
      · exact absurd f g1
      · obtain ⟨k1, k2⟩ := g12 t t1 t2
        exact ⟨fun j j1 j2 => by rw [cpy_at (by omega) (by omega)]; exact k1 j j1 j2, fun j j1 j2 => by rw [cpy_at (by omega) (by omega)]; exact k2 j j1 j2⟩
theorem z_copyCodes {v0 : BX8} {v2 : BX1} {v3 : BX2} {v4 : BX5} {v5 : BX10} {b : PB} (hc : ∀ i : Int, 0 ≤ i → i < 8 → ∃ q, pX8_codes v0 i.toNat = some q ∧ q ∈ b.1) {v6 : BX1} {v7 : BX2} {v8 : BX5} {v9 : BX10} : ∀ (n : Nat) (i : Int) (v1 : BX8), 0 ≤ i → (n : Int) + i = 8 → (∀ k : Int, 0 ≤ k → k < i → pX8_codes v1 k.toNat = pX8_codes v0 k.toNat) → ∀ F : Nat, n < F → Wp (f_X8_copyFrom_b54 v0 v2 v3 v4 v5 b F (iI i, v1, v6, v7, v8, v9)) (fun r => (pX8_rules r.1 = pX8_rules v1 ∧ ∀ k : Int, 0 ≤ k → k < 8 → pX8_codes r.1 k.toNat = pX8_codes v0 k.toNat) ∧ r.2 = (v6, v7, v8, v9)) := by
  intro n
  induction n with
  | zero =>
    intro i v1 i1 i2 h F hF
    obtain ⟨F, rfl⟩ : ∃ F', F = F' + 1 := ⟨F - 1, by omega⟩
    show Wp (f_X8_copyFrom_b54B v0 v2 v3 v4 v5 b (f_X8_copyFrom_b54 v0 v2 v3 v4 v5 b F) (iI i) v1 v6 v7 v8 v9) _
    unfold f_X8_copyFrom_b54B
    simp (disch := omega) only [iLit, iI_le]
    rw [if_pos (by omega)]
    exact wp_some ⟨⟨rfl, fun k k1 k2 => h k k1 (by omega)⟩, rfl⟩
  | succ n ih =>
    intro i v1 i1 i2 h F hF
    obtain ⟨F, rfl⟩ : ∃ F', F = F' + 1 := ⟨F - 1, by omega⟩
    show Wp (f_X8_copyFrom_b54B v0 v2 v3 v4 v5 b (f_X8_copyFrom_b54 v0 v2 v3 v4 v5 b F) (iI i) v1 v6 v7 v8 v9) _
    obtain ⟨q, hq, hqb⟩ := hc i i1 (by omega)
    unfold f_X8_copyFrom_b54B
    simp (disch := omega) only [iLit, iI_le, iI_inB, gd_t, iI_cl, iI_add, lt_e, hq, bind_s]
    rw [if_neg (by omega)]
    refine wp_mono (ih (i + 1) _ (by omega) (by omega) (fun k k1 k2 => ?_) F (by omega)) (fun r hr => ⟨⟨?_, hr.1.2⟩, hr.2⟩)
    · rw [q8_codes_codes]
      unfold va_up
      by_cases he : k = i
      · rw [if_pos (by rw [he]), he, hq]
      · rw [if_neg (by omega), h k k1 (by omega)]
    · rw [hr.1.1, q8_rules_codes]
