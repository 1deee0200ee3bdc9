-- layer 2: one, as a whole
theorem one_all {D : PD} {SU ON : BX4 → BX9 → Option (Int32 × BX4 × BX9)} {o : Int} (hSU : o < 8 → SumS D SU (o + 1)) (hON : o < 8 → OneS D ON (o + 1)) : OneS D (fo_X4_one SU ON) o := by
  intro c t m j E Q hq k nv nb hS ho hi hp hh hl hnv
  have h1 := hS.1
  have h2 := hS.2.1
  have kb := h1.tk.kb
  have jn := h1.n.2.2
  unfold fo_X4_one
  refine wp_lt ?_
  rw [h2.2.2.2.1]
  have ne : ∀ g : Int, -6 ≤ g → g < 2147483648 → dK D j ≠ g → ¬ iI (dK D j) = iI g := fun g g1 g2 hn => iI_ne (by omega) (by omega) (by omega) (by omega) hn
  by_cases c1 : dK D j = -4
  · rw [if_pos (show iI (dK D j) = -4 by rw [c1]; rfl)]
    exact one_wrap (wp_mono (one_letter hS ho hi hp hl hnv c1) (fun r => OneOut.r01))
  rw [if_neg (show ¬ iI (dK D j) = -4 from ne (-4) (by omega) (by omega) c1)]
  by_cases c2 : dK D j = -3
  · rw [if_pos (show iI (dK D j) = -3 by rw [c2]; rfl)]
    exact one_wrap (wp_mono (one_number hS ho hi hp hl hnv c2) (fun r => OneOut.r01))
  rw [if_neg (show ¬ iI (dK D j) = -3 from ne (-3) (by omega) (by omega) c2)]
  by_cases c3 : dK D j = 40
  · rw [if_pos (show iI (dK D j) = 40 by rw [c3]; rfl)]
    exact one_wrap (wp_mono (one_bracket hSU hS ho hi hp hh hl hnv c3) (fun r => OneOut.r01))
  rw [if_neg (show ¬ iI (dK D j) = 40 from ne 40 (by omega) (by omega) c3)]
  by_cases c4 : dK D j = 45
  · rw [if_pos (show iI (dK D j) = 45 by rw [c4]; rfl)]
    exact one_wrap (wp_mono (one_neg hON hS ho hi hp hh hl hnv c4) (fun r => OneOut.r01))
  rw [if_neg (show ¬ iI (dK D j) = 45 from ne 45 (by omega) (by omega) c4)]
  have hbg := z_beginK h1.tk c2 c1
  by_cases c5 : dK D j = 7168376
  · rw [if_pos (show iI (dK D j) = 7168376 by rw [c5]; rfl)]
    rw [if_neg (by omega), if_neg (by omega), if_neg (by omega), if_neg (by omega), if_pos c5] at hbg
    exact one_chosen (y := 42) (x' := 12) hSU hS ho hi hp hh hl hnv (Or.inr ⟨rfl, rfl⟩) (jn (by omega)) hbg
  rw [if_neg (show ¬ iI (dK D j) = 7168376 from ne 7168376 (by omega) (by omega) c5)]
  by_cases c6 : dK D j = 7170414
  · rw [if_pos (show iI (dK D j) = 7170414 by rw [c6]; rfl)]
    rw [if_neg (by omega), if_neg (by omega), if_neg (by omega), if_pos c6] at hbg
    exact one_chosen (y := 41) (x' := 11) hSU hS ho hi hp hh hl hnv (Or.inl ⟨rfl, rfl⟩) (jn (by omega)) hbg
  rw [if_neg (show ¬ iI (dK D j) = 7170414 from ne 7170414 (by omega) (by omega) c6)]
  by_cases c7 : dK D j = 1818586739
  · rw [if_pos (show iI (dK D j) = 1818586739 by rw [c7]; rfl)]
    rw [if_neg (by omega), if_pos c7] at hbg
    exact one_eye (x := 31) (x' := 2) hS ho hi hp hl hnv (Or.inl ⟨rfl, rfl⟩) (jn (by omega)) hbg
  rw [if_neg (show ¬ iI (dK D j) = 1818586739 from ne 1818586739 (by omega) (by omega) c7)]
  by_cases c8 : dK D j = 1885432178
  · rw [if_pos (show iI (dK D j) = 1885432178 by rw [c8]; rfl)]
    rw [if_neg (by omega), if_neg (by omega), if_pos c8] at hbg
    exact one_eye (x := 32) (x' := 3) hS ho hi hp hl hnv (Or.inr ⟨rfl, rfl⟩) (jn (by omega)) hbg
  rw [if_neg (show ¬ iI (dK D j) = 1885432178 from ne 1885432178 (by omega) (by omega) c8)]
  by_cases c9 : dK D j = 1953063787
  · rw [if_pos (show iI (dK D j) = 1953063787 by rw [c9]; rfl)]
    exact one_tick hS ho hi hp hl hnv c9
  rw [if_neg (show ¬ iI (dK D j) = 1953063787 from ne 1953063787 (by omega) (by omega) c9)]
  exact one_none hS hi ⟨c2, c1, c9, c7, c8, c6, c5, c3, c4⟩
