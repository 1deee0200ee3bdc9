-- layer 2: an operation emitted behind a refusal
theorem z_emitF {c : BX4} {f pl : Int} (h : FA c f pl) (x v : Int32) : Wp (f_X4_emit c x v) (fun r => FA r f pl) := by
  have h' := h
  obtain ⟨h1, h2, s, hs, h3⟩ := h
  unfold f_X4_emit
  rw [h3]
  by_cases hc : 300 ≤ s
  · rw [if_pos (show 300 ≤ iI s from (iI_le (a := 300) (by omega) (by omega) (by omega) (by omega)).mpr hc)]
    exact wp_some h'
  · rw [if_neg (show ¬ 300 ≤ iI s from fun e => hc ((iI_le (a := 300) (by omega) (by omega) (by omega) (by omega)).mp e))]
    refine wp_lt (wp_gd ((iI_inB (by omega) (by omega)).mpr (by omega)) (wp_lt (wp_lt (wp_lt (wp_some ⟨h1, h2, s + 1, by omega, ?_⟩)))))
    rw [q4_size_size, q4_size_code, h3]
    exact iI_add s 1
