-- layer 2: one operation keeps the stacks alike
theorem br_fr {m q : BX12} {x : Int32} (h : q = m ∨ q = sX12_over m x) : FrW m q ∧ pX12_values q = pX12_values m ∧ pX12_truth q = pX12_truth m := by
  rcases h with e | e
  · rw [e]
    exact ⟨FrW.refl m, rfl, rfl⟩
  · rw [e]
    exact ⟨(FrW.refl m).s_over _, by rw [q12_values_over], by rw [q12_truth_over]⟩
theorem XR.pop {B ov nv nb : Int} {V T : Int → Int} {c : BX6} {m : BX12} (h : XR B ov nv nb V T c m) : XR B ov (nv - 1) nb V T (sX6_top c (iI (nb + nv - 1))) m := by
  obtain ⟨⟨h1, h2⟩, h3, h4, h5, k, h6, h7⟩ := h
  refine ⟨⟨by rw [q6_bound_top]; exact h1, h2⟩, by rw [q6_top_top]; congr 1; omega, by rw [q6_stack_top]; exact h4, by rw [q6_stack_top]; exact fun j j1 j2 => h5 j j1 (by omega), k, by rw [q6_over_top]; exact h6, h7⟩
theorem XR.popT {B ov nb : Int} {V T : Int → Int} {c : BX6} {m : BX12} (h : XR B ov 0 nb V T c m) : XR B ov 0 (nb - 1) V T (sX6_top c (iI (nb - 1))) m := by
  obtain ⟨⟨h1, h2⟩, h3, h4, h5, k, h6, h7⟩ := h
  refine ⟨⟨by rw [q6_bound_top]; exact h1, h2⟩, by rw [q6_top_top]; congr 1; omega, by rw [q6_stack_top]; exact fun j j1 j2 => h4 j j1 (by omega), fun j j1 j2 => by omega, k, by rw [q6_over_top]; exact h6, h7⟩
/-- a truth more on both stacks -/
theorem XR.pshT {B ov nb : Int} {V T : Int → Int} {c c' : BX6} {m m' : BX12} (h : XR B ov 0 nb V T c m) (n2 : 0 ≤ nb) {z k : Int} (hz : z = 0 ∨ z = 1) (f : FrC c c') (ht : pX6_top c' = iI (nb + 1)) (hs : pX6_stack c' = upd (pX6_stack c) nb.toNat (iI z)) (ho : pX6_over c' = iI k) (hb : pX12_bound m' = pX12_bound m) (htr : pX12_truth m' = upd (pX12_truth m) nb.toNat (iI z)) (hov : pX12_over m' = iI (ov + k)) : XR B ov 0 (nb + 1) V (up T nb z) c' m' := by
  obtain ⟨⟨h1, h2⟩, h3, h4, h5, h6⟩ := h
  refine ⟨⟨f.bound.trans h1, hb.trans h2⟩, by rw [ht]; congr 1; omega, fun j j1 j2 => ?_, fun j j1 j2 => by omega, k, ho, hov⟩
  rw [hs, htr, ai_upd n2 j1, ai_upd n2 j1]
  by_cases he : j = nb
  · rw [if_pos he, if_pos he, up_e he]
    exact ⟨rfl, rfl, hz⟩
  · rw [if_neg he, if_neg he, up_n he]
    exact h4 j j1 (by omega)
theorem z_two {m : BX12} {B o x y k : Int} (hb : pX12_bound m = lI B) (hB : 7 ≤ B) (hB2 : B ≤ 1000000) (ho : pX12_over m = iI k) (o1 : 3 ≤ o) (o2 : o ≤ 8) (x1 : -B ≤ x) (x2 : x ≤ B) (y1 : -B ≤ y) (y2 : y ≤ B) : ∃ z : Int, (-4611686018427387904 < z ∧ z < 4611686018427387904) ∧ f_X6_joined (iI (trO o)) (iI x) (iI y) = some (lI z) ∧ Wp (f_X12_two m (iI o) (lI x) (lI y)) (fun r => r.1 = lI (sClip B z) ∧ (r.2 = m ∨ r.2 = sX12_over m (iI (k + 1))) ∧ pX12_over r.2 = iI (k + sOv B z)) := by
  have hm := mul_bdB (by omega) hB2 x1 x2 y1 y2
  have keep : ∀ z : Int, -B ≤ z → z ≤ B → Wp (some (lI z, m)) (fun r => r.1 = lI (sClip B z) ∧ (r.2 = m ∨ r.2 = sX12_over m (iI (k + 1))) ∧ pX12_over r.2 = iI (k + sOv B z)) := by
    intro z z1 z2
    have e := sClip_id z1 z2
    exact wp_some ⟨by rw [e.1], Or.inl rfl, by rw [e.2, Int.add_zero]; exact ho⟩
  have brg : ∀ z : Int, -4611686018427387904 < z → z < 4611686018427387904 → Wp ((f_X12_bring m (lI z)).bind (fun r => some (r.1, r.2))) (fun r => r.1 = lI (sClip B z) ∧ (r.2 = m ∨ r.2 = sX12_over m (iI (k + 1))) ∧ pX12_over r.2 = iI (k + sOv B z)) := fun z z1 z2 => wp_bind (wp_mono (z_bring hb (by omega) hB2 z1 z2 ho) (fun r hr => wp_some hr))
  have : o = 3 ∨ o = 4 ∨ o = 5 ∨ o = 6 ∨ o = 7 ∨ o = 8 := by omega
  unfold f_X6_joined f_X12_two
  rcases this with e | e | e | e | e | e <;> subst e
  · refine ⟨x + y, by omega, ?_, ?_⟩
    · rw [show trO 3 = 7 from rfl, if_pos (show iI 7 = (7 : Int32) from rfl), iI_64 (by omega) (by omega), iI_64 (by omega) (by omega), lI_add]
    · rw [if_pos (show iI 3 = (3 : Int32) from rfl), lI_add]
      exact brg _ (by omega) (by omega)
  · refine ⟨x - y, by omega, ?_, ?_⟩
    · rw [show trO 4 = 8 from rfl, if_neg (show ¬ iI 8 = (7 : Int32) by decide), if_pos (show iI 8 = (8 : Int32) from rfl), iI_64 (by omega) (by omega), iI_64 (by omega) (by omega), lI_sub]
    · rw [if_neg (show ¬ iI 4 = (3 : Int32) by decide), if_pos (show iI 4 = (4 : Int32) from rfl), lI_sub]
      exact brg _ (by omega) (by omega)
  · refine ⟨x * y, by omega, ?_, ?_⟩
    · rw [show trO 5 = 9 from rfl, if_neg (show ¬ iI 9 = (7 : Int32) by decide), if_neg (show ¬ iI 9 = (8 : Int32) by decide), if_pos (show iI 9 = (9 : Int32) from rfl), iI_64 (by omega) (by omega), iI_64 (by omega) (by omega), lI_mul]
    · rw [if_neg (show ¬ iI 5 = (3 : Int32) by decide), if_neg (show ¬ iI 5 = (4 : Int32) by decide), if_pos (show iI 5 = (5 : Int32) from rfl), lI_mul]
      exact brg _ (by omega) (by omega)
  · rw [show trO 6 = 10 from rfl, if_neg (show ¬ iI 10 = (7 : Int32) by decide), if_neg (show ¬ iI 10 = (8 : Int32) by decide), if_neg (show ¬ iI 10 = (9 : Int32) by decide), if_pos (show iI 10 = (10 : Int32) from rfl), if_neg (show ¬ iI 6 = (3 : Int32) by decide), if_neg (show ¬ iI 6 = (4 : Int32) by decide), if_neg (show ¬ iI 6 = (5 : Int32) by decide), if_pos (show iI 6 = (6 : Int32) from rfl)]
    simp (disch := omega) only [iLit, lLit, lcm_eq, iI_eq, lI_eq]
    by_cases hy : y = 0
    · rw [if_pos hy, if_pos hy]
      exact ⟨0, by omega, rfl, keep 0 (by omega) (by omega)⟩
    · have ht := tdiv_bd (b := y) x1 x2
      rw [if_neg hy, if_neg hy, gd_t hy, gd_t hy, iI_tdivL (by omega) (by omega) (by omega) (by omega), iI_64 (by omega) (by omega), lI_div (by omega) (by omega) (by omega) (by omega)]
      exact ⟨x.tdiv y, by omega, rfl, brg _ (by omega) (by omega)⟩
  · rw [show trO 7 = 11 from rfl, if_neg (show ¬ iI 11 = (7 : Int32) by decide), if_neg (show ¬ iI 11 = (8 : Int32) by decide), if_neg (show ¬ iI 11 = (9 : Int32) by decide), if_neg (show ¬ iI 11 = (10 : Int32) by decide), if_pos (show iI 11 = (11 : Int32) from rfl), if_neg (show ¬ iI 7 = (3 : Int32) by decide), if_neg (show ¬ iI 7 = (4 : Int32) by decide), if_neg (show ¬ iI 7 = (5 : Int32) by decide), if_neg (show ¬ iI 7 = (6 : Int32) by decide), if_pos (show iI 7 = (7 : Int32) from rfl)]
    simp (disch := omega) only [iLit, lcm_ge, lI_le, iI_lt]
    by_cases hy : y < x
    · rw [if_pos hy, if_pos (by omega), iI_64 (by omega) (by omega)]
      exact ⟨y, by omega, rfl, keep y y1 y2⟩
    · by_cases he : y = x
      · rw [if_neg hy, if_pos (by omega), iI_64 (by omega) (by omega), he]
        exact ⟨x, by omega, rfl, keep x x1 x2⟩
      · rw [if_neg hy, if_neg (by omega), iI_64 (by omega) (by omega)]
        exact ⟨x, by omega, rfl, keep x x1 x2⟩
  · rw [show trO 8 = 12 from rfl, if_neg (show ¬ iI 12 = (7 : Int32) by decide), if_neg (show ¬ iI 12 = (8 : Int32) by decide), if_neg (show ¬ iI 12 = (9 : Int32) by decide), if_neg (show ¬ iI 12 = (10 : Int32) by decide), if_neg (show ¬ iI 12 = (11 : Int32) by decide), if_pos (show iI 12 = (12 : Int32) from rfl), if_neg (show ¬ iI 8 = (3 : Int32) by decide), if_neg (show ¬ iI 8 = (4 : Int32) by decide), if_neg (show ¬ iI 8 = (5 : Int32) by decide), if_neg (show ¬ iI 8 = (6 : Int32) by decide), if_neg (show ¬ iI 8 = (7 : Int32) by decide)]
    simp (disch := omega) only [iLit, lcm_le, lI_le, iI_lt]
    by_cases hy : x < y
    · rw [if_pos hy, if_pos (by omega), iI_64 (by omega) (by omega)]
      exact ⟨y, by omega, rfl, keep y y1 y2⟩
    · by_cases he : y = x
      · rw [if_neg hy, if_pos (by omega), iI_64 (by omega) (by omega), he]
        exact ⟨x, by omega, rfl, keep x x1 x2⟩
      · rw [if_neg hy, if_neg (by omega), iI_64 (by omega) (by omega)]
        exact ⟨x, by omega, rfl, keep x x1 x2⟩
theorem z_ask {B o x y : Int} (hB : 7 ≤ B) (hB2 : B ≤ 1000000) (o1 : 10 ≤ o) (o2 : o ≤ 15) (x1 : -B ≤ x) (x2 : x ≤ B) (y1 : -B ≤ y) (y2 : y ≤ B) : ∃ z : Int, (z = 0 ∨ z = 1) ∧ f_X6_joined (iI (trO o)) (iI x) (iI y) = some (lI z) ∧ f_X12_isAsked (iI o) (lI x) (lI y) = some (iI z) := by
  have fin : ∀ (p : Prop) [Decidable p], ∃ z : Int, (z = 0 ∨ z = 1) ∧ ((if p then some (iI 0) else some (iI 1)).bind (fun r => if r = (0 : Int32) then some (0 : Int64) else some 1)) = some (lI z) ∧ (if p then some (iI 0) else some (iI 1)) = some (iI z) := by
    intro p _
    by_cases h : p
    · rw [if_pos h]
      exact ⟨0, Or.inl rfl, rfl, rfl⟩
    · rw [if_neg h]
      exact ⟨1, Or.inr rfl, rfl, rfl⟩
  have : o = 10 ∨ o = 11 ∨ o = 12 ∨ o = 13 ∨ o = 14 ∨ o = 15 := by omega
  unfold f_X6_joined f_X12_isAsked f_X6_isSo
  rcases this with e | e | e | e | e | e <;> subst e
  · rw [show trO 10 = 13 from rfl, if_neg (show ¬ iI 13 = (7 : Int32) by decide), if_neg (show ¬ iI 13 = (8 : Int32) by decide), if_neg (show ¬ iI 13 = (9 : Int32) by decide), if_neg (show ¬ iI 13 = (10 : Int32) by decide), if_neg (show ¬ iI 13 = (11 : Int32) by decide), if_neg (show ¬ iI 13 = (12 : Int32) by decide), if_pos (show iI 13 = (13 : Int32) from rfl), if_pos (show iI 10 = (10 : Int32) from rfl)]
    rw [show (0 : Int32) = iI 0 from rfl, show (1 : Int32) = iI 1 from rfl]
    simp (disch := omega) only [lcm_ge, lI_le, iI_le]
    exact fin (y ≤ x)
  · rw [show trO 11 = 14 from rfl, if_neg (show ¬ iI 14 = (7 : Int32) by decide), if_neg (show ¬ iI 14 = (8 : Int32) by decide), if_neg (show ¬ iI 14 = (9 : Int32) by decide), if_neg (show ¬ iI 14 = (10 : Int32) by decide), if_neg (show ¬ iI 14 = (11 : Int32) by decide), if_neg (show ¬ iI 14 = (12 : Int32) by decide), if_neg (show ¬ iI 14 = (13 : Int32) by decide), if_pos (show iI 14 = (14 : Int32) from rfl), if_neg (show ¬ iI 11 = (10 : Int32) by decide), if_pos (show iI 11 = (11 : Int32) from rfl)]
    rw [show (0 : Int32) = iI 0 from rfl, show (1 : Int32) = iI 1 from rfl]
    simp (disch := omega) only [lcm_gt, lI_lt, iI_lt]
    exact fin (y < x)
  · rw [show trO 12 = 15 from rfl, if_neg (show ¬ iI 15 = (7 : Int32) by decide), if_neg (show ¬ iI 15 = (8 : Int32) by decide), if_neg (show ¬ iI 15 = (9 : Int32) by decide), if_neg (show ¬ iI 15 = (10 : Int32) by decide), if_neg (show ¬ iI 15 = (11 : Int32) by decide), if_neg (show ¬ iI 15 = (12 : Int32) by decide), if_neg (show ¬ iI 15 = (13 : Int32) by decide), if_neg (show ¬ iI 15 = (14 : Int32) by decide), if_pos (show iI 15 = (15 : Int32) from rfl), if_neg (show ¬ iI 12 = (10 : Int32) by decide), if_neg (show ¬ iI 12 = (11 : Int32) by decide), if_pos (show iI 12 = (12 : Int32) from rfl)]
    rw [show (0 : Int32) = iI 0 from rfl, show (1 : Int32) = iI 1 from rfl]
    simp (disch := omega) only [lcm_le, lI_le, iI_le]
    exact fin (x ≤ y)
  · rw [show trO 13 = 16 from rfl, if_neg (show ¬ iI 16 = (7 : Int32) by decide), if_neg (show ¬ iI 16 = (8 : Int32) by decide), if_neg (show ¬ iI 16 = (9 : Int32) by decide), if_neg (show ¬ iI 16 = (10 : Int32) by decide), if_neg (show ¬ iI 16 = (11 : Int32) by decide), if_neg (show ¬ iI 16 = (12 : Int32) by decide), if_neg (show ¬ iI 16 = (13 : Int32) by decide), if_neg (show ¬ iI 16 = (14 : Int32) by decide), if_neg (show ¬ iI 16 = (15 : Int32) by decide), if_pos (show iI 16 = (16 : Int32) from rfl), if_neg (show ¬ iI 13 = (10 : Int32) by decide), if_neg (show ¬ iI 13 = (11 : Int32) by decide), if_neg (show ¬ iI 13 = (12 : Int32) by decide), if_pos (show iI 13 = (13 : Int32) from rfl)]
    rw [show (0 : Int32) = iI 0 from rfl, show (1 : Int32) = iI 1 from rfl]
    simp (disch := omega) only [lcm_lt, lI_lt, iI_lt]
    exact fin (x < y)
  · rw [show trO 14 = 17 from rfl, if_neg (show ¬ iI 17 = (7 : Int32) by decide), if_neg (show ¬ iI 17 = (8 : Int32) by decide), if_neg (show ¬ iI 17 = (9 : Int32) by decide), if_neg (show ¬ iI 17 = (10 : Int32) by decide), if_neg (show ¬ iI 17 = (11 : Int32) by decide), if_neg (show ¬ iI 17 = (12 : Int32) by decide), if_neg (show ¬ iI 17 = (13 : Int32) by decide), if_neg (show ¬ iI 17 = (14 : Int32) by decide), if_neg (show ¬ iI 17 = (15 : Int32) by decide), if_neg (show ¬ iI 17 = (16 : Int32) by decide), if_pos (show iI 17 = (17 : Int32) from rfl), if_neg (show ¬ iI 14 = (10 : Int32) by decide), if_neg (show ¬ iI 14 = (11 : Int32) by decide), if_neg (show ¬ iI 14 = (12 : Int32) by decide), if_neg (show ¬ iI 14 = (13 : Int32) by decide), if_pos (show iI 14 = (14 : Int32) from rfl)]
    rw [show (0 : Int32) = iI 0 from rfl, show (1 : Int32) = iI 1 from rfl]
    simp (disch := omega) only [lcm_eq, lI_eq, iI_eq]
    have := fin (¬ x = y)
    simp only [ite_not] at this
    exact this
  · rw [show trO 15 = 18 from rfl, if_neg (show ¬ iI 18 = (7 : Int32) by decide), if_neg (show ¬ iI 18 = (8 : Int32) by decide), if_neg (show ¬ iI 18 = (9 : Int32) by decide), if_neg (show ¬ iI 18 = (10 : Int32) by decide), if_neg (show ¬ iI 18 = (11 : Int32) by decide), if_neg (show ¬ iI 18 = (12 : Int32) by decide), if_neg (show ¬ iI 18 = (13 : Int32) by decide), if_neg (show ¬ iI 18 = (14 : Int32) by decide), if_neg (show ¬ iI 18 = (15 : Int32) by decide), if_neg (show ¬ iI 18 = (16 : Int32) by decide), if_neg (show ¬ iI 18 = (17 : Int32) by decide), if_pos (show iI 18 = (18 : Int32) from rfl), if_neg (show ¬ iI 15 = (10 : Int32) by decide), if_neg (show ¬ iI 15 = (11 : Int32) by decide), if_neg (show ¬ iI 15 = (12 : Int32) by decide), if_neg (show ¬ iI 15 = (13 : Int32) by decide), if_neg (show ¬ iI 15 = (14 : Int32) by decide)]
    rw [show (0 : Int32) = iI 0 from rfl, show (1 : Int32) = iI 1 from rfl]
    simp (disch := omega) only [lcm_eq, lI_eq, iI_eq]
    exact fin (x = y)
