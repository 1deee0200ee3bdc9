-- layer 2: one operation of a rule, both sides
theorem iI_tdivL {a b : Int} (h1 : -2147483648 < a) (h2 : a < 2147483648) (h3 : -2147483648 ≤ b) (h4 : b < 2147483648) : iI a / iI b = iI (a.tdiv b) := by
  have hq : a.tdiv b < 2147483648 ∧ -2147483648 < a.tdiv b := by
    have e : (a.tdiv b).natAbs = a.natAbs / b.natAbs := Int.natAbs_tdiv a b
    have e2 : a.natAbs / b.natAbs ≤ a.natAbs := Nat.div_le_self _ _
    omega
  have hm : ¬ (iI a = Int32.minValue) := by
    intro h
    have := congrArg Int32.toInt h
    rw [iI_toInt (by omega) (by omega)] at this
    have e : Int32.minValue.toInt = -2147483648 := rfl
    omega
  rw [← Int32.toInt_inj, Int32.toInt_div_of_ne_left _ _ hm, iI_toInt (by omega) (by omega), iI_toInt (by omega) (by omega), iI_toInt (by omega) (by omega)]
theorem tdiv_bd {a b B : Int} (h1 : -B ≤ a) (h2 : a ≤ B) : -B ≤ a.tdiv b ∧ a.tdiv b ≤ B := by
  have e : (a.tdiv b).natAbs = a.natAbs / b.natAbs := Int.natAbs_tdiv a b
  have e2 : a.natAbs / b.natAbs ≤ a.natAbs := Nat.div_le_self _ _
  omega
theorem mul_bdB {x y B : Int} (hB : 0 ≤ B) (hB2 : B ≤ 1000000) (h1 : -B ≤ x) (h2 : x ≤ B) (h3 : -B ≤ y) (h4 : y ≤ B) : -1000000000000 ≤ x * y ∧ x * y ≤ 1000000000000 := by
  have e : (x * y).natAbs = x.natAbs * y.natAbs := Int.natAbs_mul x y
  have e1 : x.natAbs * y.natAbs ≤ 1000000 * 1000000 := Nat.mul_le_mul (by omega) (by omega)
  omega
/-- the class's code of an operation -/
def trO (o : Int) : Int := if o = 0 then 0 else if o = 1 then 1 else if o = 31 then 2 else if o = 32 then 3 else if o = 30 then 4 else if o = 2 then 5 else if o = 20 then 6 else if o ≤ 8 then o + 4 else if o ≤ 15 then o + 3 else o - 2
/-- how an operation changes how much stands on the stacks (K: letters told) -/
def ShO (K : Int → Bool) (o v nv nb a b : Int) : Prop :=
  ((((o = 0 ∧ 0 ≤ v ∧ v ≤ 9999) ∨ (o = 1 ∧ 0 ≤ v ∧ v < 8 ∧ K v = true) ∨ (o = 30 ∧ v = 0) ∨ ((o = 31 ∨ o = 32) ∧ 0 ≤ v ∧ v ≤ 15)) ∧ nv + nb < 60 ∧ a = nv + 1 ∧ b = nb) ∨
  (o = 2 ∧ v = 0 ∧ 1 ≤ nv ∧ a = nv ∧ b = nb) ∨ ((3 ≤ o ∧ o ≤ 8) ∧ v = 0 ∧ 2 ≤ nv ∧ a = nv - 1 ∧ b = nb) ∨ ((10 ≤ o ∧ o ≤ 15) ∧ v = 0 ∧ nv = 2 ∧ a = 0 ∧ b = nb + 1) ∨
  (o = 20 ∧ v = 0 ∧ nv = 0 ∧ 1 ≤ nb ∧ a = 0 ∧ b = nb) ∨ ((o = 21 ∨ o = 22) ∧ v = 0 ∧ nv = 0 ∧ 2 ≤ nb ∧ a = 0 ∧ b = nb - 1))
/-- the stacks of both sides -/
def XR (B ov nv nb : Int) (V T : Int → Int) (c : BX6) (m : BX12) : Prop := (pX6_bound c = iI B ∧ pX12_bound m = lI B) ∧ pX6_top c = iI (nb + nv) ∧
  (∀ k : Int, 0 ≤ k → k < nb → pX6_stack c k.toNat = iI (T k) ∧ pX12_truth m k.toNat = iI (T k) ∧ (T k = 0 ∨ T k = 1)) ∧
  (∀ k : Int, 0 ≤ k → k < nv → pX6_stack c (nb + k).toNat = iI (V k) ∧ pX12_values m k.toNat = lI (V k) ∧ -B ≤ V k ∧ V k ≤ B) ∧
  ∃ k : Int, pX6_over c = iI k ∧ pX12_over m = iI (ov + k)
theorem al_upd {f : Nat → Int64} {a b : Int} {x : Int64} (ha : 0 ≤ a) (hb : 0 ≤ b) : vp_updL f a.toNat x b.toNat = if b = a then x else f b.toNat := by
  unfold vp_updL
  by_cases h : b = a
  · rw [if_pos h, if_pos (by rw [h])]
  · rw [if_neg h, if_neg (by omega)]
theorem z_push {c : BX6} {B z n k : Int} (hb : pX6_bound c = iI B) (hB : 0 ≤ B) (hB2 : B ≤ 1000000) (h1 : -4611686018427387904 < z) (h2 : z < 4611686018427387904) (ho : pX6_over c = iI k) (ht : pX6_top c = iI n) (n1 : 0 ≤ n) (n2 : n < 64) : Wp (f_X6_push c (lI z)) (fun r => FrC c r ∧ pX6_top r = iI (n + 1) ∧ pX6_stack r = upd (pX6_stack c) n.toNat (iI (sClip B z)) ∧ pX6_over r = iI (k + sOv B z)) := by
  unfold f_X6_push
  simp (disch := omega) only [iLit, ht, iI_le, iI_inB, gd_t, iI_cl, lt_e]
  rw [if_neg (by omega)]
  refine wp_bind (wp_mono (z_bounded hb hB hB2 h1 h2 ho) (fun r hr => ?_))
  obtain ⟨e1, e2, e3⟩ := hr
  rw [e1]
  have hfr : FrC c r.2 ∧ pX6_top r.2 = iI n ∧ pX6_stack r.2 = pX6_stack c := by
    rcases e2 with e | e
    · rw [e]
      exact ⟨FrC.refl c, ht, rfl⟩
    · rw [e]
      exact ⟨(FrC.refl c).s_over _, by rw [q6_top_over]; exact ht, by rw [q6_stack_over]⟩
  obtain ⟨f1, f2, f3⟩ := hfr
  simp only [q6_top_stack, f2, iI_add, f3]
  exact wp_some ⟨(f1.s_stack _).s_top _, by rw [q6_top_top], by rw [q6_stack_top, q6_stack_stack], by rw [q6_over_top, q6_over_stack]; exact e3⟩
theorem z_pop {c : BX6} {n x : Int} (ht : pX6_top c = iI n) (n1 : 1 ≤ n) (n2 : n ≤ 64) (hx : pX6_stack c (n - 1).toNat = iI x) : f_X6_pop c = some (iI x, sX6_top c (iI (n - 1))) := by
  unfold f_X6_pop
  simp (disch := omega) only [iLit, ht, iI_lt, iI_sub, lt_e, q6_top_top, q6_stack_top, iI_inB, gd_t, iI_cl, hx]
  rw [if_pos (by omega)]
/-- an integer more on both stacks -/
theorem XR.psh {B ov nv nb : Int} {V T : Int → Int} {c c' : BX6} {m m' : BX12} (h : XR B ov nv nb V T c m) (n1 : 0 ≤ nv) (n2 : 0 ≤ nb) (hB : 0 ≤ B) {z k : Int} (f : FrC c c') (ht : pX6_top c' = iI (nb + nv + 1)) (hs : pX6_stack c' = upd (pX6_stack c) (nb + nv).toNat (iI (sClip B z))) (ho : pX6_over c' = iI (k + sOv B z)) (hb : pX12_bound m' = pX12_bound m) (htr : pX12_truth m' = pX12_truth m) (hv : pX12_values m' = vp_updL (pX12_values m) nv.toNat (lI (sClip B z))) (hov : pX12_over m' = iI (ov + k + sOv B z)) : XR B ov (nv + 1) nb (up V nv (sClip B z)) T c' m' := by
  obtain ⟨⟨h1, h2⟩, h3, h4, h5, h6⟩ := h
  have hcl := sClip_bd (z := z) hB
  refine ⟨⟨f.bound.trans h1, hb.trans h2⟩, by rw [ht]; congr 1; omega, fun j j1 j2 => ?_, fun j j1 j2 => ?_, k + sOv B z, ho, by rw [hov]; congr 1; omega⟩
  · rw [hs, htr, ai_upd (by omega) j1, if_neg (by omega)]
    exact h4 j j1 j2
  · rw [hs, hv, ai_upd (by omega) (by omega), al_upd n1 j1]
    by_cases he : j = nv
    · rw [if_pos (by omega), if_pos he, up_e he]
      exact ⟨rfl, rfl, hcl.1, hcl.2⟩
    · rw [if_neg (by omega), if_neg he, up_n he]
      exact h5 j j1 (by omega)
/-- what the operations that bring something take it from -/
def EV (fl : BX2) (ey : BX1) (m : BX12) (A : Int → Int) (tk : Int → Int → Int) (t : Int) : Prop := (0 ≤ t ∧ t < 60) ∧ InE A ∧ REy ey A ∧ AI (pX12_a m) A 3170 ∧ (pX2_count fl = iI t ∧ pX2_lenses fl = iI (A 1) ∧ pX2_pairs fl = iI (A 2)) ∧
  (∀ s : Int, 0 ≤ s → s < t + 1 → ∀ k : Int, 0 ≤ k → k < A 1 → pX2_takes fl (s * 16 + k).toNat = iI (tk s k)) ∧ (∀ s k : Int, 0 ≤ tk s k ∧ tk s k ≤ 255) ∧
  pX12_now m = iI t ∧ (∀ k : Int, 0 ≤ k → k < A 1 → pX12_rows m (38 * t + 5 + k).toNat = iI (tk t k)) ∧ ∀ p : Int, 0 ≤ p → p < A 2 → pX12_rows m (38 * t + 21 + p).toNat = iI (sPair A tk p t)
theorem EV.cg {fl : BX2} {ey : BX1} {m m' : BX12} {A : Int → Int} {tk : Int → Int → Int} {t : Int} (h : EV fl ey m A tk t) (e1 : pX12_a m' = pX12_a m) (e2 : pX12_now m' = pX12_now m) (e3 : pX12_rows m' = pX12_rows m) : EV fl ey m' A tk t := by
  obtain ⟨h1, h2, h3, h4, h5, h6, h7, h8, h9, h10⟩ := h
  exact ⟨h1, h2, h3, by rw [e1]; exact h4, h5, h6, h7, e2.trans h8, by rw [e3]; exact h9, by rw [e3]; exact h10⟩
def LK (K : Int → Bool) (Lt : Int → Int) (c : BX6) (m : BX12) : Prop := ∀ k : Int, 0 ≤ k → k < 8 → K k = true → pX6_letters c k.toNat = iI (Lt k) ∧ pX12_told m k.toNat = iI (Lt k) ∧ -1000000 ≤ Lt k ∧ Lt k ≤ 1000000
theorem sPair_bd {A : Int → Int} {tk : Int → Int → Int} (h : ∀ s k : Int, 0 ≤ tk s k ∧ tk s k ≤ 255) (p t : Int) : -70000 ≤ sPair A tk p t ∧ sPair A tk p t ≤ 70000 := by
  unfold sPair
  split
  · omega
  · have e1 := h (t - A (660 + 3 * p + 2)) (A (660 + 3 * p))
    have e2 := h t (A (660 + 3 * p + 1))
    have e3 := h t (A (660 + 3 * p))
    have e4 := h (t - A (660 + 3 * p + 2)) (A (660 + 3 * p + 1))
    have m1 : tk (t - A (660 + 3 * p + 2)) (A (660 + 3 * p)) * tk t (A (660 + 3 * p + 1)) ≤ 255 * 255 := Int.mul_le_mul e1.2 e2.2 e2.1 (by omega)
    have m2 : tk t (A (660 + 3 * p)) * tk (t - A (660 + 3 * p + 2)) (A (660 + 3 * p + 1)) ≤ 255 * 255 := Int.mul_le_mul e3.2 e4.2 e4.1 (by omega)
    have m3 := Int.mul_nonneg e1.1 e2.1
    have m4 := Int.mul_nonneg e3.1 e4.1
    omega
/-- what is brought: both sides -/
theorem z_brought {fl : BX2} {ey : BX1} {c : BX6} {m : BX12} {A : Int → Int} {tk : Int → Int → Int} {t : Int} {K : Int → Bool} {Lt : Int → Int} (hE : EV fl ey m A tk t) (hK : LK K Lt c m) {o v : Int} (hs : (o = 0 ∧ 0 ≤ v ∧ v ≤ 9999) ∨ (o = 1 ∧ 0 ≤ v ∧ v < 8 ∧ K v = true) ∨ (o = 30 ∧ v = 0) ∨ ((o = 31 ∨ o = 32) ∧ 0 ≤ v ∧ v ≤ 15)) : ∃ z : Int, (-1000000 ≤ z ∧ z ≤ 1000000) ∧ f_X6_brought fl c ey (iI (trO o)) (iI v) = some (iI z) ∧ f_X12_valueOf m (iI o) (iI v) = some (lI z) := by
  obtain ⟨h1, h2, h3, h4, ⟨h5, h5b, h5c⟩, h6, h7, h8, h9, h10⟩ := hE
  have a1 := h2.1
  have a2 := h2.2.1
  have hA : ∀ k : Int, 0 ≤ k → k < 3170 → pX12_a m k.toNat = iI (A k) := h4
  unfold f_X6_brought f_X12_valueOf
  rcases hs with ⟨rfl, v1, v2⟩ | ⟨rfl, v1, v2, v3⟩ | ⟨rfl, rfl⟩ | ⟨e | e, v1, v2⟩
  · refine ⟨v, by omega, ?_, ?_⟩
    · rw [show trO 0 = 0 from rfl, if_pos (show iI 0 = (0 : Int32) from rfl)]
    · rw [if_pos (show iI 0 = (0 : Int32) from rfl), iI_64 (by omega) (by omega)]
  · obtain ⟨k1, k2, k3⟩ := hK v v1 v2 v3
    refine ⟨Lt v, k3, ?_, ?_⟩
    · rw [show trO 1 = 1 from rfl]
      simp (disch := omega) only [iLit, iI_eq, sz_isWithin, bind_s, bI_0I, ite_not, iI_inB, gd_t, iI_cl, k1]
      rw [if_neg (by omega), if_pos trivial, if_pos (by omega)]
    · simp (disch := omega) only [iLit, iI_eq, iI_inB, gd_t, iI_cl, k2, iI_64]
      rw [if_neg (by omega), if_pos trivial]
  · refine ⟨t, by omega, ?_, ?_⟩
    · rw [show trO 30 = 4 from rfl]
      simp (disch := omega) only [iLit, iI_eq]
      rw [if_neg (by omega), if_neg (by omega), if_neg (by omega), if_neg (by omega), h5]
    · simp (disch := omega) only [iLit, iI_eq, h8, iI_64]
      rw [if_neg (by omega), if_neg (by omega), if_pos trivial]
  · subst e
    by_cases hv : v < A 1
    · refine ⟨tk t v, by have := h7 t v; omega, ?_, ?_⟩
      · rw [show trO 31 = 2 from rfl, h5, z_takenBy (N := t + 1) h5b a1.1 a1.2 (by omega) h6 v1 hv h1.1 (by omega)]
        simp (disch := omega) only [iLit, iI_eq, bind_s]
        rw [if_neg (by omega), if_neg (by omega), if_pos trivial]
      · have hb := h7 t v
        simp (disch := omega) only [iLit, iI_eq, iI_inB, gd_t, iI_cl, hA, h8, iI_mul, iI_add, iI_le, h9 v v1 hv, iI_64]
        rw [if_neg (by omega), if_neg (by omega), if_neg (by omega), if_pos trivial, if_neg (by omega)]
    · refine ⟨0, by omega, ?_, ?_⟩
      · rw [show trO 31 = 2 from rfl, h5, z_takenBy0 h5b a1.1 a1.2 (by omega) (by omega) h1.1 (by omega)]
        simp (disch := omega) only [iLit, iI_eq, bind_s]
        rw [if_neg (by omega), if_neg (by omega), if_pos trivial]
      · simp (disch := omega) only [iLit, iI_eq, iI_inB, gd_t, iI_cl, hA, iI_le, lLit]
        rw [if_neg (by omega), if_neg (by omega), if_neg (by omega), if_pos trivial, if_pos (by omega)]
  · subst e
    by_cases hv : v < A 2
    · have hb := sPair_bd (A := A) h7 v t
      refine ⟨sPair A tk v t, by omega, ?_, ?_⟩
      · rw [show trO 32 = 3 from rfl, h5, z_comparedBy (N := t + 1) h3 h2 h5b a1.1 a1.2 h5c a2.1 (Int.le_refl _) (by omega) h6 (fun p p1 p2 => ⟨(h2.2.2.2 p p1 p2).1.2, (h2.2.2.2 p p1 p2).2.1.2⟩) v1 hv h1.1 (by omega)]
        simp (disch := omega) only [iLit, iI_eq, bind_s]
        rw [if_neg (by omega), if_neg (by omega), if_neg (by omega), if_pos trivial]
      · simp (disch := omega) only [iLit, iI_eq, iI_inB, gd_t, iI_cl, hA, h8, iI_mul, iI_add, iI_le, h10 v v1 hv, iI_64]
        rw [if_neg (by omega), if_neg (by omega), if_neg (by omega), if_neg (by omega), if_neg (by omega)]
    · refine ⟨0, by omega, ?_, ?_⟩
      · rw [show trO 32 = 3 from rfl, h5, z_comparedBy0 h5c a2.1 a2.2 (by omega) (by omega)]
        simp (disch := omega) only [iLit, iI_eq, bind_s]
        rw [if_neg (by omega), if_neg (by omega), if_neg (by omega), if_pos trivial]
      · simp (disch := omega) only [iLit, iI_eq, iI_inB, gd_t, iI_cl, hA, iI_le, lLit]
        rw [if_neg (by omega), if_neg (by omega), if_neg (by omega), if_neg (by omega), if_pos (by omega)]
