-- layer 2: sum, the step of its loop
theorem FrZ.trans {c r q : BX4} (h : FrZ c r) (g : FrZ r q) : FrZ c q := ⟨g.1.trans h.1, g.2.1.trans h.2.1, g.2.2.1.trans h.2.2.1, g.2.2.2.1.trans h.2.2.2.1, g.2.2.2.2.trans h.2.2.2.2⟩
/-- a joining sign and the one behind it: from the pile's height hb, l entries settled -/
theorem sum_one {D : PD} {ON : BX4 → BX9 → Option (Int32 × BX4 × BX9)} {c0 c : BX4} {t : BX9} {m0 m : BX12} {j0 j o : Int} {E1 E' : OpL} {Q2 : Int → Int} {hb nv nb : Int} {l st : Nat} (hX : OneS D ON o) (hS0 : pX4_open c0 = iI o ∧ pX4_fault c0 = iI 0 ∧ pX4_told c0 = pX12_letters m0 ∧ dw D ≤ ds D) (ho : 0 ≤ o ∧ o ≤ 8) (hj0 : j0 < j) (ht : CJ D t j) (hB : Beh D m0 m j Q2 (hb + (l : Int)) o E') (hG : Go m0 m st) (hst : (st : Int) ≤ j - j0) (hz : FrZ c0 c) (hw : WC c (ds D) E1) (hE : E' ++ popL Q2 hb l = E1) (h0 : 0 ≤ hb) (hh : hb + 1 ≤ 3 * o + 2) (hl : ds D + oLen E1 ≤ j + 1) (hnv : 0 ≤ nv ∧ 0 ≤ nb ∧ nv + nb ≤ 3 * o + 5) (hg : dK D j = 43 ∨ dK D j = 45 ∨ dK D j = 42 ∨ dK D j = 47) (hN : ∀ i : Int, hb ≤ i → i < hb + (l : Int) → jnS (dK D j) ≤ Q2 i ∧ Q2 i < 40) (hT : 0 < hb → (40 ≤ Q2 (hb - 1) ∨ Q2 (hb - 1) < jnS (dK D j)) ∧ 0 ≤ Q2 (hb - 1) ∧ Q2 (hb - 1) ≤ 100) (hA : ∀ i : Int, 0 ≤ i → i < hb → 0 ≤ Q2 i ∧ Q2 i ≤ 100) {K : Int32 × BX4 × BX9 → Option (Int32 × BX4 × BX9)} {R : Int32 × BX4 × BX9 → Prop}
    (h1 : ∀ (c' : BX4) (t' : BX9) (m' : BX12) (j' : Int) (ops : OpL) (st' : Nat), j < j' → CJ D t' j' → Beh D m0 m' j' (up Q2 hb (jnX (dK D j))) (hb + 1) o (E1 ++ ops) → WC c' (ds D) (E1 ++ ops) → FrZ c0 c' → CBl c c' (ds D) → oLen ops + 1 ≤ j' - j → Sh (bitK (pX4_told c0)) ops nv nb (nv + 1) nb → (st' : Int) ≤ j' - j0 → Go m0 m' st' → Wp (K (1, c', t')) R)
    (h2 : ∀ (c' : BX4) (t' : BX9), Flt D m0 j0 (0, c', t') → Wp (K (0, c', t')) R) : Wp ((f_X9_advance t).bind (fun r_6 => (ON c r_6).bind K)) R := by
  obtain ⟨b1, b2, b3, b4, b5, b6, b7⟩ := hB
  obtain ⟨n1, n2, n3⟩ := b1.n
  have jn := n3 (by omega)
  have hlen : oLen E' + (l : Int) = oLen E1 := by rw [← hE, oLen_a, popL_len]
  obtain ⟨m1, g1, g2, g3, g4, g5, g6, g7, g8⟩ := go_join b1 jn b4 h0 b2 (by omega) hg hN hT b5 (by omega)
  rw [hE] at g6
  refine wp_bind (wp_mono (CT.adv ht n2.2) ?_)
  intro t1 ht1
  rw [nx_in jn] at ht1
  have xb : 3 ≤ jnX (dK D j) ∧ jnX (dK D j) ≤ 6 := by
    unfold jnX
    split
    · omega
    · split
      · omega
      · split <;> omega
  have ha := hX c t1 m1 (j + 1) E1 (up Q2 hb (jnX (dK D j))) (hb + 1) 0 nv nb ⟨g2, ht1, ⟨hz.1.trans hS0.1, ho⟩, hz.2.2.2.1.trans hS0.2.1, (hz.2.1.trans hS0.2.2.1).trans (b7.letters.symm.trans g8.letters.symm), hw, g6, hS0.2.2.2⟩ (g4.trans b3) g5 ⟨by omega, by rw [show hb + 1 + ((0 : Nat) : Int) = hb + 1 by omega]; exact g3, fun i i1 i2 => by omega, fun _ => by rw [up_e (by omega)]; omega, fun i i1 i2 => by
      by_cases ci : i < hb
      · rw [up_n (by omega)]
        exact hA i i1 ci
      · rw [up_e (by omega)]
        omega⟩ (by omega) (by omega) hnv
  refine wp_bind (wp_mono ha ?_)
  rintro ⟨r0, c', t'⟩ (⟨r1, m', j', ops, st', q1, q2, q3, q4, q5, q6, q7, q8, q9, q10⟩ | ⟨r1, r2⟩)
  · have r1 : r0 = 1 := r1
    rw [r1]
    obtain ⟨d1, d2, d3, d4, d5, d6, d7⟩ := q3
    rw [show E1 ++ ops ++ negs 0 = E1 ++ ops from List.append_nil _] at d5
    rw [show o - ((0 : Nat) : Int) = o by omega] at d3
    rw [hz.2.1] at q8
    exact h1 c' t' m' j' ops (st + 1 + st') (by omega) q2 ⟨d1, d2, d3, d4, d5, b6.trans (g7.trans d6), b7.trans (g8.trans d7)⟩ q4 (hz.trans q5) q6 (by omega) q8 (by omega) ((hG.trans g1).trans q10)
  · have r1 : r0 = 0 := r1
    rw [r1] at r2 ⊢
    exact h2 c' t' (Flt.go (j := j0) r2 (hG.trans g1) (by omega) (by omega) (b7.trans g8) (b6.trans g7))
theorem z_joinOp {k : Int} (kb : -6 ≤ k ∧ k < 2147483648) : f_X4_joinOperation (iI k) = some (if k = 43 ∨ k = 45 ∨ k = 42 ∨ k = 47 then iI (jnX k + 4) else -1) := by
  unfold f_X4_joinOperation
  have ne : ∀ g : Int, 0 ≤ g → g ≤ 255 → k ≠ g → ¬ iI k = iI g := fun g g1 g2 hn => iI_ne (by omega) (by omega) (by omega) (by omega) hn
  by_cases c1 : k = 42
  · rw [c1]; rfl
  by_cases c2 : k = 43
  · rw [c2]; rfl
  by_cases c3 : k = 44
  · rw [c3]; rfl
  by_cases c4 : k = 45
  · rw [c4]; rfl
  by_cases c5 : k = 46
  · rw [c5]; rfl
  by_cases c6 : k = 47
  · rw [c6]; rfl
  rw [if_neg (show ¬ iI k = 42 from ne 42 (by omega) (by omega) c1), if_neg (show ¬ iI k = 43 from ne 43 (by omega) (by omega) c2), if_neg (show ¬ iI k = 44 from ne 44 (by omega) (by omega) c3), if_neg (show ¬ iI k = 45 from ne 45 (by omega) (by omega) c4), if_neg (show ¬ iI k = 46 from ne 46 (by omega) (by omega) c5), if_neg (show ¬ iI k = 47 from ne 47 (by omega) (by omega) c6), if_neg (by omega)]
theorem Flt.cg {D : PD} {m : BX12} {j : Int} {r r' : Int32 × BX4 × BX9} (h : Flt D m j r) (hc : ∀ f pl : Int, FA r.2.1 f pl → FA r'.2.1 f pl) : Flt D m j r' := by
  obtain ⟨f, m', j', st, h1, h2, h3, h4⟩ := h
  exact ⟨f, m', j', st, h1, h2, hc _ _ h3, h4⟩
theorem Flt.emit {D : PD} {m : BX12} {j : Int} {a : Int32} {c : BX4} {t : BX9} (h : Flt D m j (a, c, t)) (x v : Int32) : Wp (f_X4_emit c x v) (fun u => Flt D m j (0, u, t)) := by
  obtain ⟨f, m', j', st, h1, h2, h3, h4⟩ := h
  exact wp_mono (z_emitF h3 x v) (fun u hu => ⟨f, m', j', st, h1, h2, hu, h4⟩)
/-- behind a refusal: the loop's last part -/
theorem sum_flt {D : PD} {ON : BX4 → BX9 → Option (Int32 × BX4 × BX9)} {c : BX4} {t : BX9} {m0 : BX12} {j0 : Int} {P : Int32 × BX4 × BX9 → Prop} (h : Flt D m0 j0 (0, c, t)) (hP : ∀ r : Int32 × BX4 × BX9, r.1 = 0 → Flt D m0 j0 r → P r) (x1 : Int32) : Wp (f_X4_sum_b114 ON x1 0 c t) P := by
  unfold f_X4_sum_b114
  by_cases h1 : x1 = -1
  · rw [if_pos h1]
    exact wp_gd (Or.inl rfl) (wp_some (hP _ rfl h))
  · rw [if_neg h1]
    refine wp_bind (wp_mono (h.emit x1 0) ?_)
    intro u hu
    exact wp_gd (Or.inl rfl) (wp_some (hP _ rfl hu))
theorem sum_flt9 {D : PD} {ON : BX4 → BX9 → Option (Int32 × BX4 × BX9)} {c : BX4} {t : BX9} {m0 : BX12} {j0 : Int} {P : Int32 × BX4 × BX9 → Prop} (h : Flt D m0 j0 (0, c, t)) (hP : ∀ r : Int32 × BX4 × BX9, r.1 = 0 → Flt D m0 j0 r → P r) (x1 x3 : Int32) (F : Nat) : Wp (f_X4_sum_b9 ON (F + 1) (x1, 0, x3, c, t)) P := by
  show Wp (f_X4_sum_b9B ON (f_X4_sum_b9 ON F) x1 0 x3 c t) P
  unfold f_X4_sum_b9B
  by_cases h3 : (300 : Int32) ≤ x3
  · rw [if_pos h3]
    exact sum_flt h hP x1
  · rw [if_neg h3, if_pos rfl]
    exact sum_flt h hP x1
