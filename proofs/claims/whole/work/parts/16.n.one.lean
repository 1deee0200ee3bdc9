-- layer 2: one, further leaves
theorem one_letter {D : PD} {c : BX4} {t : BX9} {m : BX12} {j o : Int} {E : OpL} {Q : Int → Int} {hq : Int} {k : Nat} {nv nb : Int} (hS : PS D c t m j o E E) (ho : pX12_opens m = iI o) (hi : pX12_isWhole m = iI 0) (hp : NP m Q hq k) (hl : ds D + oLen E + (k : Int) ≤ j) (hnv : 0 ≤ nv ∧ 0 ≤ nb ∧ nv + nb ≤ 3 * o + 5) (hK : dK D j = -4) : Wp (f_X4_toldLetter c t) (OneOut D c m j o E Q hq k nv nb) := by
  obtain ⟨h1, h2, h3, h4, h5, h6, h7, h8⟩ := hS
  obtain ⟨n1, n2, n3⟩ := h1.n
  have jn := n3 (by omega)
  have tk := h1.tk
  rw [hK] at tk
  obtain ⟨l1, l2⟩ := z_letterOf tk
  have l2 := l2 rfl
  rw [if_pos rfl] at l1
  have hv := h2.2.2.2.2.2.1
  have e1 : ¬ pX12_token m = 1 := fun e => absurd (tk.low.2.1.mp e) (by omega)
  unfold f_X4_toldLetter
  refine wp_lt ?_
  rw [hv, show (iI (dV D j) - 65 : Int32) = iI (dV D j - 65) from iI_sub _ 65, h5]
  have hbg : f_X12_beginOne m = if (((pX12_letters m) >>> (iI (dV D j - 65) &&& 31)) &&& 1 : Int32) = 0 then (some (5, m)) else ((f_X12_emit m 1 (iI (dV D j - 65))).bind (fun r_40 => (f_X12_nextToken r_40).bind (fun r_41 => (f_X12_whole r_41).bind (fun r_42 => some (0, r_42))))) := by
    unfold f_X12_beginOne
    rw [if_neg e1, l1, bind_s, if_neg (show ¬ iI (dV D j - 65) < 0 from fun e => absurd ((iI_lt (b := 0) (by omega) (by omega) (by omega) (by omega)).mp e) (by omega)), bind_s, bind_s]
  by_cases cb : (((pX12_letters m) >>> (iI (dV D j - 65) &&& 31)) &&& 1 : Int32) = 0
  · rw [if_pos cb] at hbg ⊢
    exact z_ref (f := 5) h6.sz h4 h2.2.2.2.2.1 (fun r r1 r2 => Or.inr ⟨r1, flt_here (f := 5) (by omega) (by omega) h1 hi hbg r2⟩)
  · rw [if_neg cb] at hbg ⊢
    obtain ⟨⟨r0, m'⟩, hb1, hb2, hb3⟩ := z_leafM (x := 1) (v := dV D j - 65) h1 jn h7 (by omega) ho hp
    have hb2 : r0 = 0 := hb2
    rw [hb2] at hb1
    refine wp_mono (z_leafC (x := 1) (x' := 1) (v := dV D j - 65) h6 (by omega) h2 jn n2.2 rfl) ?_
    rintro r ⟨r1, r2, r3, r4, r5⟩
    refine Or.inl ⟨r1, m', j + 1, [(1, dV D j - 65)], 1, by omega, r5, hb3, r3, r2, r4, by rw [oLen_1]; omega, ⟨nv + 1, nb, Or.inl ⟨Or.inr (Or.inl ⟨rfl, by omega, by omega, ?_⟩), by omega, rfl, rfl⟩, rfl, rfl⟩, by omega, go_begin hi (hbg.trans hb1)⟩
    unfold bitK
    rw [h5]
    exact decide_eq_true cb
theorem one_tick {D : PD} {c : BX4} {t : BX9} {m : BX12} {j o : Int} {E : OpL} {Q : Int → Int} {hq : Int} {k : Nat} {nv nb : Int} (hS : PS D c t m j o E E) (ho : pX12_opens m = iI o) (hi : pX12_isWhole m = iI 0) (hp : NP m Q hq k) (hl : ds D + oLen E + (k : Int) ≤ j) (hnv : 0 ≤ nv ∧ 0 ≤ nb ∧ nv + nb ≤ 3 * o + 5) (hK : dK D j = 1953063787) : Wp ((f_X4_emit c 4 0).bind (fun r_31 => (f_X9_advance t).bind (fun r_32 => some (1, r_31, r_32)))) (OneOut D c m j o E Q hq k nv nb) := by
  obtain ⟨h1, h2, h3, h4, h5, h6, h7, h8⟩ := hS
  obtain ⟨n1, n2, n3⟩ := h1.n
  have jn := n3 (by omega)
  have tk := h1.tk
  rw [hK] at tk
  have hbg := z_beginK tk (by omega) (by omega)
  rw [if_pos rfl] at hbg
  obtain ⟨⟨r0, m'⟩, hb1, hb2, hb3⟩ := z_leafM (x := 30) (v := 0) h1 jn h7 (by omega) ho hp
  have hb2 : r0 = 0 := hb2
  rw [hb2] at hb1
  refine wp_mono (z_leafC (x := 30) (x' := 4) (v := 0) h6 (by omega) h2 jn n2.2 rfl) ?_
  rintro r ⟨r1, r2, r3, r4, r5⟩
  exact Or.inl ⟨r1, m', j + 1, [(30, 0)], 1, by omega, r5, hb3, r3, r2, r4, by rw [oLen_1]; omega, ⟨nv + 1, nb, Or.inl ⟨Or.inr (Or.inr (Or.inl ⟨rfl, rfl⟩)), by omega, rfl, rfl⟩, rfl, rfl⟩, by omega, go_begin hi (hbg.trans hb1)⟩
/-- a token that can't begin a one -/
theorem one_none {D : PD} {c : BX4} {t : BX9} {m : BX12} {j o : Int} {E : OpL} {Q : Int → Int} {hq : Int} {k : Nat} {nv nb : Int} (hS : PS D c t m j o E E) (hi : pX12_isWhole m = iI 0) (hK : dK D j ≠ -3 ∧ dK D j ≠ -4 ∧ dK D j ≠ 1953063787 ∧ dK D j ≠ 1818586739 ∧ dK D j ≠ 1885432178 ∧ dK D j ≠ 7170414 ∧ dK D j ≠ 7168376 ∧ dK D j ≠ 40 ∧ dK D j ≠ 45) : Wp ((f_X4_refuse c t 1).bind (fun r_33 => g_gd (r_33.1 = 0 ∨ r_33.1 = 1) (some (r_33.1, r_33.2, t)))) (OneOut D c m j o E Q hq k nv nb) := by
  obtain ⟨h1, h2, h3, h4, h5, h6, h7, h8⟩ := hS
  obtain ⟨k1, k2, k3, k4, k5, k6, k7, k8, k9⟩ := hK
  have hbg := z_beginK h1.tk k1 k2
  rw [if_neg k3, if_neg k4, if_neg k5, if_neg k6, if_neg k7, if_neg k8, if_neg k9] at hbg
  exact z_ref (f := 1) h6.sz h4 h2.2.2.2.2.1 (fun r r1 r2 => Or.inr ⟨r1, flt_here (f := 1) (by omega) (by omega) h1 hi hbg r2⟩)
/-- lens and pair: x the reference's operation, x' the class's -/
theorem one_eye {D : PD} {c : BX4} {t : BX9} {m : BX12} {j o x x' : Int} {E : OpL} {Q : Int → Int} {hq : Int} {k : Nat} {nv nb : Int} (hS : PS D c t m j o E E) (ho : pX12_opens m = iI o) (hi : pX12_isWhole m = iI 0) (hp : NP m Q hq k) (hl : ds D + oLen E + (k : Int) ≤ j) (hnv : 0 ≤ nv ∧ 0 ≤ nb ∧ nv + nb ≤ 3 * o + 5) (hx : (x = 31 ∧ x' = 2) ∨ (x = 32 ∧ x' = 3)) (jn : j < dn D) (hbg : f_X12_beginOne m = (f_X12_eye m (iI x)).bind (fun r_10 => some (r_10.1, r_10.2))) : Wp ((f_X9_advance t).bind (fun r_23 => (f_X4_number c r_23 (iI x') 15).bind (fun r_24 => g_gd (r_24.1 = 0 ∨ r_24.1 = 1) (some (r_24.1, r_24.2.1, r_24.2.2))))) (OneOut D c m j o E Q hq k nv nb) := by
  obtain ⟨h1, h2, h3, h4, h5, h6, h7, h8⟩ := hS
  obtain ⟨n1, n2, n3⟩ := h1.n
  refine wp_bind (wp_mono (CT.adv h2 n2.2) ?_)
  intro t1 ht1
  rw [nx_in jn] at ht1
  obtain ⟨m1, em1, f1, hm1⟩ := h1.next
  rw [nx_in jn] at hm1
  have jn2 := hm1.n.2.2
  have tk := hm1.tk
  have htk := ht1.2.2.2.1
  have htv := ht1.2.2.2.2.2.1
  have hpl := hm1.place
  have hst := ht1.2.2.2.2.1
  unfold f_X12_eye at hbg
  rw [em1, bind_s] at hbg
  refine one_wrap (wp_mono ?_ (fun r => OneOut.r01))
  have flt : ∀ f : Int, 1 ≤ f → f ≤ 6 → f_X12_beginOne m = some (iI f, m1) → ∀ r : Int32 × BX4 × BX9, r.1 = 0 → FA r.2.1 f (dS D (j + 1)) → OneOut D c m j o E Q hq k nv nb r := fun f f1' f2' hb r r1 r2 => Or.inr ⟨r1, f, m1, j + 1, 1, ⟨f1', f2'⟩, by omega, r2, hpl, f1.q, TBl.of f1.texts, by omega, stop_begin f1' f2' hi hb⟩
  unfold f_X4_number
  rw [htk]
  by_cases cn : dK D (j + 1) = -3
  · have jn3 := jn2 (by omega)
    rw [cn] at tk
    obtain ⟨w, w1, w2, w3⟩ := tk.num
    rw [if_pos (show pX12_token m1 = 1 from tk.low.2.1.mpr rfl), w1, show f_X12_isIn (iI w) 0 15 = some (bI (0 ≤ w ∧ w ≤ 15)) from sz_isIn (b := 0) (c := 15) (by omega) (by omega) (by omega) (by omega) (by omega) (by omega), bind_s] at hbg
    rw [cn, if_pos (show iI (-3) = -3 from rfl), htv]
    by_cases c15 : w ≤ 15
    · rw [if_pos (by omega)] at w3
      rw [bI_t (show 0 ≤ w ∧ w ≤ 15 by omega), if_neg (by decide)] at hbg
      rw [w3, if_pos (show iI w ≤ 15 from (iI_le (b := 15) (by omega) (by omega) (by omega) (by omega)).mpr c15)]
      obtain ⟨⟨r0, m'⟩, hb1, hb2, hb3⟩ := z_leafM (x := x) (v := w) (o := o) (Q := Q) (hq := hq) (k := k) hm1 jn3 (h7.cg f1.text0 f1.written f1.texts) (by omega) (f1.opens.trans ho) (hp.cg f1.piled f1.pile)
      have hb2 : r0 = 0 := hb2
      rw [hb2] at hb1
      rw [hb1] at hbg
      refine wp_mono (z_leafC (x := x) (x' := x') (v := w) h6 (by omega) ht1 jn3 n2.2 (by rcases hx with ⟨rfl, rfl⟩ | ⟨rfl, rfl⟩ <;> rfl)) ?_
      rintro r ⟨r1, r2, r3, r4, r5⟩
      obtain ⟨b1, b2, b3, b4, b5, b6, b7⟩ := hb3
      exact Or.inl ⟨r1, m', j + 1 + 1, [(x, w)], 1, by omega, r5, ⟨b1, b2, b3, b4, b5, (TBl.of f1.texts).trans b6, f1.q.trans b7⟩, r3, r2, r4, by rw [oLen_1]; omega, ⟨nv + 1, nb, Or.inl ⟨Or.inr (Or.inr (Or.inr ⟨by omega, by omega, by omega⟩)), by omega, rfl, rfl⟩, rfl, rfl⟩, by omega, go_begin hi hbg⟩
    · rw [bI_f (show ¬ (0 ≤ w ∧ w ≤ 15) by omega), if_pos rfl] at hbg
      have hv15 : 15 < dV D (j + 1) ∧ dV D (j + 1) ≤ 10000 := by
        rw [w3]
        split <;> omega
      rw [if_neg (show ¬ iI (dV D (j + 1)) ≤ 15 from fun e => absurd ((iI_le (b := 15) (by omega) (by omega) (by omega) (by omega)).mp e) (by omega))]
      exact z_ref (f := 2) h6.sz h4 hst (flt 2 (by omega) (by omega) hbg)
  · have kb := tk.kb
    rw [if_neg (show ¬ pX12_token m1 = 1 from fun e => cn (tk.low.2.1.mp e))] at hbg
    rw [if_neg (show ¬ iI (dK D (j + 1)) = -3 from iI_ne (b := -3) (by omega) (by omega) (by omega) (by omega) cn)]
    exact z_ref (f := 1) h6.sz h4 hst (flt 1 (by omega) (by omega) hbg)
