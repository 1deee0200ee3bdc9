-- layer 2: a sum at the top
/-- both refuse, at one place -/
def FltT (D : PD) (m : BX12) (j : Int) (r : Int32 × BX4 × BX9) (x : Option (Int32 × BX12)) : Prop := ∃ (f : Int) (m' : BX12) (j' : Int), (1 ≤ f ∧ f ≤ 6) ∧ (j ≤ j' ∧ j' ≤ dn D) ∧ FA r.2.1 f (dS D j') ∧ pX12_place m' = iI (dS D j') ∧ FrQ m m' ∧ TBl m m' (db D) (dw D) ∧ x = some (iI f, m')
theorem FltT.from {D : PD} {m m1 : BX12} {j j1 : Int} {r : Int32 × BX4 × BX9} {x : Option (Int32 × BX12)} (h : FltT D m1 j1 r x) (hj : j ≤ j1) (hf : FrQ m m1) (ht : TBl m m1 (db D) (dw D)) : FltT D m j r x := by
  obtain ⟨f, m', j', h1, h2, h3, h4, h5, h6, h7⟩ := h
  exact ⟨f, m', j', h1, by omega, h3, h4, hf.trans h5, ht.trans h6, h7⟩
theorem FltT.emit {D : PD} {m : BX12} {j : Int} {a : Int32} {c : BX4} {t : BX9} {y : Option (Int32 × BX12)} (h : FltT D m j (a, c, t) y) (x v : Int32) : Wp (f_X4_emit c x v) (fun u => FltT D m j (0, u, t) y) := by
  obtain ⟨f, m', j', h1, h2, h3, h4⟩ := h
  exact wp_mono (z_emitF h3 x v) (fun u hu => ⟨f, m', j', h1, h2, hu, h4⟩)
/-- both have read on: what stands behind -/
def OutT (D : PD) (c : BX4) (m : BX12) (j o : Int) (E : OpL) (nv nb a b : Int) (r : Int32 × BX4 × BX9) (x : Option (Int32 × BX12)) : Prop := ∃ (m' : BX12) (j' : Int) (ops : OpL), j < j' ∧ x = some (0, m') ∧ PS D r.2.1 r.2.2 m' j' o (E ++ ops) (E ++ ops) ∧ pX12_opens m' = iI o ∧ FrZ c r.2.1 ∧ CBl c r.2.1 (ds D) ∧ TBl m m' (db D) (dw D) ∧ FrQ m m' ∧ oLen ops ≤ j' - j ∧ Sh (bitK (pX4_told c)) ops nv nb a b
def TopO (D : PD) (c : BX4) (m : BX12) (j o : Int) (E : OpL) (nv nb a b : Int) (x : Option (Int32 × BX12)) (r : Int32 × BX4 × BX9) : Prop := (r.1 = 1 ∧ OutT D c m j o E nv nb a b r x) ∨ (r.1 = 0 ∧ FltT D m j r x)
theorem summed_top {D : PD} {c : BX4} {t : BX9} {m : BX12} {j o : Int} {E : OpL} {nv nb : Int} (hS : PS D c t m j o E E) (ho : pX12_opens m = iI o) (hl : ds D + oLen E ≤ j) (hnv : 0 ≤ nv ∧ 0 ≤ nb ∧ nv + nb ≤ 3 * o + 3) : Wp (f_X4_sum c t) (TopO D c m j o E nv nb (nv + 1) nb (f_X12_summed m)) := by
  obtain ⟨h1, h2, h3, h4, h5, h6, h7, h8⟩ := hS
  have jn0 := h1.n
  have hsum : f_X12_summed m = f_X12_summed_b10 fU (sX12_isWhole (sX12_piled m (iI 0)) (iI 0)) := by
    unfold f_X12_summed
    rw [lt_e, lt_e]
    rfl
  rw [hsum]
  have fJ : FrJ m (sX12_isWhole (sX12_piled m (iI 0)) (iI 0)) := FrJ.s_isWhole (FrJ.s_piled (FrJ.refl m) _) _
  have e1 : pX12_opens (sX12_isWhole (sX12_piled m (iI 0)) (iI 0)) = pX12_opens m := rfl
  have e2 : pX12_isWhole (sX12_isWhole (sX12_piled m (iI 0)) (iI 0)) = iI 0 := rfl
  have e3 : pX12_texts (sX12_isWhole (sX12_piled m (iI 0)) (iI 0)) = pX12_texts m := rfl
  have e4 : pX12_written (sX12_isWhole (sX12_piled m (iI 0)) (iI 0)) = pX12_written m := rfl
  have e5 : pX12_piled (sX12_isWhole (sX12_piled m (iI 0)) (iI 0)) = iI 0 := rfl
  generalize sX12_isWhole (sX12_piled m (iI 0)) (iI 0) = m1 at fJ e1 e2 e3 e4 e5 ⊢
  have hp : PI m1 (fun _ => 0) 0 := ⟨e5, by omega, fun i i1 i2 => by omega⟩
  refine wp_mono (sum_top h3.2.1 h3.2.2 c t m1 j E (fun _ => 0) 0 nv nb ⟨h1.cg fJ, h2, h3, h4, h5.trans fJ.q.letters.symm, h6, h7.cg fJ.q.text0 e4 e3, h8⟩ (e1.trans ho) e2 hp (fun i i1 i2 => by omega) (fun g => by omega) (by omega) hl hnv) ?_
  rintro r (⟨r1, m', j', ops, st, Q2, l, E', q1, q2, ⟨l1, l2, l3, l4⟩, q3, q4, q5, q6, q7, q8, q9, q10, q11⟩ | ⟨r1, f, m', j', st, f1, f2, f3, f4, f5, f6, f7, f8⟩)
  · obtain ⟨b1, b2, b3, b4, b5, b6, b7⟩ := q3
    have jb := b1.n
    have hlen : oLen (E ++ ops) = oLen E + oLen ops := oLen_a E ops
    obtain ⟨u, e, u1, u2, u3, u4, u5, u6⟩ := z_settled (D := D) (E := E ++ ops) (by omega) b2 l3 (fun g => by omega) b5 l4 (by omega)
    refine Or.inl ⟨r1, u, j', ops, q1, ?_, ⟨b1.cg u1, q2, ⟨q5.1.trans h3.1, h3.2⟩, q5.2.2.2.1.trans h4, ?_, q4, u5, h8⟩, u3.trans b3, q5, q6, (TBl.of e3).trans (b6.trans u6), fJ.q.trans (b7.trans u1.q), q7, q8⟩
    · obtain ⟨F, hF⟩ : ∃ F, fU = (F + 1) + st := ⟨fU - st - 1, by rw [fU_v]; omega⟩
      rw [hF, q10 (F + 1)]
      show f_X12_summed_b10B (f_X12_summed_b10 F) m' = _
      unfold f_X12_summed_b10B
      have hg := z_goesOnM b1.tk
      rw [if_neg (by omega), z_b540 b2 (fun i i1 i2 => by have := l3 i (by omega) (by omega); omega), ite_self] at hg
      rw [b4, if_neg (show ¬ iI 1 = 0 by decide), hg, bind_s, if_pos rfl, e, bind_s, u2.1, if_pos (show iI 0 ≤ 0 by decide)]
    · rw [q5.2.1, h5, u1.q.letters, b7.letters, fJ.q.letters]
  · refine Or.inr ⟨r1, f, m', j', f1, f2, f3, f4, fJ.q.trans f5, (TBl.of e3).trans f6, ?_⟩
    have jn := h1.n
    have jl : st ≤ fU := by
      rw [fU_v]
      omega
    rw [show fU = (fU - st) + st by omega]
    exact f8 _
