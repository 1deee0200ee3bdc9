-- layer 2: sum, the head of its loop
theorem popL_a (Q : Int → Int) (h : Int) (a : Nat) : ∀ b : Nat, popL Q h (a + b) = popL Q (h + (a : Int)) b ++ popL Q h a
  | 0 => rfl
  | b + 1 => by
    show (Q (h + ((a + b : Nat) : Int)), 0) :: popL Q h (a + b) = ((Q (h + (a : Int) + (b : Int)), 0) :: popL Q (h + (a : Int)) b) ++ popL Q h a
    rw [popL_a Q h a b, show h + ((a + b : Nat) : Int) = h + (a : Int) + (b : Int) by omega]
    rfl
theorem popL_cg {Q Q' : Int → Int} {h : Int} : ∀ l : Nat, (∀ i : Int, h ≤ i → i < h + (l : Int) → Q' i = Q i) → popL Q' h l = popL Q h l
  | 0, _ => rfl
  | l + 1, hq => by
    show (Q' (h + (l : Int)), 0) :: popL Q' h l = (Q (h + (l : Int)), 0) :: popL Q h l
    rw [hq (h + (l : Int)) (by omega) (by omega), popL_cg l (fun i i1 i2 => hq i i1 (by omega))]
/-- the head of sum's loop: a wait of w (nw) and of t (nt) on the reference's pile; the class has emitted t, w waits in x1 -/
def SumH (D : PD) (c0 : BX4) (m0 : BX12) (j0 o : Int) (E : OpL) (Q : Int → Int) (h nv nb : Int) (x1 : Int) (c : BX4) (t : BX9) (j : Int) : Prop :=
  ∃ (m : BX12) (ops E' : OpL) (st nw nt : Nat) (Q2 : Int → Int), j0 < j ∧ CJ D t j ∧ (nw ≤ 1 ∧ nt ≤ 1) ∧ (∀ i : Int, 0 ≤ i → i < h → Q2 i = Q i) ∧ ((nw = 0 ∧ x1 = -1) ∨ (nw = 1 ∧ (Q2 h = 3 ∨ Q2 h = 4) ∧ x1 = Q2 h + 4)) ∧ (nt = 1 → Q2 (h + (nw : Int)) = 5 ∨ Q2 (h + (nw : Int)) = 6) ∧ E' ++ popL Q2 (h + (nw : Int)) nt = E ++ ops ∧
  Beh D m0 m j Q2 (h + (nw : Int) + (nt : Int)) o E' ∧ WC c (ds D) (E ++ ops) ∧ FrZ c0 c ∧ CBl c0 c (ds D) ∧ oLen ops + (nw : Int) ≤ j - j0 ∧ Sh (bitK (pX4_told c0)) ops nv nb (nv + 1 + (nw : Int)) nb ∧ (st : Int) ≤ j - j0 ∧ Go m0 m st
theorem SumH.first {D : PD} {c0 c : BX4} {t : BX9} {m0 : BX12} {j0 o : Int} {E : OpL} {Q : Int → Int} {h nv nb : Int} {r : Int32} (hr : r = 1) (hO : OneOut D c0 m0 j0 o E Q h 0 nv nb (r, c, t)) : ∃ j : Int, SumH D c0 m0 j0 o E Q h nv nb (-1) c t j := by
  rcases hO with ⟨_, m', j', ops, st, q1, q2, q3, q4, q5, q6, q7, q8, q9, q10⟩ | ⟨h1, _⟩
  · refine ⟨j', m', ops, E ++ ops, st, 0, 0, Q, q1, q2, by omega, fun i _ _ => rfl, Or.inl ⟨rfl, rfl⟩, by omega, List.append_nil _, ?_, q4, q5, q6, by omega, ?_, q9, q10⟩
    · obtain ⟨b1, b2, b3, b4, b5, b6, b7⟩ := q3
      rw [show E ++ ops ++ negs 0 = E ++ ops from List.append_nil _] at b5
      refine ⟨b1, ?_, ?_, b4, b5, b6, b7⟩
      · rw [show h + ((0 : Nat) : Int) + ((0 : Nat) : Int) = h by omega]
        exact b2
      · rw [b3]
        congr 1
        omega
    · rw [show nv + 1 + ((0 : Nat) : Int) = nv + 1 by omega]
      exact q8
  · rw [hr] at h1
    exact absurd (show (1 : Int32) = 0 from h1) (by decide)
theorem sum_last {D : PD} {ON : BX4 → BX9 → Option (Int32 × BX4 × BX9)} {c0 c : BX4} {t : BX9} {m0 : BX12} {j0 o : Int} {E : OpL} {Q : Int → Int} {h nv nb x1 j : Int} (hH : SumH D c0 m0 j0 o E Q h nv nb x1 c t j) (hl : ds D + oLen E ≤ j0) (hnv : 0 ≤ nv ∧ 0 ≤ nb) (hj : dK D j ≠ 42 ∧ dK D j ≠ 43 ∧ dK D j ≠ 45 ∧ dK D j ≠ 47) : Wp (f_X4_sum_b114 ON (iI x1) 1 c t) (SumOut D c0 m0 j0 o E Q h nv nb) := by
  obtain ⟨m, ops, E', st, nw, nt, Q2, a1, a2, a3, a4, a5, a6, a7, a8, a9, a10, a11, a12, a13, a14, a15⟩ := hH
  have jb := a8.1.n
  have hN : ∀ i : Int, h ≤ i → i < h + ((nw + nt : Nat) : Int) → 3 ≤ Q2 i ∧ Q2 i < 7 := by
    intro i i1 i2
    by_cases ci : i < h + (nw : Int)
    · rw [show i = h by omega]
      omega
    · rw [show i = h + (nw : Int) by omega]
      have := a6 (by omega)
      omega
  have hb : Beh D m0 m j Q2 (h + ((nw + nt : Nat) : Int)) o E' := by
    rw [show h + ((nw + nt : Nat) : Int) = h + (nw : Int) + (nt : Int) by omega]
    exact a8
  have hpop : E' ++ popL Q2 h (nw + nt) = E ++ ops ++ popL Q2 h nw := by rw [popL_a, ← List.append_assoc, a7]
  unfold f_X4_sum_b114
  rcases a5 with ⟨n0, e1⟩ | ⟨n1, e2, e1⟩
  · rw [e1, if_pos (show iI (-1) = -1 from rfl)]
    refine wp_gd (Or.inr rfl) (wp_some (Or.inl ⟨rfl, m, j, ops, st, Q2, nw + nt, E', a1, a2, ⟨by omega, a4, hN, ?_⟩, hb, a9, a10, a11, by omega, ?_, a14, a15, hj⟩))
    · rw [hpop, n0]
      exact List.append_nil _
    · rw [n0, show nv + 1 + ((0 : Nat) : Int) = nv + 1 by omega] at a13
      exact a13
  · rw [e1, if_neg (show ¬ iI (Q2 h + 4) = -1 from iI_ne (b := -1) (by omega) (by omega) (by omega) (by omega) (by omega))]
    refine wp_bind (wp_mono (z_emitC (o := Q2 h) (v := 0) a9 (by rw [oLen_a]; omega) (o' := Q2 h + 4) (by rcases e2 with e2 | e2 <;> rw [e2] <;> rfl)) ?_)
    rintro u ⟨u1, u2, u3⟩
    refine wp_gd (Or.inr rfl) (wp_some (Or.inl ⟨rfl, m, j, ops ++ [(Q2 h, 0)], st, Q2, nw + nt, E', a1, a2, ⟨by omega, a4, hN, ?_⟩, hb, ?_, ?_, CBl.trans a11 u3, by rw [oLen_a, oLen_1]; omega, ?_, a14, a15, hj⟩))
    · rw [hpop, n1, List.append_assoc]
      congr 2
      show [(Q2 (h + ((0 : Nat) : Int)), (0 : Int))] = _
      rw [show h + ((0 : Nat) : Int) = h by omega]
    · rw [← List.append_assoc]
      exact u2
    · exact ⟨u1.1.trans a10.1, u1.2.1.trans a10.2.1, u1.2.2.1.trans a10.2.2.1, u1.2.2.2.1.trans a10.2.2.2.1, u1.2.2.2.2.trans a10.2.2.2.2⟩
    · rw [n1] at a13
      exact Sh_a ops _ nv nb _ nb (nv + 1) nb a13 ⟨nv + 1, nb, Or.inr (Or.inr (Or.inl ⟨by omega, rfl, by omega, by omega, rfl⟩)), rfl, rfl⟩
