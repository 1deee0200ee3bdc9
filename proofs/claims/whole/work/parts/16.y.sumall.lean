-- layer 2: sum, its loop and sum as a whole
theorem sum_loop {D : PD} {ON : BX4 → BX9 → Option (Int32 × BX4 × BX9)} {c0 : BX4} {m0 : BX12} {j0 o : Int} {E : OpL} {Q : Int → Int} {h nv nb : Int} (hX : OneS D ON o) (hS0 : pX4_open c0 = iI o ∧ pX4_fault c0 = iI 0 ∧ pX4_told c0 = pX12_letters m0 ∧ dw D ≤ ds D) (ho : 0 ≤ o ∧ o ≤ 8) (h00 : 0 ≤ h) (hA : ∀ i : Int, 0 ≤ i → i < h → 0 ≤ Q i ∧ Q i ≤ 100) (hT : 0 < h → 40 ≤ Q (h - 1)) (hh : h ≤ 3 * o) (hj0 : 0 ≤ j0) (hl : ds D + oLen E ≤ j0) (hnv : 0 ≤ nv ∧ 0 ≤ nb ∧ nv + nb ≤ 3 * o + 3) : ∀ (d : Nat) (x1 : Int) (c : BX4) (t : BX9) (j x3 : Int) (F : Nat), SumH D c0 m0 j0 o E Q h nv nb x1 c t j → dn D - j ≤ (d : Int) → (0 ≤ x3 ∧ x3 < j) → d + 2 ≤ F → Wp (f_X4_sum_b9 ON F (iI x1, 1, iI x3, c, t)) (SumOut D c0 m0 j0 o E Q h nv nb) := by
  intro d
  induction d with
  | zero =>
    intro x1 c t j x3 F hH hd hx hF
    obtain ⟨F, rfl⟩ : ∃ f, F = f + 1 := ⟨F - 1, by omega⟩
    have hH' := hH
    obtain ⟨m, ops, E', st, nw, nt, Q2, a1, a2, a3, a4, a5, a6, a7, a8, a9, a10, a11, a12, a13, a14, a15⟩ := hH
    have jb := a8.1.n
    have nk : dK D j = -1 := by
      by_cases e : dK D j = -1
      · exact e
      · have := jb.2.2 e
        omega
    have cj : ¬ (dK D j = 43 ∨ dK D j = 45 ∨ dK D j = 42 ∨ dK D j = 47) := by omega
    show Wp (f_X4_sum_b9B ON (f_X4_sum_b9 ON F) (iI x1) 1 (iI x3) c t) _
    unfold f_X4_sum_b9B
    rw [if_neg (show ¬ 300 ≤ iI x3 from fun e => absurd ((iI_le (a := 300) (by omega) (by omega) (by omega) (by omega)).mp e) (by omega)), if_neg (by decide), a2.2.2.2.1, z_joinOp (by omega), bind_s, if_neg cj, if_pos rfl]
    exact sum_last hH' hl ⟨hnv.1, hnv.2.1⟩ (by omega)
  | succ d ih =>
    intro x1 c t j x3 F hH hd hx hF
    obtain ⟨F, rfl⟩ : ∃ f, F = (f + 1) + 1 := ⟨F - 2, by omega⟩
    have hH' := hH
    obtain ⟨m, ops, E', st, nw, nt, Q2, a1, a2, a3, a4, a5, a6, a7, a8, a9, a10, a11, a12, a13, a14, a15⟩ := hH
    have jb := a8.1.n
    have fin : ∀ r : Int32 × BX4 × BX9, r.1 = 0 → Flt D m0 j0 r → SumOut D c0 m0 j0 o E Q h nv nb r := fun r r1 r2 => Or.inr ⟨r1, r2⟩
    show Wp (f_X4_sum_b9B ON (f_X4_sum_b9 ON (F + 1)) (iI x1) 1 (iI x3) c t) _
    unfold f_X4_sum_b9B
    rw [if_neg (show ¬ 300 ≤ iI x3 from fun e => absurd ((iI_le (a := 300) (by omega) (by omega) (by omega) (by omega)).mp e) (by omega)), if_neg (by decide), a2.2.2.2.1, z_joinOp a8.1.tk.kb, bind_s]
    have x3e : (iI x3 + 1 : Int32) = iI (x3 + 1) := iI_add x3 1
    by_cases cj : dK D j = 43 ∨ dK D j = 45 ∨ dK D j = 42 ∨ dK D j = 47
    · rw [if_pos cj]
      have jn := jb.2.2 (by omega)
      by_cases cb : dK D j = 42 ∨ dK D j = 47
      · -- binds
        have sx : jnS (dK D j) = 5 := by
          unfold jnS
          rw [if_neg (by omega)]
        have xb : jnX (dK D j) = 5 ∨ jnX (dK D j) = 6 := by
          rcases cb with e | e <;> rw [e]
          · exact Or.inl rfl
          · exact Or.inr rfl
        have one := sum_one (K := fun r_7 => (f_X4_emit r_7.2.1 (iI (jnX (dK D j) + 4)) 0).bind (fun r_9 => f_X4_sum_b108 ON (f_X4_sum_b9 ON (F + 1)) (iI x1) r_7.1 (iI x3) r_9 r_7.2.2)) (R := SumOut D c0 m0 j0 o E Q h nv nb) (E1 := E ++ ops) (hb := h + (nw : Int)) (l := nt) (nv := nv + 1 + (nw : Int)) (nb := nb) hX hS0 ho a1 a2 a8 a15 a14 a10 a9 a7 (by omega) (by omega) (by rw [oLen_a]; omega) (by omega) cj
          (fun i i1 i2 => by
            rw [sx, show i = h + (nw : Int) by omega]
            have := a6 (by omega)
            omega)
          (fun g => by
            rw [sx]
            by_cases n0 : nw = 0
            · rw [n0, show h + ((0 : Nat) : Int) - 1 = h - 1 by omega, a4 (h - 1) (by omega) (by omega)]
              have := hT (by omega)
              have := hA (h - 1) (by omega) (by omega)
              omega
            · rw [show h + (nw : Int) - 1 = h by omega]
              omega)
          (fun i i1 i2 => by
            by_cases ci : i < h
            · rw [a4 i i1 ci]
              exact hA i i1 ci
            · rw [show i = h by omega]
              omega)
          (fun c' t' m' j' ops' st' q1 q2 q3 q4 q5 q6 q7 q8 q9 q10 => by
            show Wp ((f_X4_emit c' (iI (jnX (dK D j) + 4)) (iI 0)).bind (fun r_9 => f_X4_sum_b108 ON (f_X4_sum_b9 ON (F + 1)) (iI x1) 1 (iI x3) r_9 t')) _
            have jb' := q3.1.n
            refine wp_bind (wp_mono (z_emitC (o := jnX (dK D j)) (v := 0) q4 (by rw [oLen_a, oLen_a]; omega) (o' := jnX (dK D j) + 4) (by rcases xb with e | e <;> rw [e] <;> rfl)) ?_)
            rintro u ⟨u1, u2, u3⟩
            unfold f_X4_sum_b108
            rw [x3e]
            refine wp_lt (ih x1 u t' j' (x3 + 1) (F + 1) ?_ (by omega) (by omega) (by omega))
            refine ⟨m', ops ++ ops' ++ [(jnX (dK D j), 0)], E ++ ops ++ ops', st', nw, 1, up Q2 (h + (nw : Int)) (jnX (dK D j)), by omega, q2, by omega, fun i i1 i2 => by rw [up_n (by omega)]; exact a4 i i1 i2, ?_, fun _ => by rw [up_e (by omega)]; exact xb, ?_, q3, ?_, q5.trans u1, (a11.trans q6).trans u3, ?_, ?_, q9, q10⟩
            · rcases a5 with a | ⟨e1, e2, e3⟩
              · exact Or.inl a
              · refine Or.inr ⟨e1, ?_, ?_⟩
                · rw [up_n (by omega)]
                  exact e2
                · rw [up_n (by omega)]
                  exact e3
            · show E ++ ops ++ ops' ++ [(up Q2 (h + (nw : Int)) (jnX (dK D j)) (h + (nw : Int) + ((0 : Nat) : Int)), 0)] = _
              rw [up_e (by omega), List.append_assoc, List.append_assoc, List.append_assoc]
            · rw [show E ++ (ops ++ ops' ++ [(jnX (dK D j), 0)]) = E ++ ops ++ ops' ++ [(jnX (dK D j), 0)] by rw [List.append_assoc, List.append_assoc, List.append_assoc]]
              exact u2
            · rw [oLen_a, oLen_a, oLen_1]
              omega
            · exact Sh_a _ _ nv nb (nv + 1 + (nw : Int) + 1) nb _ nb (Sh_a ops ops' nv nb _ nb _ nb a13 q8) ⟨nv + 1 + (nw : Int), nb, Or.inr (Or.inr (Or.inl ⟨by omega, rfl, by omega, by omega, rfl⟩)), rfl, rfl⟩)
          (fun c' t' hf => by
            refine wp_bind (wp_mono (hf.emit (iI (jnX (dK D j) + 4)) 0) ?_)
            intro u hu
            unfold f_X4_sum_b108
            exact wp_lt (sum_flt9 hu fin _ _ F))
        have e9 : f_X4_sum_b55 ON (f_X4_sum_b9 ON (F + 1)) (iI x1) (iI x3) (iI (jnX (dK D j) + 4)) c t = (f_X9_advance t).bind (fun r_6 => (ON c r_6).bind (fun r_7 => (f_X4_emit r_7.2.1 (iI (jnX (dK D j) + 4)) 0).bind (fun r_9 => f_X4_sum_b108 ON (f_X4_sum_b9 ON (F + 1)) (iI x1) r_7.1 (iI x3) r_9 r_7.2.2))) := by
          unfold f_X4_sum_b55 f_X4_sum_b60 f_X4_sum_b78
          simp only [if_neg (show ¬ (1 : Int32) = 0 by decide)]
        rw [if_neg (show ¬ iI (jnX (dK D j) + 4) = -1 from iI_ne (b := -1) (by omega) (by omega) (by omega) (by omega) (by omega))]
        rcases cb with e | e
        · rw [if_pos (by rw [e]; rfl), e9]
          exact one
        · rw [if_neg (by rw [e]; decide), if_pos (by rw [e]; rfl), e9]
          exact one
      · -- does not bind
        have sx : jnS (dK D j) = 3 := by
          unfold jnS
          rw [if_pos (by omega)]
        have xb : jnX (dK D j) = 3 ∨ jnX (dK D j) = 4 := by
          have : dK D j = 43 ∨ dK D j = 45 := by omega
          rcases this with e | e <;> rw [e]
          · exact Or.inl rfl
          · exact Or.inr rfl
        have hpop : E' ++ popL Q2 h (nw + nt) = E ++ ops ++ popL Q2 h nw := by rw [popL_a, ← List.append_assoc, a7]
        have hb' : Beh D m0 m j Q2 (h + ((nw + nt : Nat) : Int)) o E' := by
          rw [show h + ((nw + nt : Nat) : Int) = h + (nw : Int) + (nt : Int) by omega]
          exact a8
        have shw : Sh (bitK (pX4_told c0)) (ops ++ popL Q2 h nw) nv nb (nv + 1) nb := by
          rcases a5 with ⟨n0, _⟩ | ⟨n1, e2, _⟩
          · rw [n0]
            rw [n0, show nv + 1 + ((0 : Nat) : Int) = nv + 1 by omega] at a13
            rw [show ops ++ popL Q2 h 0 = ops from List.append_nil _]
            exact a13
          · rw [n1]
            rw [n1] at a13
            refine Sh_a ops _ nv nb _ nb (nv + 1) nb a13 ⟨nv + 1, nb, Or.inr (Or.inr (Or.inl ⟨?_, rfl, by omega, by omega, rfl⟩)), rfl, rfl⟩
            rw [show h + ((0 : Nat) : Int) = h by omega]
            omega
        have one : ∀ c1 : BX4, FrZ c0 c1 → CBl c0 c1 (ds D) → WC c1 (ds D) (E ++ ops ++ popL Q2 h nw) → Wp (f_X4_sum_b78 ON (f_X4_sum_b9 ON (F + 1)) (iI x1) (iI x3) (iI (jnX (dK D j) + 4)) 0 c1 t) (SumOut D c0 m0 j0 o E Q h nv nb) := by
          intro c1 z1 z2 z3
          have e9 : f_X4_sum_b78 ON (f_X4_sum_b9 ON (F + 1)) (iI x1) (iI x3) (iI (jnX (dK D j) + 4)) 0 c1 t = (f_X9_advance t).bind (fun r_6 => (ON c1 r_6).bind (fun r_7 => f_X4_sum_b108 ON (f_X4_sum_b9 ON (F + 1)) (iI (jnX (dK D j) + 4)) r_7.1 (iI x3) r_7.2.1 r_7.2.2)) := by
            unfold f_X4_sum_b78
            simp only [if_pos]
          rw [e9]
          refine sum_one (E1 := E ++ ops ++ popL Q2 h nw) (hb := h) (l := nw + nt) (nv := nv + 1) (nb := nb) hX hS0 ho a1 a2 hb' a15 a14 z1 z3 hpop h00 (by omega) (by rw [oLen_a, oLen_a, popL_len]; omega) (by omega) cj ?_ ?_ ?_ ?_ ?_
          · intro i i1 i2
            rw [sx]
            by_cases ci : i < h + (nw : Int)
            · rw [show i = h by omega]
              omega
            · rw [show i = h + (nw : Int) by omega]
              have := a6 (by omega)
              omega
          · intro g
            rw [sx, a4 (h - 1) (by omega) (by omega)]
            have := hT g
            have := hA (h - 1) (by omega) (by omega)
            omega
          · intro i i1 i2
            rw [a4 i i1 i2]
            exact hA i i1 i2
          · intro c' t' m' j' ops' st' q1 q2 q3 q4 q5 q6 q7 q8 q9 q10
            show Wp (f_X4_sum_b108 ON (f_X4_sum_b9 ON (F + 1)) (iI (jnX (dK D j) + 4)) 1 (iI x3) c' t') _
            unfold f_X4_sum_b108
            rw [x3e]
            refine wp_lt (ih (jnX (dK D j) + 4) c' t' j' (x3 + 1) (F + 1) ?_ (by have := q3.1.n; omega) (by omega) (by omega))
            have eE : E ++ (ops ++ popL Q2 h nw ++ ops') = E ++ ops ++ popL Q2 h nw ++ ops' := by rw [List.append_assoc, List.append_assoc, List.append_assoc]
            refine ⟨m', ops ++ popL Q2 h nw ++ ops', E ++ ops ++ popL Q2 h nw ++ ops', st', 1, 0, up Q2 h (jnX (dK D j)), by omega, q2, by omega, fun i i1 i2 => by rw [up_n (by omega)]; exact a4 i i1 i2, Or.inr ⟨rfl, by rw [up_s]; exact xb, by rw [up_s]⟩, fun e => absurd e (by decide), ?_, ?_, ?_, q5, z2.trans q6, ?_, ?_, q9, q10⟩
            · rw [eE]
              exact List.append_nil _
            · rw [show h + ((1 : Nat) : Int) + ((0 : Nat) : Int) = h + 1 by omega]
              exact q3
            · rw [eE]
              exact q4
            · rw [oLen_a, oLen_a, popL_len]
              omega
            · exact Sh_a _ ops' nv nb (nv + 1) nb (nv + 1 + ((1 : Nat) : Int)) nb shw q8
          · intro c' t' hf
            show Wp (f_X4_sum_b108 ON (f_X4_sum_b9 ON (F + 1)) (iI (jnX (dK D j) + 4)) 0 (iI x3) c' t') _
            unfold f_X4_sum_b108
            exact wp_lt (sum_flt9 hf fin _ _ F)
        rw [if_neg (show ¬ iI (jnX (dK D j) + 4) = -1 from iI_ne (b := -1) (by omega) (by omega) (by omega) (by omega) (by omega)), if_neg (show ¬ iI (jnX (dK D j) + 4) = 9 from iI_ne (b := 9) (by omega) (by omega) (by omega) (by omega) (by omega)), if_neg (show ¬ iI (jnX (dK D j) + 4) = 10 from iI_ne (b := 10) (by omega) (by omega) (by omega) (by omega) (by omega))]
        unfold f_X4_sum_b60
        rw [if_pos rfl]
        rcases a5 with ⟨n0, e1⟩ | ⟨n1, e2, e1⟩
        · rw [if_pos (show iI x1 = -1 by rw [e1]; rfl)]
          refine one c a10 a11 ?_
          rw [n0, show E ++ ops ++ popL Q2 h 0 = E ++ ops from List.append_nil _]
          exact a9
        · rw [if_neg (show ¬ iI x1 = -1 from iI_ne (b := -1) (by omega) (by omega) (by omega) (by omega) (by omega))]
          refine wp_bind (wp_mono (show Wp (f_X4_emit c (iI x1) (iI 0)) _ from z_emitC (o := Q2 h) (v := 0) a9 (by rw [oLen_a]; omega) (o' := x1) (by rw [e1]; rcases e2 with e2 | e2 <;> rw [e2] <;> rfl)) ?_)
          rintro u ⟨u1, u2, u3⟩
          refine one u (a10.trans u1) (a11.trans u3) ?_
          rw [n1]
          show WC u (ds D) (E ++ ops ++ [(Q2 (h + ((0 : Nat) : Int)), (0 : Int))])
          rw [show h + ((0 : Nat) : Int) = h by omega]
          exact u2
    · rw [if_neg cj, if_pos rfl]
      exact sum_last hH' hl ⟨hnv.1, hnv.2.1⟩ (by omega)
theorem sum_all {D : PD} {ON : BX4 → BX9 → Option (Int32 × BX4 × BX9)} {o : Int} (hX : OneS D ON o) : SumS D (fo_X4_sum ON) o := by
  intro c t m j E Q h nv nb hS ho hi hp hA hT hh hl hnv
  have hS' := hS
  obtain ⟨h1, h2, h3, h4, h5, h6, h7, h8⟩ := hS
  obtain ⟨n1, n2, n3⟩ := h1.n
  have hpb := hp.2.1
  unfold fo_X4_sum
  refine wp_lt (wp_bind (wp_mono (hX c t m j E Q h 0 nv nb hS' ho hi ⟨hpb.1, by rw [show h + ((0 : Nat) : Int) = h by omega]; exact hp, fun i i1 i2 => by omega, fun g => by have := hT g; omega, hA⟩ (by omega) (by omega) (by omega)) ?_))
  rintro ⟨r0, c', t'⟩ hO
  by_cases r1 : r0 = 1
  · obtain ⟨j', hH⟩ := SumH.first r1 hO
    rw [r1]
    have jb := hH
    obtain ⟨m', _, _, _, _, _, _, a1, a2, _, _, _, _, _, a8, _⟩ := jb
    have jb' := a8.1.n
    rw [fU_v]
    exact sum_loop hX ⟨h3.1, h4, h5, h8⟩ h3.2 hpb.1 hA hT hh n1.1 hl hnv 300 (-1) c' t' j' 0 _ hH (by omega) (by omega) (by omega)
  · rcases hO with ⟨e, _⟩ | ⟨e, hf⟩
    · exact absurd e r1
    · have e : r0 = 0 := e
      rw [e] at hf ⊢
      rw [fU_v]
      exact sum_flt9 hf (fun r r1 r2 => Or.inr ⟨r1, r2⟩) _ _ _
/-- the descent, as deep as it goes -/
theorem fr_all {D : PD} : ∀ (d : Nat) (o : Int), 0 ≤ o → o ≤ 8 → 8 - o < (d : Int) → SumS D (fr_ d).1 o ∧ OneS D (fr_ d).2 o
  | 0, o, h0, h1, h2 => by omega
  | d + 1, o, h0, h1, h2 => by
    have hO : OneS D (fo_X4_one (fr_ d).1 (fr_ d).2) o := one_all (fun g => (fr_all d (o + 1) (by omega) (by omega) (by omega)).1) (fun g => (fr_all d (o + 1) (by omega) (by omega) (by omega)).2)
    exact ⟨sum_all hO, hO⟩
theorem sum_top {D : PD} {o : Int} (h0 : 0 ≤ o) (h1 : o ≤ 8) : SumS D f_X4_sum o := (fr_all 10 o h0 h1 (by omega)).1
