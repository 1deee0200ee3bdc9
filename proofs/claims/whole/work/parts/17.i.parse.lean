-- layer 2: a text as a whole
def PrO (D : PD) (m : BX12) (x : Option (Int32 × BX12)) (r : BX4 × BX9) : Prop :=
  (∃ (m' : BX12) (j' : Int) (p' : Prog) (a' : Int → Bool), x = some (0, m') ∧ CI D r.1 r.2 m' j' p' a' ∧ FrV m m' ∧ TBw m m' (db D)) ∨
  (∃ (f : Int) (m' : BX12) (j' : Int), (1 ≤ f ∧ f ≤ 6) ∧ FA r.1 f (dS D j') ∧ pX12_place m' = iI (dS D j') ∧ x = some (iI f, m') ∧ FrV m m' ∧ TBw m m' (db D))
theorem TBw.trans {m r q : BX12} {b : Int} (h : TBw m r b) (g : TBw r q b) : TBw m q b := fun k k1 k2 => (g k k1 k2).trans (h k k1 k2)
theorem parse_loop {D : PD} {n0 : Nat} {v : Nat → Int32} : ∀ (d : Nat) (c : BX4) (t : BX9) (m : BX12) (j : Int) (p : Prog) (a : Int → Bool) (F G : Nat), CI D c t m j p a → (d : Int) + (p.length : Int) = 11 → d + 1 ≤ F → d ≤ G → Wp (f_X4_parse_b41 n0 v F (iI (p.length : Int), c, t)) (PrO D m (f_X12_readText_b48 G m)) := by
  intro d
  induction d with
  | zero =>
    intro c t m j p a F G hI hd hF hG
    have := hI.2.2.2.2.2.1
    omega
  | succ d ih =>
    intro c t m j p a F G hI hd hF hG
    obtain ⟨F, rfl⟩ : ∃ f, F = (f + 1) + 1 := ⟨F - 2, by omega⟩
    obtain ⟨G, rfl⟩ : ∃ g, G = g + 1 := ⟨G - 1, by omega⟩
    have hp := hI.2.2.2.2.2.1
    have kb := hI.1.tk.kb
    show Wp (f_X4_parse_b41B n0 v (f_X4_parse_b41 n0 v (F + 1)) (iI (p.length : Int)) c t) (PrO D m (f_X12_readText_b48B (f_X12_readText_b48 G) m))
    unfold f_X4_parse_b41B f_X12_readText_b48B
    rw [if_neg (show ¬ 10 < iI (p.length : Int) from fun x => absurd ((iI_lt (a := 10) (by omega) (by omega) (by omega) (by omega)).mp x) (by omega)), if_pos (show pX4_fault c = 0 from hI.2.2.1.2.1), hI.2.1.2.2.2.1]
    have tk0 : (pX12_token m = 0) ↔ dK D j = -1 := hI.1.tk.low.1
    by_cases ck : dK D j = -1
    · rw [if_pos (show iI (dK D j) = -1 by rw [ck]; rfl), if_pos (tk0.mpr ck)]
      exact wp_some (Or.inl ⟨m, j, p, a, rfl, hI, FrV.refl m, fun k _ _ => rfl⟩)
    · rw [if_neg (show ¬ iI (dK D j) = -1 from iI_ne (b := -1) (by omega) (by omega) (by omega) (by omega) ck), if_neg (fun x => ck (tk0.mp x))]
      refine wp_bind (wp_mono (clause_all hI) ?_)
      rintro r (⟨m', j', p', a', q1, q2, q3, q4, q5, q6⟩ | ⟨f, m', j', f1, f2, f3, f4, f5, f6⟩)
      · rw [q2, bind_s, if_pos (show ((0 : Int32), m').1 = 0 from rfl), show (iI (p.length : Int) + 1 : Int32) = iI (p'.length : Int) by rw [q4]; exact iI_add _ 1]
        refine wp_lt (wp_mono (ih r.1 r.2 m' j' p' a' (F + 1) G q3 (by rw [q4]; omega) (by omega) (by omega)) ?_)
        rintro s (⟨m'', j'', p'', a'', g1, g2, g3, g4⟩ | ⟨f, m'', j'', g1, g2, g3, g4, g5, g6⟩)
        · exact Or.inl ⟨m'', j'', p'', a'', g1, g2, q5.trans g3, q6.trans g4⟩
        · exact Or.inr ⟨f, m'', j'', g1, g2, g3, g4, q5.trans g5, q6.trans g6⟩
      · rw [f4, bind_s, if_neg (show ¬ (iI f, m').1 = 0 from iI_ne (b := 0) (by omega) (by omega) (by omega) (by omega) (by omega))]
        refine wp_lt ?_
        show Wp (f_X4_parse_b41B n0 v (f_X4_parse_b41 n0 v F) (iI (p.length : Int) + 1) r.1 r.2) _
        unfold f_X4_parse_b41B
        have fin : PrO D m (some (iI f, m')) (r.1, r.2) := Or.inr ⟨f, m', j', f1, f2, f3, rfl, f5, f6⟩
        by_cases h10 : (10 : Int32) < iI (p.length : Int) + 1
        · rw [if_pos h10]
          exact wp_some fin
        · rw [if_neg h10, if_neg (show ¬ pX4_fault r.1 = 0 by rw [f2.1]; exact iI_ne (b := 0) (by omega) (by omega) (by omega) (by omega) (by omega))]
          exact wp_some fin
/-- the reference's first token -/
theorem AtJ.begin {m : BX12} {Z : Int → Int} {T n : Int} {p S K V : Int → Int} (h1 : TX m T Z) (h2 : TS Z T n p S K V) (h4 : pX12_at m = iI 0) : Wp (f_X12_nextToken m) (fun r => FrK m r ∧ AtJ r Z T n p S K V 0) := by
  obtain ⟨g1, g2, g3, g4, g5, g6⟩ := h2
  have hT := h1.1
  by_cases d : 0 < n
  · obtain ⟨q1, q2, q3⟩ := g3 0 (by omega) d
    refine wp_mono (z_nextToken q1 q3 h1 (by rw [g2]; exact h4)) ?_
    rintro r ⟨r1, r2, r3, r4⟩
    exact ⟨r1, r1.tx h1, ⟨g1, g2, g3, g4, g5, g6⟩, by omega, by rw [if_pos d]; exact r2, r3, r4⟩
  · have e : n = 0 := by omega
    rw [e] at g4 g5 g6
    refine wp_mono (z_nextToken (s := T) (e := T) (k := -1) (v := V 0) g4.1 ⟨g4.2.1, g4.2.2, Or.inl ⟨rfl, rfl, rfl⟩⟩ h1 (by rw [g2]; exact h4)) ?_
    rintro r ⟨r1, r2, r3, r4⟩
    refine ⟨r1, r1.tx h1, ⟨g1, g2, g3, by rw [e]; exact g4, by rw [e]; exact g5, by rw [e]; exact g6⟩, by omega, by rw [if_neg d]; exact r2, by rw [g5]; exact r3, by rw [g6]; exact r4⟩
theorem bitK_0 {k : Int} (k1 : 0 ≤ k) (k2 : k < 8) : bitK 0 k = false := by
  have hk : k = 0 ∨ k = 1 ∨ k = 2 ∨ k = 3 ∨ k = 4 ∨ k = 5 ∨ k = 6 ∨ k = 7 := by omega
  rcases hk with e | e | e | e | e | e | e | e <;> subst e <;> decide
theorem parse_all {m : BX12} {c : BX4} {t : BX9} {tape : Nat → Int32} {Z : Int → Int} {T A3 : Int} (hm : TX m T Z) (ht : AI tape Z T) (ha : pX12_a m 3 = iI A3) (a1 : 0 ≤ A3) (a2 : A3 < 8) : ∃ D : PD, db D = 800 * A3 ∧ Wp (f_X4_parse 300 tape c t (iI T)) (PrO D m (f_X12_readText m)) := by
  obtain ⟨t1, et, n, p, S, K, V, hTS, hCT⟩ := z_split hm.1.1 hm.1.2 ht hm.2.2.2 t
  refine ⟨(Z, T, n, p, S, K, V, 800 * A3, 0, 0), rfl, ?_⟩
  have hr : f_X12_readText m = (f_X12_nextToken (sX12_at (sX12_letters (sX12_came (sX12_opens (sX12_written (sX12_clauses (sX12_text0 m (iI (800 * A3))) 0) 0) 0) 0) 0) 0)).bind (fun r_13 => f_X12_readText_b48 fU r_13) := by
    unfold f_X12_readText
    rw [gd_t (by decide), lt_e, show (3 : Int32).toNatClampNeg = 3 from rfl, ha, show (800 * iI A3 : Int32) = iI (800 * A3) by rw [show (800 : Int32) = iI 800 from rfl, iI_mul], lt_e, lt_e, lt_e, lt_e, lt_e, lt_e, lt_e]
  rw [hr]
  have fV : FrV m (sX12_at (sX12_letters (sX12_came (sX12_opens (sX12_written (sX12_clauses (sX12_text0 m (iI (800 * A3))) 0) 0) 0) 0) 0) 0) := FrV.s_at (FrV.s_letters (FrV.s_came (FrV.s_opens (FrV.s_written (FrV.s_clauses (FrV.s_text0 (FrV.refl m) _) _) _) _) _) _) _
  have y1 : pX12_text0 (sX12_at (sX12_letters (sX12_came (sX12_opens (sX12_written (sX12_clauses (sX12_text0 m (iI (800 * A3))) 0) 0) 0) 0) 0) 0) = iI (800 * A3) := rfl
  have y2 : pX12_clauses (sX12_at (sX12_letters (sX12_came (sX12_opens (sX12_written (sX12_clauses (sX12_text0 m (iI (800 * A3))) 0) 0) 0) 0) 0) 0) = iI 0 := rfl
  have y3 : pX12_written (sX12_at (sX12_letters (sX12_came (sX12_opens (sX12_written (sX12_clauses (sX12_text0 m (iI (800 * A3))) 0) 0) 0) 0) 0) 0) = iI 0 := rfl
  have y4 : pX12_opens (sX12_at (sX12_letters (sX12_came (sX12_opens (sX12_written (sX12_clauses (sX12_text0 m (iI (800 * A3))) 0) 0) 0) 0) 0) 0) = iI 0 := rfl
  have y5 : pX12_came (sX12_at (sX12_letters (sX12_came (sX12_opens (sX12_written (sX12_clauses (sX12_text0 m (iI (800 * A3))) 0) 0) 0) 0) 0) 0) = 0 := rfl
  have y6 : pX12_letters (sX12_at (sX12_letters (sX12_came (sX12_opens (sX12_written (sX12_clauses (sX12_text0 m (iI (800 * A3))) 0) 0) 0) 0) 0) 0) = 0 := rfl
  have y7 : pX12_at (sX12_at (sX12_letters (sX12_came (sX12_opens (sX12_written (sX12_clauses (sX12_text0 m (iI (800 * A3))) 0) 0) 0) 0) 0) 0) = iI 0 := rfl
  have y8 : pX12_texts (sX12_at (sX12_letters (sX12_came (sX12_opens (sX12_written (sX12_clauses (sX12_text0 m (iI (800 * A3))) 0) 0) 0) 0) 0) 0) = pX12_texts m := rfl
  generalize sX12_at (sX12_letters (sX12_came (sX12_opens (sX12_written (sX12_clauses (sX12_text0 m (iI (800 * A3))) 0) 0) 0) 0) 0) 0 = m1 at fV y1 y2 y3 y4 y5 y6 y7 y8 ⊢
  obtain ⟨m2, e2, g1, g2⟩ := AtJ.begin ⟨hm.1, fV.taped.trans hm.2.1, by rw [fV.tape]; exact hm.2.2.1, hm.2.2.2⟩ hTS y7
  rw [e2, bind_s]
  unfold f_X4_parse
  rw [et, bind_s, lt_e, lt_e, lt_e, lt_e, lt_e, lt_e, lt_e]
  refine wp_mono (parse_loop (D := (Z, T, n, p, S, K, V, 800 * A3, 0, 0)) 11 (sX4_place (sX4_fault (sX4_used (sX4_told (sX4_open (sX4_size c 0) 0) 0) 0) 0) (-1)) t1 m2 0 [] (fun _ => false) fU fU ⟨g2, hCT, ⟨rfl, rfl, rfl, ?_, ?_, rfl⟩, ⟨?_, ?_, ?_, ?_, ?_⟩, ⟨?_, ?_⟩, by decide, by decide, trivial, ?_, trivial, trivial⟩ rfl (by rw [fU_v]; omega) (by rw [fU_v]; omega)) ?_
  · rw [g1.letters, y6]
  · show (0 : Int32) = uW (fun _ => false)
    decide
  · exact g1.opens.trans y4
  · rw [g1.came, y5]
    decide
  · exact g1.text0.trans y1
  · exact g1.clauses.trans y2
  · exact g1.written.trans y3
  · show 0 ≤ 800 * A3
    omega
  · show 800 * A3 ≤ 5600
    omega
  · intro k k1 k2 k3
    rw [g1.letters, y6, bitK_0 k1 k2] at k3
    cases k3
  · have fv : FrV m m2 := fV.trans g1.v
    have tb : TBw m m2 (800 * A3) := fun k _ _ => by rw [g1.texts, y8]
    rintro s (⟨m', j', p', a', q1, q2, q3, q4⟩ | ⟨f, m', j', q1, q2, q3, q4, q5, q6⟩)
    · exact Or.inl ⟨m', j', p', a', q1, q2, fv.trans q3, TBw.trans tb q4⟩
    · exact Or.inr ⟨f, m', j', q1, q2, q3, q4, fv.trans q5, TBw.trans tb q6⟩
