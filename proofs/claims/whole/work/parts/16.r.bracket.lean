-- layer 2: one, bracketed
theorem z_expect {D : PD} {c : BX4} {t : BX9} {j g : Int} (ht : CJ D t j) (hk : dK D j = g) (jn : j < dn D) (n3 : dn D ≤ 300) : ∃ t1 : BX9, f_X4_expect c t (iI g) = some (1, c, t1) ∧ CJ D t1 (j + 1) := by
  obtain ⟨t1, e1, e2⟩ := CT.adv ht n3
  rw [nx_in jn] at e2
  refine ⟨t1, ?_, e2⟩
  unfold f_X4_expect
  rw [if_pos (by rw [ht.2.2.2.1, hk]), e1, bind_s]
theorem z_expectN {D : PD} {c : BX4} {t : BX9} {j g : Int} (hz : SzB c) (ht : CJ D t j) (hk : dK D j ≠ g) (kb : -6 ≤ dK D j ∧ dK D j < 2147483648) (g1 : 0 ≤ g) (g2 : g ≤ 255) (hf : pX4_fault c = iI 0) : Wp (f_X4_expect c t (iI g)) (fun r => r.1 = 0 ∧ FA r.2.1 1 (dS D j)) := by
  unfold f_X4_expect
  rw [if_neg (by rw [ht.2.2.2.1]; exact iI_ne (by omega) (by omega) (by omega) (by omega) hk)]
  exact z_ref (f := 1) hz hf ht.2.2.2.2.1 (fun r r1 r2 => ⟨r1, r2⟩)
theorem one_bracket {D : PD} {X : BX4 → BX9 → Option (Int32 × BX4 × BX9)} {c : BX4} {t : BX9} {m : BX12} {j o : Int} {E : OpL} {Q : Int → Int} {hq : Int} {k : Nat} {nv nb : Int} (hX : o < 8 → SumS D X (o + 1)) (hS : PS D c t m j o E E) (ho : pX12_opens m = iI o) (hi : pX12_isWhole m = iI 0) (hp : NP m Q hq k) (hh : hq + (k : Int) ≤ 3 * o + 2) (hl : ds D + oLen E + (k : Int) ≤ j) (hnv : 0 ≤ nv ∧ 0 ≤ nb ∧ nv + nb ≤ 3 * o + 5) (hK : dK D j = 40) : Wp (fo_X4_bracketed X c t) (OneOut D c m j o E Q hq k nv nb) := by
  obtain ⟨h1, h2, h3, h4, h5, h6, h7, h8⟩ := hS
  obtain ⟨n1, n2, n3⟩ := h1.n
  have jn := n3 (by omega)
  have tk := h1.tk
  rw [hK] at tk
  have hbg := z_beginK tk (by omega) (by omega)
  rw [if_neg (by omega), if_neg (by omega), if_neg (by omega), if_neg (by omega), if_neg (by omega), if_pos rfl] at hbg
  have hbg : f_X12_beginOne m = f_X12_beginOne_b280 40 m := by
    rw [hbg]
    unfold f_X12_beginOne_b252
    rw [if_neg (by decide), if_pos (by decide)]
  unfold fo_X4_bracketed
  by_cases c8 : o < 8
  · obtain ⟨t1, et, ht1⟩ := z_enter h2 jn n2.2 h3.1 h3.2.1 c8
    rw [et, bind_s, if_neg (show ¬ ((1 : Int32), sX4_open c (iI (o + 1)), t1).1 = 0 from (by decide : ¬ (1 : Int32) = 0))]
    obtain ⟨p1, p2, p3, p4, p5⟩ := hp
    obtain ⟨⟨r0, m1⟩, e1, e2, g1, g2, g3, g4, g5, g6, g7⟩ := z_open (x := 40) h1 jn ho h3.2.1 c8 p2 (by omega)
    have e2 : r0 = 0 := e2
    rw [e2] at e1
    have hgo : Go m m1 1 := go_begin hi (hbg.trans e1)
    have hB : ∀ i : Int, 0 ≤ i → i < hq + (k : Int) + 1 → 0 ≤ up Q (hq + (k : Int)) 40 i ∧ up Q (hq + (k : Int)) 40 i ≤ 100 := by
      intro i i1 i2
      by_cases ci : i < hq
      · rw [up_n (by omega)]
        exact p5 i i1 ci
      · by_cases cj : i < hq + (k : Int)
        · rw [up_n (by omega), p3 i (by omega) cj]
          omega
        · rw [up_e (by omega)]
          omega
    have hX := hX c8 (sX4_open c (iI (o + 1))) t1 m1 (j + 1) E (up Q (hq + (k : Int)) 40) (hq + (k : Int) + 1) nv nb ⟨g1, ht1, ⟨rfl, by omega, by omega⟩, h4, h5.trans g7.letters.symm, h6.cg rfl rfl, h7.cg g7.text0 g6 g5, h8⟩ g3 (g4.trans hi) g2 hB (fun _ => by rw [up_e (by omega)]; omega) (by omega) (by omega) (by omega)
    refine wp_bind (wp_mono hX ?_)
    rintro r (⟨r1, m', j', ops, st, Q2, l, E', q1, q2, ⟨l1, l2, l3, l4⟩, q3, q4, q5, q6, q7, q8, q9, q10, q11⟩ | ⟨r1, r2⟩)
    · rw [if_neg (by rw [r1]; decide)]
      obtain ⟨b1, b2, b3, b4, b5, b6, b7⟩ := q3
      have hlen : oLen (E ++ ops) = oLen E + oLen ops := oLen_a E ops
      have jb := b1.n
      have top : Q2 (hq + (k : Int)) = 40 := by rw [l2 _ (by omega) (by omega), up_s]
      have hB2 : ∀ i : Int, 0 ≤ i → i < hq + (k : Int) + 1 → 0 ≤ Q2 i ∧ Q2 i ≤ 100 := fun i i1 i2 => by rw [l2 i i1 i2]; exact hB i i1 i2
      by_cases ck : dK D j' = 41
      · have jn' := jb.2.2 (by omega)
        obtain ⟨t2, et2, ht2⟩ := z_expect (c := r.2.1) (g := 41) q2 ck jn' n2.2
        rw [show (41 : Int32) = iI 41 from rfl, et2, bind_s, if_neg (show ¬ ((1 : Int32), r.2.1, t2).1 = 0 from (by decide : ¬ (1 : Int32) = 0))]
        refine wp_lt (wp_lt (wp_some ?_))
        obtain ⟨m2, go2, bh2⟩ := go_close (o := o + 1) (hq := hq) (k := k) (l := l) (E := E ++ ops) b1 jn' b4 b3 p1 b2 hB2 (fun i i1 i2 => by rw [l2 i (by omega) (by omega), up_n (by omega)]; exact p3 i i1 i2) (fun g => by rw [l2 _ (by omega) (by omega), up_n (by omega)]; exact p4 g) l3 (Or.inl top) b5 l4 (by omega) ck
        rw [top, show clO 40 = [] from rfl, List.append_nil] at bh2
        obtain ⟨d1, d2, d3, d4, d5, d6, d7⟩ := bh2
        refine Or.inl ⟨rfl, m2, j' + 1, ops, 1 + st + 1, by omega, ht2, ⟨d1, d2.below (fun i i1 i2 => by rw [l2 i i1 (by omega), up_n (by omega)]), ?_, d4, d5, (TBl.of g5).trans (b6.trans d6), g7.trans (b7.trans d7)⟩, q4.cg rfl rfl, ?_, q6, by omega, q8, by omega, (hgo.trans q10).trans go2⟩
        · rw [d3]
          congr 1
          omega
        · refine ⟨?_, q5.2.1, q5.2.2.1, q5.2.2.2.1, q5.2.2.2.2⟩
          have q5o : pX4_open r.2.1 = iI (o + 1) := q5.1
          show pX4_open r.2.1 - 1 = pX4_open c
          rw [q5o, h3.1, show (1 : Int32) = iI 1 from rfl, iI_sub]
          congr 1
          omega
      · obtain ⟨m2, s1, s2, s3, s4⟩ := stop_wrong (E := E ++ ops) b1 b4 (by omega) b2 hB2 l3 (by rw [show hq + (k : Int) + 1 - 1 = hq + (k : Int) by omega, top]; omega) b5 l4 (by omega) q11 (fun e => absurd e ck) (fun _ => Or.inl (by rw [show hq + (k : Int) + 1 - 1 = hq + (k : Int) by omega, top]))
        refine wp_bind (wp_mono (z_expectN (c := r.2.1) (g := 41) q4.sz q2 ck b1.tk.kb (by omega) (by omega) (q5.2.2.2.1.trans h4)) ?_)
        rintro u ⟨u1, u2⟩
        rw [if_pos u1]
        exact wp_some (Or.inr ⟨rfl, 1, m2, j', 1 + st + 1, by omega, by omega, u2, s2, g7.trans (b7.trans s3), (TBl.of g5).trans (b6.trans s4), by omega, (hgo.trans q10).stop s1⟩)
    · rw [if_pos r1]
      exact wp_some (Or.inr ⟨rfl, Flt.go (r := (0, r.2.1, r.2.2)) r2 hgo (by omega) (by omega) g7 (TBl.of g5)⟩)
  · have o8 : o = 8 := by omega
    rw [o8] at h3 ho
    refine wp_bind (wp_mono (z_enter8 h6.sz h3.1 h4 h2.2.2.2.2.1) ?_)
    rintro r ⟨r1, r2⟩
    rw [if_pos r1]
    have hb : f_X12_beginOne m = some (iI 3, m) := by
      rw [hbg]
      unfold f_X12_beginOne_b280
      rw [ho, if_pos (show iI 8 = 8 from rfl)]
      rfl
    exact wp_some (Or.inr ⟨rfl, flt_here (f := 3) (by omega) (by omega) h1 hi hb r2⟩)
