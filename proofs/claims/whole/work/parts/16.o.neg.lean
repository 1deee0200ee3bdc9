-- layer 2: one, opening and negating
theorem z_open {D : PD} {m : BX12} {j o x h : Int} {Q : Int → Int} (hj : MJ D m j) (jn : j < dn D) (ho : pX12_opens m = iI o) (o1 : 0 ≤ o) (o2 : o < 8) (hp : PI m Q h) (hh : h < 100) : Wp (f_X12_beginOne_b280 (iI x) m) (fun r => r.1 = 0 ∧ MJ D r.2 (j + 1) ∧ PI r.2 (up Q h x) (h + 1) ∧ pX12_opens r.2 = iI (o + 1) ∧ pX12_isWhole r.2 = pX12_isWhole m ∧ pX12_texts r.2 = pX12_texts m ∧ pX12_written r.2 = pX12_written m ∧ FrQ m r.2) := by
  unfold f_X12_beginOne_b280
  rw [ho, if_neg (show ¬ iI o = 8 from iI_ne (b := 8) (by omega) (by omega) (by omega) (by omega) (by omega)), show (iI o + 1 : Int32) = iI (o + 1) from iI_add o 1]
  refine wp_lt (wp_lt ?_)
  have f1 : FrJ m (sX12_opens m (iI (o + 1))) := FrJ.s_opens (FrJ.refl m) _
  refine wp_bind (wp_mono (z_pushM (m := sX12_opens m (iI (o + 1))) (Q := Q) (h := h) (x := x) (hp.cg rfl rfl) hh) ?_)
  rintro r ⟨r1, r2, r3, r4, r5, r6⟩
  refine wp_bind (wp_mono (MJ.next ((hj.cg f1).cg r1)) ?_)
  rintro q ⟨q1, q2⟩
  rw [nx_in jn] at q2
  exact wp_some ⟨rfl, q2, r2.cg q1.piled q1.pile, q1.opens.trans r3, q1.isWhole.trans r4, q1.texts.trans r5, q1.written.trans r6, f1.q.trans (r1.q.trans q1.q)⟩
theorem z_enter {D : PD} {c : BX4} {t : BX9} {j o : Int} (ht : CJ D t j) (jn : j < dn D) (n3 : dn D ≤ 300) (ho : pX4_open c = iI o) (o1 : 0 ≤ o) (o2 : o < 8) : ∃ t1 : BX9, f_X4_enter c t = some (1, sX4_open c (iI (o + 1)), t1) ∧ CJ D t1 (j + 1) := by
  obtain ⟨t1, e1, e2⟩ := CT.adv ht n3
  rw [nx_in jn] at e2
  refine ⟨t1, ?_, e2⟩
  unfold f_X4_enter
  rw [ho, if_pos (show iI o < 8 from (iI_lt (b := 8) (by omega) (by omega) (by omega) (by omega)).mpr o2), show (iI o + 1 : Int32) = iI (o + 1) from iI_add o 1, lt_e, lt_e, e1, bind_s]
theorem z_enter8 {c : BX4} {t : BX9} {pl : Int} (hz : SzB c) (ho : pX4_open c = iI 8) (hf : pX4_fault c = iI 0) (hs : pX9_start t = iI pl) : Wp (f_X4_enter c t) (fun r => r.1 = 0 ∧ FA r.2.1 3 pl) := by
  unfold f_X4_enter
  rw [ho, if_neg (show ¬ iI 8 < 8 by decide)]
  exact z_ref (f := 3) hz hf hs (fun r r1 r2 => ⟨r1, r2⟩)
theorem up_above {Q : Int → Int} {h x i : Int} (hi : i < h) : up Q h x i = Q i := up_n (by omega)
theorem PI.below {m : BX12} {Q Q' : Int → Int} {h : Int} (hp : PI m Q' h) (he : ∀ i : Int, 0 ≤ i → i < h → Q' i = Q i) : PI m Q h := ⟨hp.1, hp.2.1, fun i i1 i2 => by rw [← he i i1 i2]; exact hp.2.2 i i1 i2⟩
theorem Sh_a {K : Int → Bool} : ∀ (l r : OpL) (nv nb a b x y : Int), Sh K l nv nb a b → Sh K r a b x y → Sh K (l ++ r) nv nb x y
  | [], r, nv, nb, a, b, x, y, h, g => by
    obtain ⟨e1, e2⟩ := h
    rw [e1, e2] at g
    exact g
  | (o, v) :: l, r, nv, nb, a, b, x, y, h, g => by
    obtain ⟨p, q, h1, h2⟩ := h
    exact ⟨p, q, h1, Sh_a l r p q a b x y h2 g⟩
theorem negs_s (k : Nat) : negs (k + 1) = [(2, 0)] ++ negs k := rfl
theorem Flt.go {D : PD} {m m1 : BX12} {j j1 : Int} {s : Nat} {r : Int32 × BX4 × BX9} (h : Flt D m1 j1 r) (hg : Go m m1 s) (hs : (s : Int) ≤ j1 - j) (hj : j ≤ j1) (hf : FrQ m m1) (ht : TBl m m1 (db D) (dw D)) : Flt D m j r := by
  obtain ⟨f, m', j', st, h1, h2, h3, h4, h5, h6, h7, h8⟩ := h
  exact ⟨f, m', j', s + st, h1, by omega, h3, h4, hf.trans h5, ht.trans h6, by omega, hg.stop h8⟩
theorem one_neg {D : PD} {X : BX4 → BX9 → Option (Int32 × BX4 × BX9)} {c : BX4} {t : BX9} {m : BX12} {j o : Int} {E : OpL} {Q : Int → Int} {hq : Int} {k : Nat} {nv nb : Int} (hX : o < 8 → OneS D X (o + 1)) (hS : PS D c t m j o E E) (ho : pX12_opens m = iI o) (hi : pX12_isWhole m = iI 0) (hp : NP m Q hq k) (hh : hq + (k : Int) ≤ 3 * o + 2) (hl : ds D + oLen E + (k : Int) ≤ j) (hnv : 0 ≤ nv ∧ 0 ≤ nb ∧ nv + nb ≤ 3 * o + 5) (hK : dK D j = 45) : Wp (fo_X4_negated X c t) (OneOut D c m j o E Q hq k nv nb) := by
  obtain ⟨h1, h2, h3, h4, h5, h6, h7, h8⟩ := hS
  obtain ⟨n1, n2, n3⟩ := h1.n
  have jn := n3 (by omega)
  have tk := h1.tk
  rw [hK] at tk
  have hbg := z_beginK tk (by omega) (by omega)
  rw [if_neg (by omega), if_neg (by omega), if_neg (by omega), if_neg (by omega), if_neg (by omega), if_neg (by omega), if_pos rfl] at hbg
  have hbg : f_X12_beginOne m = f_X12_beginOne_b280 2 m := by
    rw [hbg]
    unfold f_X12_beginOne_b252
    rw [if_neg (by decide), if_pos (by decide)]
  unfold fo_X4_negated
  by_cases c8 : o < 8
  · obtain ⟨t1, et, ht1⟩ := z_enter h2 jn n2.2 h3.1 h3.2.1 c8
    rw [et, bind_s, if_neg (show ¬ ((1 : Int32), sX4_open c (iI (o + 1)), t1).1 = 0 from (by decide : ¬ (1 : Int32) = 0))]
    obtain ⟨p1, p2, p3, p4, p5⟩ := hp
    obtain ⟨⟨r0, m1⟩, e1, e2, g1, g2, g3, g4, g5, g6, g7⟩ := z_open (x := 2) h1 jn ho h3.2.1 c8 p2 (by omega)
    have e2 : r0 = 0 := e2
    rw [e2] at e1
    have hgo : Go m m1 1 := go_begin hi (hbg.trans e1)
    have hX := hX c8 (sX4_open c (iI (o + 1))) t1 m1 (j + 1) E (up Q (hq + (k : Int)) 2) hq (k + 1) nv nb ⟨g1, ht1, ⟨rfl, by omega, by omega⟩, h4, h5.trans g7.letters.symm, h6.cg rfl rfl, h7.cg g7.text0 g6 g5, h8⟩ g3 (g4.trans hi) ⟨p1, by rw [show hq + ((k + 1 : Nat) : Int) = hq + (k : Int) + 1 by omega]; exact g2, fun i i1 i2 => ?_, fun h => by rw [up_n (by omega)]; exact p4 h, fun i i1 i2 => by rw [up_n (by omega)]; exact p5 i i1 i2⟩ (by omega) (by omega) (by omega)
    · refine wp_bind (wp_mono hX ?_)
      rintro r (⟨r1, m', j', ops, st, q1, q2, q3, q4, q5, q6, q7, q8, q9, q10⟩ | ⟨r1, r2⟩)
      · rw [if_neg (by rw [r1]; decide)]
        refine wp_lt (wp_lt ?_)
        have jb := q3.1.n
        have q5o : pX4_open r.2.1 = iI (o + 1) := q5.1
        rw [q5o, show (iI (o + 1) - 1 : Int32) = iI o by rw [show (1 : Int32) = iI 1 from rfl, iI_sub]; congr 1; omega]
        refine wp_bind (wp_mono (z_emitC (c := sX4_open r.2.1 (iI o)) (o := 2) (v := 0) (q4.cg rfl rfl) (by rw [oLen_a]; omega) (o' := 5) rfl) ?_)
        rintro u ⟨u1, u2, u3⟩
        refine wp_some (Or.inl ⟨rfl, m', j', ops ++ [(2, 0)], 1 + st, by omega, q2, ?_, ?_, ?_, ?_, ?_, ?_, by omega, hgo.trans q10⟩)
        · obtain ⟨b1, b2, b3, b4, b5, b6, b7⟩ := q3
          refine ⟨b1, b2.below (fun i i1 i2 => up_n (by omega)), ?_, b4, ?_, (TBl.of g5).trans b6, g7.trans b7⟩
          · rw [b3]
            congr 1
            omega
          · rw [show E ++ (ops ++ [(2, 0)]) ++ negs k = E ++ ops ++ negs (k + 1) by rw [negs_s, List.append_assoc, List.append_assoc, List.append_assoc]]
            exact b5
        · rw [← List.append_assoc]
          exact u2
        · exact ⟨u1.1.trans h3.1.symm, u1.2.1.trans q5.2.1, u1.2.2.1.trans q5.2.2.1, u1.2.2.2.1.trans q5.2.2.2.1, u1.2.2.2.2.trans q5.2.2.2.2⟩
        · exact CBl.trans q6 u3
        · rw [oLen_a, oLen_1]
          omega
        · exact Sh_a ops [(2, 0)] nv nb (nv + 1) nb (nv + 1) nb q8 ⟨nv + 1, nb, Or.inr (Or.inl ⟨rfl, rfl, by omega, rfl, rfl⟩), rfl, rfl⟩
      · rw [if_pos r1]
        exact wp_some (Or.inr ⟨rfl, Flt.go (r := (0, r.2.1, r.2.2)) r2 hgo (by omega) (by omega) g7 (TBl.of g5)⟩)
    · by_cases ci : i < hq + (k : Int)
      · rw [up_n (by omega)]
        exact p3 i i1 ci
      · exact up_e (by omega)
  · have o8 : o = 8 := by omega
    rw [o8] at h3 ho
    refine wp_bind (wp_mono (z_enter8 h6.sz h3.1 h4 h2.2.2.2.2.1) ?_)
    rintro r ⟨r1, r2⟩
    rw [if_pos r1]
    have hb : f_X12_beginOne m = some (iI 3, m) := by
      rw [hbg]
      unfold f_X12_beginOne_b280
      rw [ho, if_pos (show iI 8 = 8 from rfl)]
      rfl
    exact wp_some (Or.inr ⟨rfl, flt_here (f := 3) (by omega) (by omega) h1 hi hb r2⟩)
