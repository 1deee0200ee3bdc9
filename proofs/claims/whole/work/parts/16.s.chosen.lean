-- layer 2: one, chosen
theorem go_comma {D : PD} {m : BX12} {j : Int} {Q2 : Int → Int} {h : Int} {l : Nat} {E' E : OpL} (hj : MJ D m j) (jn : j < dn D) (hi : pX12_isWhole m = iI 1) (h1 : 1 ≤ h) (hp : PI m Q2 (h + (l : Int))) (hB : ∀ i : Int, 0 ≤ i → i < h → 0 ≤ Q2 i ∧ Q2 i ≤ 100) (hN : ∀ i : Int, h ≤ i → i < h + (l : Int) → 3 ≤ Q2 i ∧ Q2 i < 7) (hx : Q2 (h - 1) = 41 ∨ Q2 (h - 1) = 42) (hw : WR m (db D) (dw D) E') (hE : E' ++ popL Q2 h l = E) (hl : dw D + oLen E ≤ 300) (hK : dK D j = 44) : ∃ m', Go m m' 1 ∧ MJ D m' (j + 1) ∧ PI m' (up Q2 (h - 1) (Q2 (h - 1) + 2)) h ∧ pX12_opens m' = pX12_opens m ∧ pX12_isWhole m' = iI 0 ∧ WR m' (db D) (dw D) E ∧ TBl m m' (db D) (dw D) ∧ FrQ m m' := by
  obtain ⟨r, e, r1, r2, r3, r4, r5, r6⟩ := z_settled (D := D) (by omega) hp hN (fun _ => by omega) hw hE hl
  have hg := go_paren hj h1 hp hB hN (by omega) (Or.inr hK)
  have hb := behind_pre hj e r2 h1 (Or.inr hK)
  have hr2 := r2.2.1
  rw [if_pos (show pX12_token m = 44 from (hj.tk.sign (g := 44) (by decide)).mpr hK)] at hb
  have hb : f_X12_behindOne m = f_X12_behindOne_b123 r := by
    rcases hx with c | c
    · rw [hb, c, if_pos (show iI 41 = 41 from rfl)]
    · rw [hb, c, if_neg (show ¬ iI 42 = 41 by decide), if_pos (show iI 42 = 42 from rfl)]
  have hin : inB (iI (h - 1)) 160 := (iI_inB (by omega) (by omega)).mpr (by omega)
  have key : Wp (f_X12_behindOne_b123 r) (fun q => q.1 = 0 ∧ MJ D q.2 (j + 1) ∧ PI q.2 (up Q2 (h - 1) (Q2 (h - 1) + 2)) h ∧ pX12_opens q.2 = pX12_opens m ∧ pX12_isWhole q.2 = iI 0 ∧ WR q.2 (db D) (dw D) E ∧ TBl m q.2 (db D) (dw D) ∧ FrQ m q.2) := by
    unfold f_X12_behindOne_b123 f_X12_behindOne_b208
    rw [r2.1, show (iI h - 1 : Int32) = iI (h - 1) from iI_sub h 1]
    refine wp_gd hin (wp_lt (wp_gd hin (wp_lt (wp_lt ?_))))
    rw [iI_cl (by omega) (by omega), r2.2.2 (h - 1) (by omega) (by omega), show (iI (Q2 (h - 1)) + 2 : Int32) = iI (Q2 (h - 1) + 2) from iI_add _ 2]
    have f2 : FrJ m (sX12_isWhole (sX12_pile r (upd (pX12_pile r) (h - 1).toNat (iI (Q2 (h - 1) + 2)))) 0) := r1.trans (FrJ.s_isWhole (FrJ.s_pile (FrJ.refl r) _) _)
    have w2 : WR (sX12_isWhole (sX12_pile r (upd (pX12_pile r) (h - 1).toNat (iI (Q2 (h - 1) + 2)))) 0) (db D) (dw D) E := r5.cg rfl rfl rfl
    have p2 : PI (sX12_isWhole (sX12_pile r (upd (pX12_pile r) (h - 1).toNat (iI (Q2 (h - 1) + 2)))) 0) (up Q2 (h - 1) (Q2 (h - 1) + 2)) h := ⟨r2.1, hr2, ai_set r2.2.2 (by omega)⟩
    have o2 : pX12_opens (sX12_isWhole (sX12_pile r (upd (pX12_pile r) (h - 1).toNat (iI (Q2 (h - 1) + 2)))) 0) = pX12_opens m := r3
    have i2 : pX12_isWhole (sX12_isWhole (sX12_pile r (upd (pX12_pile r) (h - 1).toNat (iI (Q2 (h - 1) + 2)))) 0) = iI 0 := rfl
    have t2 : TBl m (sX12_isWhole (sX12_pile r (upd (pX12_pile r) (h - 1).toNat (iI (Q2 (h - 1) + 2)))) 0) (db D) (dw D) := r6.trans (TBl.of rfl)
    generalize sX12_isWhole (sX12_pile r (upd (pX12_pile r) (h - 1).toNat (iI (Q2 (h - 1) + 2)))) 0 = m2 at f2 w2 p2 o2 i2 t2
    refine wp_bind (wp_mono (MJ.next (hj.cg f2)) ?_)
    rintro q ⟨q1, q2⟩
    rw [nx_in jn] at q2
    exact wp_some ⟨rfl, q2, p2.cg q1.piled q1.pile, q1.opens.trans o2, q1.isWhole.trans i2, w2.cg q1.text0 q1.written q1.texts, t2.trans (TBl.of q1.texts), f2.q.trans q1.q⟩
  obtain ⟨⟨r0, m'⟩, k1, k2, k3⟩ := key
  have k2 : r0 = 0 := k2
  rw [k2] at k1
  exact ⟨m', go_behind hi hg (hb.trans k1), k3⟩
theorem one_chosen {D : PD} {X : BX4 → BX9 → Option (Int32 × BX4 × BX9)} {c : BX4} {t : BX9} {m : BX12} {j o y x' : Int} {E : OpL} {Q : Int → Int} {hq : Int} {k : Nat} {nv nb : Int} (hX : o < 8 → SumS D X (o + 1)) (hS : PS D c t m j o E E) (ho : pX12_opens m = iI o) (hi : pX12_isWhole m = iI 0) (hp : NP m Q hq k) (hh : hq + (k : Int) ≤ 3 * o + 2) (hl : ds D + oLen E + (k : Int) ≤ j) (hnv : 0 ≤ nv ∧ 0 ≤ nb ∧ nv + nb ≤ 3 * o + 5) (hy : (y = 41 ∧ x' = 11) ∨ (y = 42 ∧ x' = 12)) (jn : j < dn D) (hbg : f_X12_beginOne m = f_X12_beginOne_b252 (iI y) m) : Wp ((f_X9_advance t).bind (fun r_15 => (fo_X4_chosen X c r_15 (iI x')).bind (fun r_16 => g_gd (r_16.1 = 0 ∨ r_16.1 = 1) (some (r_16.1, r_16.2.1, r_16.2.2))))) (OneOut D c m j o E Q hq k nv nb) := by
  obtain ⟨h1, h2, h3, h4, h5, h6, h7, h8⟩ := hS
  obtain ⟨n1, n2, n3⟩ := h1.n
  refine wp_bind (wp_mono (CT.adv h2 n2.2) ?_)
  intro t1 ht1
  rw [nx_in jn] at ht1
  obtain ⟨m1, em1, f1, hm1⟩ := h1.next
  rw [nx_in jn] at hm1
  unfold f_X12_beginOne_b252 at hbg
  rw [if_neg (show ¬ iI y = 0 from iI_ne (b := 0) (by omega) (by omega) (by omega) (by omega) (by omega)), if_neg (show ¬ iI y ≤ 40 from fun e => absurd ((iI_le (b := 40) (by omega) (by omega) (by omega) (by omega)).mp e) (by omega)), em1, bind_s] at hbg
  have tk := hm1.tk
  have hst := ht1.2.2.2.2.1
  have flt : ∀ f : Int, 1 ≤ f → f ≤ 6 → f_X12_beginOne m = some (iI f, m1) → ∀ r : Int32 × BX4 × BX9, r.1 = 0 → FA r.2.1 f (dS D (j + 1)) → OneOut D c m j o E Q hq k nv nb r := fun f f1' f2' hb r r1 r2 => Or.inr ⟨r1, f, m1, j + 1, 1, ⟨f1', f2'⟩, by omega, r2, hm1.place, f1.q, TBl.of f1.texts, by omega, stop_begin f1' f2' hi hb⟩
  refine one_wrap (wp_mono ?_ (fun r => OneOut.r01))
  unfold fo_X4_chosen
  rw [ht1.2.2.2.1]
  by_cases cp : dK D (j + 1) = 40
  · rw [if_pos (show pX12_token m1 = 40 from (tk.sign (g := 40) (by decide)).mpr cp)] at hbg
    rw [cp, if_pos (show iI 40 = 40 from rfl)]
    have jn1 := hm1.n.2.2 (by omega)
    by_cases c8 : o < 8
    · obtain ⟨t2, et, ht2⟩ := z_enter ht1 jn1 n2.2 h3.1 h3.2.1 c8
      rw [et, bind_s, if_neg (show ¬ ((1 : Int32), sX4_open c (iI (o + 1)), t2).1 = 0 from (by decide : ¬ (1 : Int32) = 0))]
      obtain ⟨p1, p2, p3, p4, p5⟩ := hp
      obtain ⟨⟨r0, m2⟩, e1, e2, g1, g2, g3, g4, g5, g6, g7⟩ := z_open (x := y) hm1 jn1 (f1.opens.trans ho) h3.2.1 c8 (p2.cg f1.piled f1.pile) (by omega)
      have e2 : r0 = 0 := e2
      rw [e2] at e1
      have hgo : Go m m2 1 := go_begin hi (hbg.trans e1)
      have fq : FrQ m m2 := f1.q.trans g7
      have tb : TBl m m2 (db D) (dw D) := (TBl.of f1.texts).trans (TBl.of g5)
      have hB : ∀ i : Int, 0 ≤ i → i < hq + (k : Int) + 1 → 0 ≤ up Q (hq + (k : Int)) y i ∧ up Q (hq + (k : Int)) y i ≤ 100 := by
        intro i i1 i2
        by_cases ci : i < hq
        · rw [up_n (by omega)]
          exact p5 i i1 ci
        · by_cases cj : i < hq + (k : Int)
          · rw [up_n (by omega), p3 i (by omega) cj]
            omega
          · rw [up_e (by omega)]
            omega
      have eh : hq + (k : Int) + 1 - 1 = hq + (k : Int) := by omega
      refine wp_bind (wp_mono (hX c8 (sX4_open c (iI (o + 1))) t2 m2 (j + 1 + 1) E (up Q (hq + (k : Int)) y) (hq + (k : Int) + 1) nv nb ⟨g1, ht2, ⟨rfl, by omega, by omega⟩, h4, h5.trans fq.letters.symm, h6.cg rfl rfl, (h7.cg f1.text0 f1.written f1.texts).cg g7.text0 g6 g5, h8⟩ g3 (g4.trans (f1.isWhole.trans hi)) g2 hB (fun _ => by rw [up_e (by omega)]; omega) (by omega) (by omega) (by omega)) ?_)
      rintro r (⟨r1, m3, j1, ops, st, Q2, l, E', q1, q2, ⟨l1, l2, l3, l4⟩, q3, q4, q5, q6, q7, q8, q9, q10, q11⟩ | ⟨r1, r2⟩)
      · rw [if_neg (by rw [r1]; decide)]
        obtain ⟨b1, b2, b3, b4, b5, b6, b7⟩ := q3
        have hlen : oLen (E ++ ops) = oLen E + oLen ops := oLen_a E ops
        have jb := b1.n
        have top : Q2 (hq + (k : Int)) = y := by rw [l2 _ (by omega) (by omega), up_s]
        have hB2 : ∀ i : Int, 0 ≤ i → i < hq + (k : Int) + 1 → 0 ≤ Q2 i ∧ Q2 i ≤ 100 := fun i i1 i2 => by rw [l2 i i1 i2]; exact hB i i1 i2
        by_cases ck : dK D j1 = 44
        · have jn' := jb.2.2 (by omega)
          obtain ⟨t3, et3, ht3⟩ := z_expect (c := r.2.1) (g := 44) q2 ck jn' n2.2
          rw [show (44 : Int32) = iI 44 from rfl, et3, bind_s, if_neg (show ¬ ((1 : Int32), r.2.1, t3).1 = 0 from (by decide : ¬ (1 : Int32) = 0))]
          obtain ⟨m4, go4, a1, a2, a3, a4, a5, a6, a7⟩ := go_comma (E := E ++ ops) b1 jn' b4 (by omega) b2 hB2 l3 (by rw [eh, top]; omega) b5 l4 (by omega) ck
          rw [eh, top] at a2
          have q5o : pX4_open r.2.1 = iI (o + 1) := q5.1
          have q5t : pX4_told r.2.1 = pX4_told c := q5.2.1
          have q5f : pX4_fault r.2.1 = iI 0 := q5.2.2.2.1.trans h4
          have hB3 : ∀ i : Int, 0 ≤ i → i < hq + (k : Int) + 1 → 0 ≤ up Q2 (hq + (k : Int)) (y + 2) i ∧ up Q2 (hq + (k : Int)) (y + 2) i ≤ 100 := by
            intro i i1 i2
            by_cases ci : i = hq + (k : Int)
            · rw [up_e ci]
              omega
            · rw [up_n ci]
              exact hB2 i i1 i2
          refine wp_bind (wp_mono (hX c8 r.2.1 t3 m4 (j1 + 1) (E ++ ops) (up Q2 (hq + (k : Int)) (y + 2)) (hq + (k : Int) + 1) (nv + 1) nb ⟨a1, ht3, ⟨q5o, by omega, by omega⟩, q5f, by rw [q5t, h5, a7.letters, b7.letters, fq.letters], q4, a5, h8⟩ (a3.trans b3) a4 a2 hB3 (fun _ => by rw [up_e (by omega)]; omega) (by omega) (by omega) (by omega)) ?_)
          rintro v (⟨v1, m5, j2, ops2, st2, Q4, l', E2, y1, y2, ⟨z1, z2, z3, z4⟩, y3, y4, y5, y6, y7, y8, y9, y10, y11⟩ | ⟨v1, v2⟩)
          · rw [if_neg (by rw [v1]; decide)]
            obtain ⟨d1, d2, d3, d4, d5, d6, d7⟩ := y3
            have hlen2 : oLen (E ++ ops ++ ops2) = oLen E + oLen ops + oLen ops2 := by rw [oLen_a, hlen]
            have jb2 := d1.n
            have top2 : Q4 (hq + (k : Int)) = y + 2 := by rw [z2 _ (by omega) (by omega), up_s]
            have hB4 : ∀ i : Int, 0 ≤ i → i < hq + (k : Int) + 1 → 0 ≤ Q4 i ∧ Q4 i ≤ 100 := fun i i1 i2 => by rw [z2 i i1 i2]; exact hB3 i i1 i2
            have low : ∀ i : Int, 0 ≤ i → i < hq + (k : Int) → Q4 i = Q i := fun i i1 i2 => by rw [z2 i i1 (by omega), up_n (by omega), l2 i i1 (by omega), up_n (by omega)]
            have fq5 : FrQ m m5 := fq.trans (b7.trans (a7.trans d7))
            have tb5 : TBl m m5 (db D) (dw D) := tb.trans (b6.trans (a6.trans d6))
            by_cases ck2 : dK D j2 = 41
            · have jn2 := jb2.2.2 (by omega)
              obtain ⟨t4, et4, ht4⟩ := z_expect (c := v.2.1) (g := 41) y2 ck2 jn2 n2.2
              rw [show (41 : Int32) = iI 41 from rfl, et4, bind_s, if_neg (show ¬ ((1 : Int32), v.2.1, t4).1 = 0 from (by decide : ¬ (1 : Int32) = 0))]
              refine wp_lt (wp_lt ?_)
              have y5o : pX4_open v.2.1 = iI (o + 1) := y5.1.trans q5o
              rw [y5o, show (iI (o + 1) - 1 : Int32) = iI o by rw [show (1 : Int32) = iI 1 from rfl, iI_sub]; congr 1; omega]
              refine wp_bind (wp_mono (z_emitC (c := sX4_open v.2.1 (iI o)) (o := y - 34) (v := 0) (y4.cg rfl rfl) (by omega) (o' := x') (by rcases hy with ⟨rfl, rfl⟩ | ⟨rfl, rfl⟩ <;> rfl)) ?_)
              rintro u ⟨u1, u2, u3⟩
              obtain ⟨m6, go6, bh⟩ := go_close (o := o + 1) (hq := hq) (k := k) (l := l') (E := E ++ ops ++ ops2) d1 jn2 d4 d3 p1 d2 hB4 (fun i i1 i2 => by rw [low i (by omega) i2]; exact p3 i i1 i2) (fun g => by rw [low _ (by omega) (by omega)]; exact p4 g) z3 (by rw [top2]; omega) d5 z4 (by omega) ck2
              rw [top2, show clO (y + 2) = [(y - 34, 0)] by rcases hy with ⟨rfl, _⟩ | ⟨rfl, _⟩ <;> rfl] at bh
              obtain ⟨x1, x2, x3, x4, x5, x6, x7⟩ := bh
              refine wp_some (Or.inl ⟨rfl, m6, j2 + 1, ops ++ ops2 ++ [(y - 34, 0)], 1 + st + 1 + st2 + 1, by omega, ht4, ⟨x1, x2.below (fun i i1 i2 => low i i1 (by omega)), ?_, x4, ?_, tb5.trans x6, fq5.trans x7⟩, ?_, ?_, ?_, ?_, ?_, by omega, (((hgo.trans q10).trans go4).trans y10).trans go6⟩)
              · rw [x3]
                congr 1
                omega
              · rw [show E ++ (ops ++ ops2 ++ [(y - 34, 0)]) = E ++ ops ++ ops2 ++ [(y - 34, 0)] by simp only [List.append_assoc]]
                exact x5
              · rw [show E ++ (ops ++ ops2 ++ [(y - 34, 0)]) = E ++ ops ++ ops2 ++ [(y - 34, 0)] by simp only [List.append_assoc]]
                exact u2
              · exact ⟨u1.1.trans h3.1.symm, u1.2.1.trans (y5.2.1.trans q5.2.1), u1.2.2.1.trans (y5.2.2.1.trans q5.2.2.1), u1.2.2.2.1.trans (y5.2.2.2.1.trans q5.2.2.2.1), u1.2.2.2.2.trans (y5.2.2.2.2.trans q5.2.2.2.2)⟩
              · exact CBl.trans q6 (CBl.trans y6 u3)
              · rw [oLen_a, oLen_a, oLen_1]
                omega
              · rw [q5t] at y8
                exact Sh_a _ _ nv nb (nv + 1 + 1) nb (nv + 1) nb (Sh_a ops ops2 nv nb (nv + 1) nb (nv + 1 + 1) nb q8 y8) ⟨nv + 1, nb, Or.inr (Or.inr (Or.inl ⟨by omega, rfl, by omega, by omega, rfl⟩)), rfl, rfl⟩
            · obtain ⟨m6, s1, s2, s3, s4⟩ := stop_wrong (E := E ++ ops ++ ops2) d1 d4 (by omega) d2 hB4 z3 (by rw [eh, top2]; omega) d5 z4 (by omega) y11 (fun e => absurd e ck2) (fun e => by rw [eh, top2]; omega)
              refine wp_bind (wp_mono (z_expectN (c := v.2.1) (g := 41) y4.sz y2 ck2 d1.tk.kb (by omega) (by omega) (y5.2.2.2.1.trans q5f)) ?_)
              rintro u ⟨u1, u2⟩
              rw [if_pos u1]
              exact wp_some (Or.inr ⟨rfl, 1, m6, j2, 1 + st + 1 + st2 + 1, by omega, by omega, u2, s2, fq5.trans s3, tb5.trans s4, by omega, (((hgo.trans q10).trans go4).trans y10).stop s1⟩)
          · rw [if_pos v1]
            exact wp_some (Or.inr ⟨rfl, Flt.go (r := (0, v.2.1, v.2.2)) v2 ((hgo.trans q10).trans go4) (by omega) (by omega) (fq.trans (b7.trans a7)) (tb.trans (b6.trans a6))⟩)
        · obtain ⟨m4, s1, s2, s3, s4⟩ := stop_wrong (E := E ++ ops) b1 b4 (by omega) b2 hB2 l3 (by rw [eh, top]; omega) b5 l4 (by omega) q11 (fun e => by rw [eh, top]; omega) (fun e => absurd e ck)
          refine wp_bind (wp_mono (z_expectN (c := r.2.1) (g := 44) q4.sz q2 ck b1.tk.kb (by omega) (by omega) (q5.2.2.2.1.trans h4)) ?_)
          rintro u ⟨u1, u2⟩
          rw [if_pos u1]
          exact wp_some (Or.inr ⟨rfl, 1, m4, j1, 1 + st + 1, by omega, by omega, u2, s2, fq.trans (b7.trans s3), tb.trans (b6.trans s4), by omega, (hgo.trans q10).stop s1⟩)
      · rw [if_pos r1]
        exact wp_some (Or.inr ⟨rfl, Flt.go (r := (0, r.2.1, r.2.2)) r2 hgo (by omega) (by omega) fq tb⟩)
    · have o8 : o = 8 := by omega
      rw [o8] at h3 ho
      refine wp_bind (wp_mono (z_enter8 h6.sz h3.1 h4 hst) ?_)
      rintro r ⟨r1, r2⟩
      rw [if_pos r1]
      have hb : f_X12_beginOne m = some (iI 3, m1) := by
        rw [hbg]
        unfold f_X12_beginOne_b280
        rw [f1.opens, ho, if_pos (show iI 8 = 8 from rfl)]
        rfl
      exact wp_some (flt 3 (by omega) (by omega) hb _ rfl r2)
  · have kb := tk.kb
    rw [if_neg (show ¬ pX12_token m1 = 40 from fun e => cp ((tk.sign (g := 40) (by decide)).mp e))] at hbg
    rw [if_neg (show ¬ iI (dK D (j + 1)) = 40 from iI_ne (b := 40) (by omega) (by omega) (by omega) (by omega) cp)]
    exact z_ref (f := 1) h6.sz h4 hst (flt 1 (by omega) (by omega) hbg)
