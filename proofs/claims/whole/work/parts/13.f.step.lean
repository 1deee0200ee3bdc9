-- layer 2: an operation, a row of them
theorem trO_v {o : Int} (h : o = 0 ∨ o = 1 ∨ o = 30 ∨ o = 31 ∨ o = 32) : 0 ≤ trO o ∧ trO o ≤ 4 := by
  rcases h with e | e | e | e | e <;> subst e <;> decide
theorem trO_2 {o : Int} (h1 : 3 ≤ o) (h2 : o ≤ 8) : trO o = o + 4 := by
  unfold trO
  rw [if_neg (by omega), if_neg (by omega), if_neg (by omega), if_neg (by omega), if_neg (by omega), if_neg (by omega), if_neg (by omega), if_pos h2]
theorem trO_3 {o : Int} (h1 : 10 ≤ o) (h2 : o ≤ 15) : trO o = o + 3 := by
  unfold trO
  rw [if_neg (by omega), if_neg (by omega), if_neg (by omega), if_neg (by omega), if_neg (by omega), if_neg (by omega), if_neg (by omega), if_neg (by omega), if_pos h2]
theorem z_step {n : Nat} {code : Nat → Int32} {fl : BX2} {ey : BX1} {c : BX6} {m : BX12} {A : Int → Int} {tk : Int → Int → Int} {t : Int} {K : Int → Bool} {Lt : Int → Int} {B ov nv nb a b o v j i d to : Int} {V T : Int → Int} (hE : EV fl ey m A tk t) (hK : LK K Lt c m) (hX : XR B ov nv nb V T c m) (hB : 7 ≤ B) (hB2 : B ≤ 1000000) (n1 : 0 ≤ nv) (b1 : 0 ≤ nb) (nb60 : nv + nb ≤ 60) (hs : ShO K o v nv nb a b) (hn : (n : Int) ≤ 400) (j1 : 0 ≤ j) (j2 : j < n) (hc : code j.toNat = iI (v * 32 + trO o)) (d1 : 0 ≤ d) (d2 : d + 2 * i + 1 < 6400) (i1 : 0 ≤ i) (i2 : i < to) (to2 : to < 100000) (h1 : pX12_texts m (d + 2 * i).toNat = iI o) (h2 : pX12_texts m (d + 2 * i + 1).toNat = iI v) :
    ∃ (c' : BX6) (m' : BX12) (V' T' : Int → Int), (∀ J, f_X6_run_b27B n code fl ey J (iI j) c = J (iI (j + 1), c')) ∧ (∀ J, f_X12_work_b9B J (iI d) (iI to) (iI nv) (iI nb) (iI i) m = J (iI d, iI to, iI a, iI b, iI (i + 1), m')) ∧ XR B ov a b V' T' c' m' ∧ FrC c c' ∧ FrW m m' := by
  have hX' := hX
  obtain ⟨⟨x1, x2⟩, x3, x4, x5, k, x6, x7⟩ := hX'
  rcases hs with ⟨hp, hd, rfl, eb⟩ | ⟨rfl, rfl, hv, ea, eb⟩ | ⟨⟨o1, o2⟩, rfl, hv, rfl, eb⟩ | ⟨⟨o1, o2⟩, rfl, rfl, rfl, rfl⟩ | ⟨rfl, rfl, rfl, hb, rfl, eb⟩ | ⟨ho, rfl, rfl, hb, rfl, rfl⟩
  · -- something brought
    have eb := eb.symm
    subst eb
    have ho : o = 0 ∨ o = 1 ∨ o = 30 ∨ o = 31 ∨ o = 32 := by omega
    have hv : 0 ≤ v ∧ v ≤ 9999 := by omega
    have hx := trO_v ho
    obtain ⟨z, hz, e1, e2⟩ := z_brought hE hK hp
    obtain ⟨c', f1, g1, g2, g3, g4⟩ := z_push x1 (by omega) hB2 (show -4611686018427387904 < z by omega) (by omega) x6 x3 (by omega) (by omega)
    obtain ⟨r, f2, g5, g6, g7⟩ := z_bring x2 (by omega) hB2 (show -4611686018427387904 < z by omega) (by omega) x7
    obtain ⟨w1, w2, w3⟩ := br_fr g6
    refine ⟨c', sX12_values r.2 (vp_updL (pX12_values r.2) nv.toNat r.1), up V nv (sClip B z), T, fun J => ?_, fun J => ?_, ?_, g1, w1.s_values _⟩
    · rw [c_dec hn j1 j2 hx.1 (by omega) hv.1 (by omega) hc J, if_neg (by omega), e1, bind_s, iI_64 (by omega) (by omega), f1, bind_s]
    · rw [(m_dec d1 d2 i1 i2 to2 (show 0 ≤ o by omega) (by omega) h1 h2 n1 (by omega) b1 (by omega) J).1 (by omega)]
      unfold f_X12_work_b56 f_X12_work_b309
      rw [e2, bind_s, f2, bind_s]
      simp (disch := omega) only [iLit, iI_inB, gd_t, iI_cl, lt_e, iI_add]
    · exact hX.psh n1 b1 (by omega) g1 g2 g3 g4 (by rw [q12_bound_values]; exact w1.bound) (by rw [q12_truth_values]; exact w3) (by rw [q12_values_values, w2, g5]) (by rw [q12_over_values]; exact g7)
  · -- minus
    have eb := eb.symm
    subst eb
    have ea := ea.symm
    subst ea
    obtain ⟨y1, y2, y3, y4⟩ := x5 (nv - 1) (by omega) (by omega)
    have hP := hX.pop
    have e0 : nb + nv - 1 = nb + (nv - 1) := by omega
    have hpop := z_pop x3 (by omega) (by omega) (show pX6_stack c (nb + nv - 1).toNat = iI (V (nv - 1)) by rw [e0]; exact y1)
    obtain ⟨c', f1, g1, g2, g3, g4⟩ := z_push (c := sX6_top c (iI (nb + nv - 1))) (B := B) (z := -V (nv - 1)) (n := nb + nv - 1) (k := k) (by rw [q6_bound_top]; exact x1) (by omega) hB2 (by omega) (by omega) (by rw [q6_over_top]; exact x6) (by rw [q6_top_top]) (by omega) (by omega)
    have hcl := sClip_id (B := B) (z := -V (nv - 1)) (by omega) (by omega)
    refine ⟨c', sX12_values m (vp_updL (pX12_values m) (nv - 1).toNat (-(pX12_values m (nv - 1).toNat))), up V (nv - 1) (sClip B (-V (nv - 1))), T, fun J => ?_, fun J => ?_, ?_, ((FrC.refl c).s_top _).trans g1, (FrW.refl m).s_values _⟩
    · rw [c_dec hn j1 j2 (x := 5) (by omega) (by omega) (by omega) (by omega) hc J, if_pos (by omega), if_neg (by omega), hpop, bind_s, if_pos rfl]
      dsimp only
      rw [iI_64 (by omega) (by omega), lI_neg, f1, bind_s]
    · rw [(m_dec d1 d2 i1 i2 to2 (show (0 : Int) ≤ 2 by omega) (by omega) h1 h2 n1 (by omega) b1 (by omega) J).2.1 rfl hv]
    · have := hP.psh (m' := sX12_values m (vp_updL (pX12_values m) (nv - 1).toNat (-(pX12_values m (nv - 1).toNat)))) (z := -V (nv - 1)) (k := k) (by omega) b1 (by omega) g1 (by rw [g2]; congr 1; omega) (by rw [g3]; congr 2) g4 (by rw [q12_bound_values]) (by rw [q12_truth_values]) (by rw [q12_values_values, y2, lI_neg, hcl.1]) (by rw [q12_over_values, x7, hcl.2, Int.add_zero])
      rw [show nv - 1 + 1 = nv by omega] at this
      exact this
  · -- two integers
    have eb := eb.symm
    subst eb
    obtain ⟨y1, y2, y3, y4⟩ := x5 (nv - 1) (by omega) (by omega)
    obtain ⟨z1, z2, z3, z4⟩ := x5 (nv - 2) (by omega) (by omega)
    have hP := hX.pop.pop
    have e0 : nb + nv - 1 = nb + (nv - 1) := by omega
    have hpop := z_pop x3 (by omega) (by omega) (show pX6_stack c (nb + nv - 1).toNat = iI (V (nv - 1)) by rw [e0]; exact y1)
    have hpop2 := z_pop (c := sX6_top c (iI (nb + nv - 1))) (n := nb + nv - 1) (x := V (nv - 2)) (by rw [q6_top_top]) (by omega) (by omega) (by rw [q6_stack_top, show nb + nv - 1 - 1 = nb + (nv - 2) by omega]; exact z1)
    obtain ⟨z, hz, e1, r, f2, g5, g6, g7⟩ := z_two x2 hB hB2 x7 o1 o2 z3 z4 y3 y4
    obtain ⟨w1, w2, w3⟩ := br_fr g6
    obtain ⟨c', f1, g1, g2, g3, g4⟩ := z_push (c := sX6_top (sX6_top c (iI (nb + nv - 1))) (iI (nb + nv - 1 - 1))) (B := B) (z := z) (n := nb + nv - 1 - 1) (k := k) (by rw [q6_bound_top, q6_bound_top]; exact x1) (by omega) hB2 hz.1 hz.2 (by rw [q6_over_top, q6_over_top]; exact x6) (by rw [q6_top_top]) (by omega) (by omega)
    have ht := trO_2 o1 o2
    refine ⟨c', sX12_values r.2 (vp_updL (pX12_values r.2) (nv - 2).toNat r.1), up V (nv - 1 - 1) (sClip B z), T, fun J => ?_, fun J => ?_, ?_, (((FrC.refl c).s_top _).s_top _).trans g1, w1.s_values _⟩
    · rw [c_dec hn j1 j2 (x := trO o) (by omega) (by omega) (by omega) (by omega) hc J, if_pos (by omega), if_pos (by omega), if_neg (by omega), hpop, bind_s]
      dsimp only
      rw [hpop2, bind_s]
      dsimp only
      rw [e1, bind_s, f1, bind_s]
    · rw [(m_dec d1 d2 i1 i2 to2 (show 0 ≤ o by omega) (by omega) h1 h2 n1 (by omega) b1 (by omega) J).2.2.1 o1 o2 hv, y2, z2, f2, bind_s]
    · have e5 : nb + (nv - 1) - 1 = nb + nv - 1 - 1 := by omega
      rw [e5] at hP
      have := hP.psh (c' := c') (m' := sX12_values r.2 (vp_updL (pX12_values r.2) (nv - 2).toNat r.1)) (z := z) (k := k) (by omega) b1 (by omega) g1 (by rw [g2]; congr 1; omega) (by rw [g3]; congr 2; omega) g4 (by rw [q12_bound_values]; exact w1.bound) (by rw [q12_truth_values]; exact w3) (by rw [q12_values_values, w2, g5, show nv - 1 - 1 = nv - 2 by omega]) (by rw [q12_over_values]; exact g7)
      rw [show nv - 1 - 1 + 1 = nv - 1 by omega] at this
      exact this
  · -- a comparison
    obtain ⟨y1, y2, y3, y4⟩ := x5 1 (by omega) (by omega)
    obtain ⟨z1, z2, z3, z4⟩ := x5 0 (by omega) (by omega)
    have hP := hX.pop.pop
    have hpop := z_pop x3 (by omega) (by omega) (show pX6_stack c (nb + 2 - 1).toNat = iI (V 1) by rw [show nb + 2 - 1 = nb + 1 by omega]; exact y1)
    have hpop2 := z_pop (c := sX6_top c (iI (nb + 2 - 1))) (n := nb + 2 - 1) (x := V 0) (by rw [q6_top_top]) (by omega) (by omega) (by rw [q6_stack_top, show nb + 2 - 1 - 1 = nb + 0 by omega]; exact z1)
    obtain ⟨z, hz, e1, f2⟩ := z_ask hB hB2 o1 o2 z3 z4 y3 y4
    obtain ⟨c', f1, g1, g2, g3, g4⟩ := z_push (c := sX6_top (sX6_top c (iI (nb + 2 - 1))) (iI (nb + 2 - 1 - 1))) (B := B) (z := z) (n := nb + 2 - 1 - 1) (k := k) (by rw [q6_bound_top, q6_bound_top]; exact x1) (by omega) hB2 (by omega) (by omega) (by rw [q6_over_top, q6_over_top]; exact x6) (by rw [q6_top_top]) (by omega) (by omega)
    have hcl := sClip_id (B := B) (z := z) (by omega) (by omega)
    have ht := trO_3 o1 o2
    have vn : vp_nar .boolean (iI z) = iI z := by rcases hz with e | e <;> rw [e] <;> rfl
    refine ⟨c', sX12_truth m (upd (pX12_truth m) nb.toNat (iI z)), V, up T nb z, fun J => ?_, fun J => ?_, ?_, (((FrC.refl c).s_top _).s_top _).trans g1, (FrW.refl m).s_truth _⟩
    · rw [c_dec hn j1 j2 (x := trO o) (by omega) (by omega) (by omega) (by omega) hc J, if_pos (by omega), if_pos (by omega), if_neg (by omega), hpop, bind_s]
      dsimp only
      rw [hpop2, bind_s]
      dsimp only
      rw [e1, bind_s, f1, bind_s]
    · rw [(m_dec d1 d2 i1 i2 to2 (show 0 ≤ o by omega) (by omega) h1 h2 n1 (by omega) b1 (by omega) J).2.2.2.1 o1 o2 (by omega), show (2 : Int) - 2 = 0 by omega, show (2 : Int) - 1 = 1 by omega, y2, z2, f2, bind_s, vn]
    · have e5 : nb + (2 - 1) - 1 = nb + 2 - 1 - 1 := by omega
      have e6 : nb + 2 - 1 - 1 = nb := by omega
      rw [e5, show (2 : Int) - 1 - 1 = 0 by omega] at hP
      exact hP.pshT (m' := sX12_truth m (upd (pX12_truth m) nb.toNat (iI z))) (k := k) b1 hz g1 (by rw [g2]; congr 1; omega) (by rw [g3, e6, hcl.1]) (by rw [g4, hcl.2, Int.add_zero]) (by rw [q12_bound_truth]) (by rw [q12_truth_truth]) (by rw [q12_over_truth]; exact x7)
  · -- not
    have eb := eb.symm
    subst eb
    obtain ⟨y1, y2, y3⟩ := x4 (nb - 1) (by omega) (by omega)
    have hP := hX.popT
    have hpop := z_pop x3 (by omega) (by omega) (show pX6_stack c (nb + 0 - 1).toNat = iI (T (nb - 1)) by rw [show nb + 0 - 1 = nb - 1 by omega]; exact y1)
    rw [show nb + 0 - 1 = nb - 1 by omega] at hpop
    obtain ⟨c', f1, g1, g2, g3, g4⟩ := z_push (c := sX6_top c (iI (nb - 1))) (B := B) (z := 1 - T (nb - 1)) (n := nb - 1) (k := k) (by rw [q6_bound_top]; exact x1) (by omega) hB2 (by omega) (by omega) (by rw [q6_over_top]; exact x6) (by rw [q6_top_top]) (by omega) (by omega)
    have hcl := sClip_id (B := B) (z := 1 - T (nb - 1)) (by omega) (by omega)
    have hz : 1 - T (nb - 1) = 0 ∨ 1 - T (nb - 1) = 1 := by omega
    refine ⟨c', sX12_truth m (upd (pX12_truth m) (nb - 1).toNat (iI (1 - T (nb - 1)))), V, up T (nb - 1) (1 - T (nb - 1)), fun J => ?_, fun J => ?_, ?_, ((FrC.refl c).s_top _).trans g1, (FrW.refl m).s_truth _⟩
    · rw [c_dec hn j1 j2 (x := 6) (by omega) (by omega) (by omega) (by omega) hc J, if_pos (by omega), if_neg (by omega), hpop, bind_s, if_neg (by omega)]
      dsimp only
      rw [iI_sub, iI_64 (by omega) (by omega), f1, bind_s]
    · rw [(m_dec d1 d2 i1 i2 to2 (show (0 : Int) ≤ 20 by omega) (by omega) h1 h2 n1 (by omega) b1 (by omega) J).2.2.2.2.1 rfl hb, y2]
      rcases y3 with e | e
      · rw [e, if_pos rfl]
        rfl
      · rw [e, if_neg (by decide)]
        rfl
    · have := hP.pshT (c' := c') (m' := sX12_truth m (upd (pX12_truth m) (nb - 1).toNat (iI (1 - T (nb - 1))))) (k := k) (by omega) hz g1 (by rw [g2]) (by rw [g3, hcl.1]) (by rw [g4, hcl.2, Int.add_zero]) (by rw [q12_bound_truth]) (by rw [q12_truth_truth]) (by rw [q12_over_truth]; exact x7)
      rw [show nb - 1 + 1 = nb by omega] at this
      exact this
  · -- and, or
    obtain ⟨y1, y2, y3⟩ := x4 (nb - 1) (by omega) (by omega)
    obtain ⟨z1, z2, z3⟩ := x4 (nb - 2) (by omega) (by omega)
    have hP := hX.popT.popT
    have hpop := z_pop x3 (by omega) (by omega) (show pX6_stack c (nb + 0 - 1).toNat = iI (T (nb - 1)) by rw [show nb + 0 - 1 = nb - 1 by omega]; exact y1)
    rw [show nb + 0 - 1 = nb - 1 by omega] at hpop
    have hpop2 := z_pop (c := sX6_top c (iI (nb - 1))) (n := nb - 1) (x := T (nb - 2)) (by rw [q6_top_top]) (by omega) (by omega) (by rw [q6_stack_top, show nb - 1 - 1 = nb - 2 by omega]; exact z1)
    have hj : ∃ z : Int, (z = 0 ∨ z = 1) ∧ f_X6_joined (iI (trO o)) (iI (T (nb - 2))) (iI (T (nb - 1))) = some (lI z) ∧ (if o = 21 then (if iI (T (nb - 2)) = iI 0 then iI 0 else if iI (T (nb - 1)) = iI 0 then iI 0 else iI 1) else (if iI (T (nb - 2)) = iI 0 then (if iI (T (nb - 1)) = iI 0 then iI 0 else iI 1) else iI 1)) = iI z := by
      rcases ho with e | e <;> subst e <;> rcases y3 with e | e <;> rcases z3 with e' | e' <;> rw [e, e']
      · exact ⟨0, Or.inl rfl, rfl, rfl⟩
      · exact ⟨0, Or.inl rfl, rfl, rfl⟩
      · exact ⟨0, Or.inl rfl, rfl, rfl⟩
      · exact ⟨1, Or.inr rfl, rfl, rfl⟩
      · exact ⟨0, Or.inl rfl, rfl, rfl⟩
      · exact ⟨1, Or.inr rfl, rfl, rfl⟩
      · exact ⟨1, Or.inr rfl, rfl, rfl⟩
      · exact ⟨1, Or.inr rfl, rfl, rfl⟩
    obtain ⟨z, hz, e1, e2⟩ := hj
    obtain ⟨c', f1, g1, g2, g3, g4⟩ := z_push (c := sX6_top (sX6_top c (iI (nb - 1))) (iI (nb - 1 - 1))) (B := B) (z := z) (n := nb - 1 - 1) (k := k) (by rw [q6_bound_top, q6_bound_top]; exact x1) (by omega) hB2 (by omega) (by omega) (by rw [q6_over_top, q6_over_top]; exact x6) (by rw [q6_top_top]) (by omega) (by omega)
    have hcl := sClip_id (B := B) (z := z) (by omega) (by omega)
    have ht : trO o = o - 2 := by rcases ho with e | e <;> subst e <;> rfl
    refine ⟨c', sX12_truth m (upd (pX12_truth m) (nb - 2).toNat (iI z)), V, up T (nb - 1 - 1) z, fun J => ?_, fun J => ?_, ?_, (((FrC.refl c).s_top _).s_top _).trans g1, (FrW.refl m).s_truth _⟩
    · rw [c_dec hn j1 j2 (x := trO o) (by omega) (by omega) (by omega) (by omega) hc J, if_pos (by omega), if_pos (by omega), if_neg (by omega), hpop, bind_s]
      dsimp only
      rw [hpop2, bind_s]
      dsimp only
      rw [e1, bind_s, f1, bind_s]
    · rw [(m_dec d1 d2 i1 i2 to2 (show 0 ≤ o by omega) (by omega) h1 h2 n1 (by omega) b1 (by omega) J).2.2.2.2.2 (by omega) (by omega) hb, y2, z2, e2]
    · have := hP.pshT (c' := c') (m' := sX12_truth m (upd (pX12_truth m) (nb - 2).toNat (iI z))) (k := k) (by omega) hz g1 (by rw [g2]) (by rw [g3, hcl.1]) (by rw [g4, hcl.2, Int.add_zero]) (by rw [q12_bound_truth]) (by rw [q12_truth_truth, show nb - 1 - 1 = nb - 2 by omega]) (by rw [q12_over_truth]; exact x7)
      rw [show nb - 1 - 1 + 1 = nb - 1 by omega] at this
      exact this
