-- layer 2: a clause as a whole
theorem clause_all {D : PD} {c : BX4} {t : BX9} {m : BX12} {j : Int} {p : Prog} {a : Int → Bool} (hI : CI D c t m j p a) : Wp (f_X4_clause c t (iI (p.length : Int))) (ClO D m j p (f_X12_clause m)) := by
  have hI' := hI
  obtain ⟨i1, i2, i3, i4, i5, i6, i7, i8, i9, i10, i11⟩ := hI
  have kb := i1.tk.kb
  have jb := i1.n
  have hpv := pLen_v p
  have hpn := pOps_nn p
  have sz : SzB c := ⟨(pLen p : Int), by omega, i3.2.2.2.2.2⟩
  -- a refusal at this token
  have rf : ∀ f : Int, 1 ≤ f → f ≤ 6 → f_X12_clause m = some (iI f, m) → Wp ((f_X4_refuse c t (iI f)).bind (fun r_21 => some (r_21.2, t))) (ClO D m j p (f_X12_clause m)) := by
    intro f f1 f2 hf
    refine wp_bind (wp_mono (z_refuse (f := f) sz i3.2.1 i2.2.2.2.2.1) ?_)
    rintro r ⟨r1, r2⟩
    exact wp_some (Or.inr ⟨f, m, j, ⟨f1, f2⟩, r2, i1.place, hf, FrV.refl m, fun k _ _ => rfl⟩)
  have hM : f_X12_clause m = (if iI (soS (dK D j)) = 0 then (some (1, m)) else (if iI (soS (dK D j)) = 1 then (f_X12_clause_b30 (iI (soS (dK D j))) m) else (if ((((pX12_came m) >>> (iI (soS (dK D j)) &&& 31)) &&& 1) : Int32) = 1 then (some (4, m)) else (f_X12_clause_b30 (iI (soS (dK D j))) m)))) := by
    unfold f_X12_clause
    rw [z_clSort i1.tk, bind_s]
  unfold f_X4_clause
  rw [i2.2.2.2.1, z_clauseOp kb, bind_s]
  rcases soS_bd (dK D j) with h0 | ⟨hk, hs⟩
  · rw [if_pos h0, if_pos (show iI (-1) = -1 from rfl)]
    refine rf 1 (by omega) (by omega) ?_
    rw [hM, h0, if_pos (show iI 0 = 0 from rfl)]
    rfl
  · have jn := jb.2.2 hk
    rw [if_neg (show ¬ soS (dK D j) = 0 by omega), if_neg (show ¬ iI (20 + soS (dK D j)) = -1 from iI_ne (b := -1) (by omega) (by omega) (by omega) (by omega) (by omega))]
    rw [if_neg (show ¬ iI (soS (dK D j)) = 0 from iI_ne (b := 0) (by omega) (by omega) (by omega) (by omega) (by omega))] at hM
    -- too many
    have ten : ¬ (p.length : Int) < 10 → f_X12_clause_b30 (iI (soS (dK D j))) m = some (6, m) := by
      intro h
      unfold f_X12_clause_b30
      rw [if_pos (by rw [i4.2.2.2.1, show (p.length : Int) = 10 by omega]; rfl)]
    by_cases c1 : soS (dK D j) = 1
    · rw [c1] at hM ten ⊢
      rw [if_pos (show iI 1 = 1 from rfl)] at hM
      rw [if_pos (show iI (20 + 1) = 21 from rfl)]
      unfold f_X4_clause_b51
      by_cases cn : (p.length : Int) < 10
      · obtain ⟨m2, e2, g2, g3, g4, g5, g6⟩ := cl_head hI' cn jn (Or.inl rfl)
        rw [if_pos (show iI 1 = 1 from rfl)] at e2
        rw [if_pos (show iI (p.length : Int) < 10 from (iI_lt (b := 10) (by omega) (by omega) (by omega) (by omega)).mpr cn), if_pos (show iI (20 + 1) = 21 from rfl), hM, e2]
        refine wp_bind (wp_mono (CT.adv i2 jb.2.1.2) ?_)
        intro t1 ht1
        have ht1 : CJ D t1 (nx (dn D) j) := ht1
        rw [nx_in jn] at ht1
        have kb1 := g2.tk.kb
        have jb1 := g2.n
        have hlo := z_letterOf g2.tk
        have tb0 : TBw m m2 (db D) := fun k k1 k2 => g6 k k1 (Or.inl (by omega))
        -- a refusal at the letter's token
        have rf1 : ∀ f : Int, 1 ≤ f → f ≤ 6 → letR (iI 1) (iI (db D + 1 + 4 * (p.length : Int))) m2 = some (iI f, m2) → Wp (((f_X4_refuse c t1 (iI f)).bind (fun r_13 => some (r_13.2, t1))).bind (fun r_14 => some (r_14.1, r_14.2))) (ClO D m j p (letR (iI 1) (iI (db D + 1 + 4 * (p.length : Int))) m2)) := by
          intro f f1 f2 hf
          refine wp_bind (wp_bind (wp_mono (z_refuse (f := f) sz i3.2.1 ht1.2.2.2.2.1) ?_))
          rintro r ⟨r1, r2⟩
          exact wp_some (wp_some (Or.inr ⟨f, m2, j + 1, ⟨f1, f2⟩, r2, g2.place, hf, g3, tb0⟩))
        unfold f_X4_letClause
        rw [lt_e, ht1.2.2.2.1]
        by_cases k4 : dK D (j + 1) = -4
        · have hl := hlo.2 k4
          have lo := hlo.1
          rw [if_pos k4] at lo
          have jn1 := jb1.2.2 (by omega)
          have ev : (pX9_value t1 - 65 : Int32) = iI (dV D (j + 1) - 65) := by
            rw [ht1.2.2.2.2.2.1]
            exact iI_sub _ 65
          rw [if_pos (show iI (dK D (j + 1)) = -4 by rw [k4]; rfl), ev]
          have el : pX4_told c = pX12_letters m2 := i3.2.2.2.1.trans g4.2.2.2.2.1.symm
          generalize hll : dV D (j + 1) - 65 = l at lo ev ⊢
          have l8 : 0 ≤ l ∧ l < 8 := by omega
          rw [el]
          by_cases cb : (pX12_letters m2 >>> (iI l &&& 31)) &&& 1 = 0
          · rw [if_pos cb]
            have hx1 : (iI (db D + 1 + 4 * (p.length : Int)) + 1 : Int32) = iI (db D + 1 + 4 * (p.length : Int) + 1) := iI_add _ 1
            have key : letR (iI 1) (iI (db D + 1 + 4 * (p.length : Int))) m2 = (f_X12_nextToken (sX12_texts m2 (upd (pX12_texts m2) (db D + 1 + 4 * (p.length : Int) + 1).toNat (iI l)))).bind (fun r_31 => f_X12_clause_b145 (iI 1) (iI (db D + 1 + 4 * (p.length : Int))) ((1 : Int32) <<< (iI l &&& 31)) r_31) := by
              unfold letR
              rw [lo, bind_s, if_pos (show (0 : Int32) ≤ iI l from (iI_le (a := 0) (by omega) (by omega) (by omega) (by omega)).mpr l8.1), if_neg (by rw [cb]; decide), hx1, gd_t ((iI_inB (by omega) (by omega)).mpr (by omega)), lt_e, lt_e, iI_cl (by omega) (by omega)]
            rw [key]
            have fE : FrE m2 (sX12_texts m2 (upd (pX12_texts m2) (db D + 1 + 4 * (p.length : Int) + 1).toNat (iI l))) := FrE.s_texts (FrE.refl m2) _
            have y1 : pX12_clauses (sX12_texts m2 (upd (pX12_texts m2) (db D + 1 + 4 * (p.length : Int) + 1).toNat (iI l))) = pX12_clauses m2 := rfl
            have y2 : pX12_came (sX12_texts m2 (upd (pX12_texts m2) (db D + 1 + 4 * (p.length : Int) + 1).toNat (iI l))) = pX12_came m2 := rfl
            have y3 : pX12_letters (sX12_texts m2 (upd (pX12_texts m2) (db D + 1 + 4 * (p.length : Int) + 1).toNat (iI l))) = pX12_letters m2 := rfl
            have y4 : pX12_texts (sX12_texts m2 (upd (pX12_texts m2) (db D + 1 + 4 * (p.length : Int) + 1).toNat (iI l))) = upd (pX12_texts m2) (db D + 1 + 4 * (p.length : Int) + 1).toNat (iI l) := rfl
            generalize sX12_texts m2 (upd (pX12_texts m2) (db D + 1 + 4 * (p.length : Int) + 1).toNat (iI l)) = m3 at fE y1 y2 y3 y4 ⊢
            obtain ⟨m4, e4, z1, z2⟩ := MJ.next (fE.mj g2)
            rw [nx_in jn1] at z2
            rw [e4, bind_s]
            obtain ⟨t2, et2, ht2⟩ := CT.adv ht1 jb.2.1.2
            have ht2 : CJ D t2 (nx (dn D) (j + 1)) := ht2
            rw [nx_in jn1] at ht2
            rw [et2, bind_s]
            have hH : HdO D m m4 p (upB a 1) 1 l := by
              refine ⟨g3.trans (fE.v.trans z1.v), ⟨z1.opens.trans (fE.opens.trans g4.1), z1.text0.trans (fE.text0.trans g4.2.1), z1.clauses.trans (y1.trans g4.2.2.1), z1.came.trans (y2.trans g4.2.2.2.1), z1.letters.trans (y3.trans g4.2.2.2.2.1), z1.written.trans (fE.written.trans g4.2.2.2.2.2)⟩, ⟨?_, fun _ => ?_, ?_⟩, fun k k1 k2 => ?_⟩
              · rw [z1.texts, y4, ai_upd (by omega) (by omega), if_neg (by omega)]
                exact g5.1
              · rw [z1.texts, y4, ai_upd (by omega) (by omega), if_pos rfl]
              · rw [z1.texts, y4, ai_upd (by omega) (by omega), if_neg (by omega)]
                exact g5.2
              · rw [z1.texts, y4, ai_upd (by omega) k1, if_neg (by omega)]
                exact g6 k k1 k2
            have hPS := cl_PS (c' := c) hI' cn hH z2 ht2 (by omega) ⟨rfl, rfl, rfl, rfl, rfl⟩
            have hsum := summed_top (nv := 0) (nb := 0) hPS hH.2.1.1 (by show (pLen p : Int) + 0 ≤ _; omega) (by omega)
            have fin := cl_go (s0 := 1) (l := l) (x3 := (1 : Int32) <<< (iI l &&& 31)) (Kf := fun u => sX4_told u (pX4_told u ||| ((1 : Int32) <<< (iI l &&& 31)))) hI' cn hH (show j < j + 1 + 1 by omega) ⟨rfl, by rw [uW_1]; exact i3.2.2.2.2.1, rfl, rfl⟩ hsum (Or.inl ⟨rfl, l8, rfl, rfl⟩) (Or.inl ⟨rfl, rfl⟩) (fun u => ⟨rfl, rfl, rfl, rfl, rfl, rfl, rfl⟩)
            have eB : f_X12_clause_b145 (iI 1) (iI (db D + 1 + 4 * (p.length : Int))) ((1 : Int32) <<< (iI l &&& 31)) m4 = (f_X12_summed m4).bind (fun r => f_X12_clause_b161 (iI (db D + 1 + 4 * (p.length : Int))) ((1 : Int32) <<< (iI l &&& 31)) r.1 r.2) := by
              unfold f_X12_clause_b145
              rw [if_neg (show ¬ iI 1 = 4 by decide)]
            rw [eB]
            refine wp_bind (wp_mono fin ?_)
            intro r hr
            exact wp_some hr
          · have cb1 : (pX12_letters m2 >>> (iI l &&& 31)) &&& 1 = 1 := (and1_01 _).resolve_left cb
            rw [if_neg cb]
            refine rf1 4 (by omega) (by omega) ?_
            unfold letR
            rw [lo, bind_s, if_pos (show (0 : Int32) ≤ iI l from (iI_le (a := 0) (by omega) (by omega) (by omega) (by omega)).mpr l8.1), if_pos cb1]
            rfl
        · have lo := hlo.1
          rw [if_neg k4] at lo
          rw [if_neg (show ¬ iI (dK D (j + 1)) = -4 from iI_ne (b := -4) (by omega) (by omega) (by omega) (by omega) k4)]
          refine rf1 1 (by omega) (by omega) ?_
          unfold letR
          rw [lo, bind_s, if_neg (show ¬ (0 : Int32) ≤ iI (-1) by decide)]
          rfl
      · rw [if_neg (show ¬ iI (p.length : Int) < 10 from fun x => cn ((iI_lt (b := 10) (by omega) (by omega) (by omega) (by omega)).mp x))]
        exact rf 6 (by omega) (by omega) (hM.trans (ten cn))
    · have hs3 : soS (dK D j) = 2 ∨ soS (dK D j) = 3 ∨ soS (dK D j) = 4 := by omega
      generalize hso : soS (dK D j) = s0 at hs hM ten c1 hs3 ⊢
      rw [if_neg (show ¬ iI s0 = 1 from iI_ne (b := 1) (by omega) (by omega) (by omega) (by omega) c1), i4.2.1, cW_bit a hs] at hM
      rw [if_neg (show ¬ iI (20 + s0) = 21 from iI_ne (b := 21) (by omega) (by omega) (by omega) (by omega) (by omega)), i3.2.2.2.2.1, uW_bit a hs3]
      cases ha : a s0 with
      | true =>
        rw [ha] at hM
        rw [if_neg (by decide)]
        refine rf 4 (by omega) (by omega) ?_
        rw [hM, if_pos (by decide)]
        rfl
      | false =>
        rw [ha, if_neg (show ¬ (if (false : Bool) = true then (1 : Int32) else 0) = 1 by decide)] at hM
        rw [if_pos (by decide)]
        unfold f_X4_clause_b51
        by_cases cn : (p.length : Int) < 10
        · obtain ⟨m2, e2, g2, g3, g4, g5, g6⟩ := cl_head hI' cn jn hs
          rw [if_neg (show ¬ iI s0 = 1 from iI_ne (b := 1) (by omega) (by omega) (by omega) (by omega) c1)] at e2
          rw [if_pos (show iI (p.length : Int) < 10 from (iI_lt (b := 10) (by omega) (by omega) (by omega) (by omega)).mpr cn), if_neg (show ¬ iI (20 + s0) = 21 from iI_ne (b := 21) (by omega) (by omega) (by omega) (by omega) (by omega)), hM, e2, lt_e, lt_e, i3.2.2.2.2.1, uW_or a hs3]
          refine wp_bind (wp_mono (CT.adv i2 jb.2.1.2) ?_)
          intro t1 ht1
          have ht1 : CJ D t1 (nx (dn D) j) := ht1
          rw [nx_in jn] at ht1
          have hH : HdO D m m2 p (upB a s0) s0 0 := ⟨g3, g4, ⟨g5.1, fun g => absurd g c1, g5.2⟩, g6⟩
          have hPS := cl_PS (c' := sX4_used c (uW (upB a s0))) hI' cn hH g2 ht1 (by omega) ⟨rfl, rfl, rfl, rfl, rfl⟩
          unfold f_X12_clause_b145
          by_cases c4 : s0 = 4
          · rw [if_pos (show iI (20 + s0) = 24 by rw [c4]; rfl), if_pos (show iI s0 = 4 by rw [c4]; rfl)]
            exact cl_go (c' := sX4_used c (uW (upB a s0))) (s0 := s0) (l := 0) (x3 := 0) (Kf := fun u => u) hI' cn hH (show j < j + 1 by omega) ⟨rfl, rfl, rfl, rfl⟩ (either_all hPS g4.1 (by show (pLen p : Int) + 0 ≤ _; omega)) (Or.inr (Or.inr ⟨c4, rfl, rfl, rfl⟩)) (Or.inr ⟨c1, rfl⟩) (fun u => ⟨rfl, rfl, rfl, rfl, rfl, rfl, (Int32.or_zero).symm⟩)
          · rw [if_neg (show ¬ iI (20 + s0) = 24 from iI_ne (b := 24) (by omega) (by omega) (by omega) (by omega) (by omega)), if_neg (show ¬ iI s0 = 4 from iI_ne (b := 4) (by omega) (by omega) (by omega) (by omega) c4)]
            exact cl_go (c' := sX4_used c (uW (upB a s0))) (s0 := s0) (l := 0) (x3 := 0) (Kf := fun u => u) hI' cn hH (show j < j + 1 by omega) ⟨rfl, rfl, rfl, rfl⟩ (summed_top (nv := 0) (nb := 0) hPS g4.1 (by show (pLen p : Int) + 0 ≤ _; omega) (by omega)) (Or.inr (Or.inl ⟨by omega, rfl, rfl, rfl⟩)) (Or.inr ⟨c1, rfl⟩) (fun u => ⟨rfl, rfl, rfl, rfl, rfl, rfl, (Int32.or_zero).symm⟩)
        · rw [if_neg (show ¬ iI (p.length : Int) < 10 from fun x => cn ((iI_lt (b := 10) (by omega) (by omega) (by omega) (by omega)).mp x))]
          exact rf 6 (by omega) (by omega) (hM.trans (ten cn))
