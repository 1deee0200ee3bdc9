-- layer 2: the end of a clause
def Dw (D : PD) (w s : Int) : PD := (D.1, D.2.1, D.2.2.1, D.2.2.2.1, D.2.2.2.2.1, D.2.2.2.2.2.1, D.2.2.2.2.2.2.1, D.2.2.2.2.2.2.2.1, w, s)
/-- both sides between two clauses -/
def CI (D : PD) (c : BX4) (t : BX9) (m : BX12) (j : Int) (p : Prog) (a : Int → Bool) : Prop :=
  MJ D m j ∧ CJ D t j ∧ (pX4_open c = iI 0 ∧ pX4_fault c = iI 0 ∧ pX4_place c = iI (-1) ∧ pX4_told c = pX12_letters m ∧ pX4_used c = uW a ∧ pX4_size c = iI (pLen p : Int)) ∧ (pX12_opens m = iI 0 ∧ pX12_came m = cW a ∧ pX12_text0 m = iI (db D) ∧ pX12_clauses m = iI (p.length : Int) ∧ pX12_written m = iI (pOps p)) ∧ (0 ≤ db D ∧ db D ≤ 5600) ∧ (p.length : Int) ≤ 10 ∧ (pLen p : Int) ≤ j ∧ WF p (fun _ => false) ∧ (∀ k : Int, 0 ≤ k → k < 8 → bitK (pX12_letters m) k = true → tolds p (fun _ => false) k = true) ∧ LayT (pX12_texts m) (db D) p 0 0 ∧ LayC (pX4_code c) p 0
/-- texts of rules before are as they were -/
def TBw (m r : BX12) (b : Int) : Prop := ∀ k : Int, 0 ≤ k → k < b → pX12_texts r k.toNat = pX12_texts m k.toNat
def ClO (D : PD) (m : BX12) (j : Int) (p : Prog) (x : Option (Int32 × BX12)) (r : BX4 × BX9) : Prop :=
  (∃ (m' : BX12) (j' : Int) (p' : Prog) (a' : Int → Bool), j < j' ∧ x = some (0, m') ∧ CI D r.1 r.2 m' j' p' a' ∧ p'.length = p.length + 1 ∧ FrV m m' ∧ TBw m m' (db D)) ∨
  (∃ (f : Int) (m' : BX12) (j' : Int), (1 ≤ f ∧ f ≤ 6) ∧ FA r.1 f (dS D j') ∧ pX12_place m' = iI (dS D j') ∧ x = some (iI f, m') ∧ FrV m m' ∧ TBw m m' (db D))
theorem cl_tail {D : PD} {c c1 : BX4} {t t1 : BX9} {m m3 : BX12} {j j3 : Int} {p : Prog} {a a' : Int → Bool} {ops : OpL} {s0 l : Int} {x3 : Int32} {Kf : BX4 → BX4} (hI : CI D c t m j p a) (hcn : (p.length : Int) < 10) (hS : PS (Dw D (pOps p) (pLen p : Int)) c1 t1 m3 j3 0 ops ops) (ho : pX12_opens m3 = iI 0) (hj : j < j3) (hl : (pLen p : Int) + oLen ops ≤ j3) (hv : FrV m m3) (h3 : pX12_text0 m3 = iI (db D) ∧ pX12_clauses m3 = iI (p.length : Int) ∧ pX12_came m3 = cW a' ∧ pX12_letters m3 = pX12_letters m) (hc : pX4_used c1 = uW a' ∧ pX4_place c1 = iI (-1) ∧ CBl c c1 (pLen p : Int))
    (ht : pX12_texts m3 (db D + 1 + 4 * (p.length : Int)).toNat = iI s0 ∧ (s0 = 1 → pX12_texts m3 (db D + 1 + 4 * (p.length : Int) + 1).toNat = iI l) ∧ pX12_texts m3 (db D + 1 + 4 * (p.length : Int) + 2).toNat = iI (pOps p)) (hold : ∀ k : Int, 0 ≤ k → (k < db D + 1 + 4 * (p.length : Int) ∨ (db D + 80 ≤ k ∧ k < db D + 80 + 2 * pOps p)) → pX12_texts m3 k.toNat = pX12_texts m k.toNat)
    (hs : (s0 = 1 ∧ (0 ≤ l ∧ l < 8) ∧ Sh (bitK (pX12_letters m)) ops 0 0 1 0) ∨ ((s0 = 2 ∨ s0 = 3) ∧ l = 0 ∧ Sh (bitK (pX12_letters m)) ops 0 0 1 0) ∨ (s0 = 4 ∧ l = 0 ∧ Sh (bitK (pX12_letters m)) ops 0 0 0 1)) (hx3 : (s0 = 1 ∧ x3 = (1 : Int32) <<< (iI l &&& 31)) ∨ (s0 ≠ 1 ∧ x3 = 0))
    (hK : ∀ u : BX4, pX4_open (Kf u) = pX4_open u ∧ pX4_used (Kf u) = pX4_used u ∧ pX4_fault (Kf u) = pX4_fault u ∧ pX4_place (Kf u) = pX4_place u ∧ pX4_size (Kf u) = pX4_size u ∧ pX4_code (Kf u) = pX4_code u ∧ pX4_told (Kf u) = pX4_told u ||| x3) :
    Wp ((f_X4_expect c1 t1 59).bind (fun r => if r.1 = 0 then some (r.2.1, r.2.2) else (f_X4_emit r.2.1 (iI (20 + s0)) (iI l)).bind (fun u => some (Kf u, r.2.2)))) (ClO D m j p (f_X12_clause_b161 (iI (db D + 1 + 4 * (p.length : Int))) x3 0 m3)) := by
  obtain ⟨i1, i2, i3, i4, i5, i6, i7, i8, i9, i10, i11⟩ := hI
  obtain ⟨s1, s2, s3, s4, s5, s6, s7, s8⟩ := hS
  have hpn := pOps_nn p
  have hon := oLen_nn ops
  have jb := MJ.n (D := D) s1
  have kb := TKM.kb (MJ.tk (D := D) s1)
  have hpv := pLen_v p
  have hw3 : pX12_written m3 = iI (pOps p + oLen ops) := s7.2.2.2.1
  have s01 : 1 ≤ s0 ∧ s0 ≤ 4 := by omega
  have ex3 : (iI (db D + 1 + 4 * (p.length : Int)) + 3 : Int32) = iI (db D + 1 + 4 * (p.length : Int) + 3) := iI_add _ 3
  -- the reference's end of the clause
  have hq : f_X12_clause_b161 (iI (db D + 1 + 4 * (p.length : Int))) x3 0 m3 = if pX12_token (sX12_texts m3 (upd (pX12_texts m3) (db D + 1 + 4 * (p.length : Int) + 3).toNat (iI (pOps p + oLen ops)))) = 59 then (f_X12_nextToken (sX12_clauses (sX12_letters (sX12_texts m3 (upd (pX12_texts m3) (db D + 1 + 4 * (p.length : Int) + 3).toNat (iI (pOps p + oLen ops)))) (pX12_letters m ||| x3)) (iI ((p.length : Int) + 1)))).bind (fun r_10 => some (0, r_10)) else some (1, sX12_texts m3 (upd (pX12_texts m3) (db D + 1 + 4 * (p.length : Int) + 3).toNat (iI (pOps p + oLen ops)))) := by
    unfold f_X12_clause_b161
    rw [if_pos rfl, lt_e, ex3, gd_t ((iI_inB (by omega) (by omega)).mpr (by omega)), lt_e, iI_cl (by omega) (by omega), hw3, lt_e, lt_e, lt_e, lt_e]
    have e1 : pX12_letters (sX12_texts m3 (upd (pX12_texts m3) (db D + 1 + 4 * (p.length : Int) + 3).toNat (iI (pOps p + oLen ops)))) = pX12_letters m := h3.2.2.2
    have e2 : pX12_clauses (sX12_letters (sX12_texts m3 (upd (pX12_texts m3) (db D + 1 + 4 * (p.length : Int) + 3).toNat (iI (pOps p + oLen ops)))) (pX12_letters m ||| x3)) + 1 = iI ((p.length : Int) + 1) := by
      show pX12_clauses m3 + 1 = _
      rw [h3.2.1]
      exact iI_add _ 1
    rw [e1, e2]
  rw [hq]
  have fE : FrE m3 (sX12_texts m3 (upd (pX12_texts m3) (db D + 1 + 4 * (p.length : Int) + 3).toNat (iI (pOps p + oLen ops)))) := FrE.s_texts (FrE.refl m3) _
  have eT : pX12_texts (sX12_texts m3 (upd (pX12_texts m3) (db D + 1 + 4 * (p.length : Int) + 3).toNat (iI (pOps p + oLen ops)))) = upd (pX12_texts m3) (db D + 1 + 4 * (p.length : Int) + 3).toNat (iI (pOps p + oLen ops)) := rfl
  have eC : pX12_came (sX12_texts m3 (upd (pX12_texts m3) (db D + 1 + 4 * (p.length : Int) + 3).toNat (iI (pOps p + oLen ops)))) = pX12_came m3 := rfl
  generalize sX12_texts m3 (upd (pX12_texts m3) (db D + 1 + 4 * (p.length : Int) + 3).toNat (iI (pOps p + oLen ops))) = m4 at fE eT eC ⊢
  have hup : ∀ k : Int, 0 ≤ k → k ≠ db D + 1 + 4 * (p.length : Int) + 3 → pX12_texts m4 k.toNat = pX12_texts m3 k.toNat := by
    intro k k1 k2
    rw [eT, ai_upd (by omega) k1, if_neg k2]
  have hup3 : pX12_texts m4 (db D + 1 + 4 * (p.length : Int) + 3).toNat = iI (pOps p + oLen ops) := by
    rw [eT, ai_upd (by omega) (by omega), if_pos rfl]
  have tb : TBw m m4 (db D) := fun k k1 k2 => (hup k k1 (by omega)).trans (hold k k1 (by omega))
  have mj4 : MJ D m4 j3 := fE.mj s1
  have tk4 : (pX12_token m4 = 59) ↔ dK D j3 = 59 := mj4.tk.sign (g := 59) (by decide)
  by_cases ck : dK D j3 = 59
  · have jn := jb.2.2 (by omega)
    obtain ⟨t2, et, ht2⟩ := z_expect (D := D) (c := c1) (g := 59) s2 ck jn jb.2.1.2
    rw [show f_X4_expect c1 t1 59 = some (1, c1, t2) from et, bind_s, if_neg (show ¬ ((1 : Int32), c1, t2).1 = 0 from (by decide : ¬ (1 : Int32) = 0)), if_pos (tk4.mpr ck)]
    refine wp_bind (wp_mono (z_emitC (c := c1) (s0 := (pLen p : Int)) (o := 22 + s0) (v := l) s6 (by omega) (o' := 20 + s0) (by unfold trO; rw [if_neg (by omega), if_neg (by omega), if_neg (by omega), if_neg (by omega), if_neg (by omega), if_neg (by omega), if_neg (by omega), if_neg (by omega), if_neg (by omega)]; omega)) ?_)
    rintro u ⟨u1, u2, u3⟩
    obtain ⟨k1, k2, k3, k4, k5, k6, k7⟩ := hK u
    have fE2 : FrE m4 (sX12_clauses (sX12_letters m4 (pX12_letters m ||| x3)) (iI ((p.length : Int) + 1))) := FrE.s_clauses (FrE.s_letters (FrE.refl m4) _) _
    have y1 : pX12_letters (sX12_clauses (sX12_letters m4 (pX12_letters m ||| x3)) (iI ((p.length : Int) + 1))) = pX12_letters m ||| x3 := rfl
    have y2 : pX12_clauses (sX12_clauses (sX12_letters m4 (pX12_letters m ||| x3)) (iI ((p.length : Int) + 1))) = iI ((p.length : Int) + 1) := rfl
    have y3 : pX12_texts (sX12_clauses (sX12_letters m4 (pX12_letters m ||| x3)) (iI ((p.length : Int) + 1))) = pX12_texts m4 := rfl
    have y4 : pX12_came (sX12_clauses (sX12_letters m4 (pX12_letters m ||| x3)) (iI ((p.length : Int) + 1))) = pX12_came m4 := rfl
    generalize sX12_clauses (sX12_letters m4 (pX12_letters m ||| x3)) (iI ((p.length : Int) + 1)) = m5 at fE2 y1 y2 y3 y4 ⊢
    obtain ⟨m6, e6, g1, g2⟩ := MJ.next (fE2.mj mj4)
    rw [nx_in jn] at g2
    rw [e6, bind_s]
    have len : ((p ++ [(s0, l, ops)]).length : Int) = (p.length : Int) + 1 := by rw [List.length_append]; show ((p.length + 1 : Nat) : Int) = _; omega
    have told : pX4_told u = pX12_letters m := by rw [u1.2.1, s5, h3.2.2.2]
    refine wp_some (Or.inl ⟨m6, j3 + 1, p ++ [(s0, l, ops)], a', by omega, rfl, ⟨g2, ht2, ⟨?_, ?_, ?_, ?_, ?_, ?_⟩, ⟨?_, ?_, ?_, ?_, ?_⟩, i5, by omega, ?_, ?_, ?_, ?_, ?_⟩, ?_, ?_, ?_⟩)
    · exact k1.trans (u1.1.trans s3.1)
    · exact k3.trans (u1.2.2.2.1.trans s4)
    · exact k4.trans (u1.2.2.2.2.trans hc.2.1)
    · show pX4_told (Kf u) = _
      rw [k7, told, g1.letters, y1]
    · exact k2.trans (u1.2.2.1.trans hc.1)
    · show pX4_size (Kf u) = _
      rw [k5, u2.2.1, pLen_a, oLen_a, oLen_1]
      congr 1
    · exact g1.opens.trans (fE2.opens.trans (fE.opens.trans ho))
    · exact g1.came.trans (y4.trans (eC.trans h3.2.2.1))
    · exact g1.text0.trans (fE2.text0.trans (fE.text0.trans h3.1))
    · rw [g1.clauses, y2, len]
    · rw [g1.written, fE2.written, fE.written, hw3, pOps_a]
    · rw [pLen_a]
      omega
    · refine WF_a p _ _ i8 ?_
      rcases hs with ⟨q1, q2, q3⟩ | ⟨q1, q2, q3⟩ | ⟨q1, q2, q3⟩
      · exact Or.inl ⟨q1, q2, Sh_mono i9 _ _ _ _ _ q3, trivial⟩
      · exact Or.inr (Or.inl ⟨q1, q2, Sh_mono i9 _ _ _ _ _ q3, trivial⟩)
      · exact Or.inr (Or.inr ⟨q1, q2, Sh_mono i9 _ _ _ _ _ q3, trivial⟩)
    · intro k k1 k2 k3
      rw [g1.letters, y1] at k3
      rw [tolds_a]
      rcases hx3 with ⟨q1, q2⟩ | ⟨q1, q2⟩
      · rw [if_pos q1]
        rw [q2] at k3
        rcases bitK_or (by omega) (by omega) k1 k2 k3 with e | e
        · exact if_pos e
        · by_cases ekl : k = l
          · exact if_pos ekl
          · rw [if_neg ekl]
            exact i9 k k1 k2 e
      · rw [if_neg q1]
        rw [q2, Int32.or_zero] at k3
        exact i9 k k1 k2 k3
    · rw [g1.texts, y3]
      refine LayT_a p _ 0 0 (LayT_cg i5.1 p 0 0 (by omega) (by omega) (fun k k1 k2 => (hup k k1 (by omega)).trans (hold k k1 (by omega))) i10) ?_
      rw [show (0 : Int) + (p.length : Int) = (p.length : Int) by omega, show 0 + pOps p = pOps p by omega]
      refine ⟨(hup _ (by omega) (by omega)).trans ht.1, fun g => (hup _ (by omega) (by omega)).trans (ht.2.1 g), (hup _ (by omega) (by omega)).trans ht.2.2, hup3, ?_, trivial⟩
      exact LayO_cg2 ops _ (fun k k1 k2 => hup k (by omega) (by omega)) s7.2.2.2.2.2
    · have hk2 := (LayK_a ops [(22 + s0, l)] (pLen p : Int)).mp u2.2.2.2
      rw [show pX4_code (Kf u, t2).1 = pX4_code u from k6]
      refine LayC_a p _ 0 (LayC_cg p 0 (by omega) (fun k k1 k2 => (u3 k k1 (by show k < (pLen p : Int); omega)).trans (hc.2.2 k k1 (by omega))) i11) ?_
      rw [show (0 : Int) + (pLen p : Int) = (pLen p : Int) by omega]
      refine ⟨hk2.1, ?_, trivial⟩
      rw [hk2.2.1]
      congr 2
      unfold trO
      rw [if_neg (by omega), if_neg (by omega), if_neg (by omega), if_neg (by omega), if_neg (by omega), if_neg (by omega), if_neg (by omega), if_neg (by omega), if_neg (by omega)]
      omega
    · rw [List.length_append]
      rfl
    · exact hv.trans (fE.v.trans (fE2.v.trans g1.v))
    · intro k k1 k2
      rw [g1.texts, y3]
      exact tb k k1 k2
  · rw [if_neg (fun x => ck (tk4.mp x))]
    refine wp_bind (wp_mono (z_expectN (D := D) (c := c1) (g := 59) s6.sz s2 ck kb (by omega) (by omega) s4) ?_)
    rintro u ⟨u1, u2⟩
    rw [if_pos u1]
    exact wp_some (Or.inr ⟨1, m4, j3, by omega, u2, mj4.place, rfl, hv.trans fE.v, tb⟩)
