-- layer 2: a clause
/-- what stands behind the head of a clause (reference) -/
def HdO (D : PD) (m m2 : BX12) (p : Prog) (a' : Int → Bool) (s0 l : Int) : Prop := FrV m m2 ∧ (pX12_opens m2 = iI 0 ∧ pX12_text0 m2 = iI (db D) ∧ pX12_clauses m2 = iI (p.length : Int) ∧ pX12_came m2 = cW a' ∧ pX12_letters m2 = pX12_letters m ∧ pX12_written m2 = iI (pOps p)) ∧ (pX12_texts m2 (db D + 1 + 4 * (p.length : Int)).toNat = iI s0 ∧ (s0 = 1 → pX12_texts m2 (db D + 1 + 4 * (p.length : Int) + 1).toNat = iI l) ∧ pX12_texts m2 (db D + 1 + 4 * (p.length : Int) + 2).toNat = iI (pOps p)) ∧ ∀ k : Int, 0 ≤ k → (k < db D + 1 + 4 * (p.length : Int) ∨ db D + 80 ≤ k) → pX12_texts m2 k.toNat = pX12_texts m k.toNat
theorem cl_PS {D : PD} {c c' : BX4} {t t1 : BX9} {m m2 : BX12} {j j2 : Int} {p : Prog} {a a' : Int → Bool} {s0 l : Int} (hI : CI D c t m j p a) (hcn : (p.length : Int) < 10) (hH : HdO D m m2 p a' s0 l) (hm : MJ D m2 j2) (ht : CJ D t1 j2) (hj : j < j2) (hc : pX4_open c' = pX4_open c ∧ pX4_told c' = pX4_told c ∧ pX4_fault c' = pX4_fault c ∧ pX4_size c' = pX4_size c ∧ pX4_code c' = pX4_code c) : PS (Dw D (pOps p) (pLen p : Int)) c' t1 m2 j2 0 [] [] := by
  obtain ⟨i1, i2, i3, i4, i5, i6, i7, i8, i9, i10, i11⟩ := hI
  obtain ⟨h1, h2, h3, h4⟩ := hH
  have jb := hm.n
  have hpn := pOps_nn p
  have hpv := pLen_v p
  refine ⟨hm, ht, ⟨hc.1.trans i3.1, by omega, by omega⟩, hc.2.2.1.trans i3.2.1, hc.2.1.trans (i3.2.2.2.1.trans h2.2.2.2.2.1.symm), ⟨by show 0 ≤ (pLen p : Int); omega, ?_, ?_, trivial⟩, ⟨h2.2.1, i5, hpn, ?_, ?_, trivial⟩, ?_⟩
  · show pX4_size c' = iI ((pLen p : Int) + oLen [])
    rw [hc.2.2.2.1, i3.2.2.2.2.2]
    congr 1
  · show (pLen p : Int) + 0 ≤ 300
    omega
  · show pX12_written m2 = iI (pOps p + 0)
    rw [h2.2.2.2.2.2]
    congr 1
    omega
  · show pOps p + 0 ≤ 300
    omega
  · show pOps p ≤ (pLen p : Int)
    omega
theorem cl_go {D : PD} {c c' : BX4} {t : BX9} {m m2 : BX12} {j j2 : Int} {p : Prog} {a a' : Int → Bool} {s0 l A B : Int} {x3 : Int32} {Kf : BX4 → BX4} {X : Option (Int32 × BX4 × BX9)} {x : Option (Int32 × BX12)} (hI : CI D c t m j p a) (hcn : (p.length : Int) < 10) (hH : HdO D m m2 p a' s0 l) (hj : j < j2) (hc : pX4_told c' = pX4_told c ∧ pX4_used c' = uW a' ∧ pX4_place c' = pX4_place c ∧ pX4_code c' = pX4_code c)
    (hX : Wp X (TopO (Dw D (pOps p) (pLen p : Int)) c' m2 j2 0 [] 0 0 A B x)) (hs : (s0 = 1 ∧ (0 ≤ l ∧ l < 8) ∧ A = 1 ∧ B = 0) ∨ ((s0 = 2 ∨ s0 = 3) ∧ l = 0 ∧ A = 1 ∧ B = 0) ∨ (s0 = 4 ∧ l = 0 ∧ A = 0 ∧ B = 1)) (hx3 : (s0 = 1 ∧ x3 = (1 : Int32) <<< (iI l &&& 31)) ∨ (s0 ≠ 1 ∧ x3 = 0))
    (hK : ∀ u : BX4, pX4_open (Kf u) = pX4_open u ∧ pX4_used (Kf u) = pX4_used u ∧ pX4_fault (Kf u) = pX4_fault u ∧ pX4_place (Kf u) = pX4_place u ∧ pX4_size (Kf u) = pX4_size u ∧ pX4_code (Kf u) = pX4_code u ∧ pX4_told (Kf u) = pX4_told u ||| x3) :
    Wp (X.bind (fun r => if r.1 = 0 then some (r.2.1, r.2.2) else (f_X4_expect r.2.1 r.2.2 59).bind (fun r2 => if r2.1 = 0 then some (r2.2.1, r2.2.2) else (f_X4_emit r2.2.1 (iI (20 + s0)) (iI l)).bind (fun u => some (Kf u, r2.2.2))))) (ClO D m j p (x.bind (fun r => f_X12_clause_b161 (iI (db D + 1 + 4 * (p.length : Int))) x3 r.1 r.2))) := by
  have i5 := hI.2.2.2.2.1
  have i7 := hI.2.2.2.2.2.2.1
  have hpn := pOps_nn p
  refine wp_bind (wp_mono hX ?_)
  have tbl : ∀ r : BX12, TBl m2 r (db D) (pOps p) → TBw m r (db D) := fun r hr k k1 k2 => (hr k k1 (by omega)).trans (hH.2.2.2 k k1 (Or.inl (by omega)))
  rintro r (⟨r1, m3, j3, ops, q1, q2, q3, q4, q5, q6, q7, q8, q9, q10⟩ | ⟨r1, f, m', j', f1, f2, f3, f4, f5, f6, f7⟩)
  · rw [if_neg (by rw [r1]; decide), q2, bind_s]
    have tl : bitK (pX4_told c') = bitK (pX12_letters m) := by rw [hc.1, hI.2.2.1.2.2.2.1]
    rw [tl] at q10
    have q7' : TBl m2 m3 (db D) (pOps p) := q7
    refine cl_tail (a' := a') (ops := ops) (s0 := s0) (l := l) (x3 := x3) (Kf := Kf) hI hcn q3 q4 (by omega) (by omega) (hH.1.trans q8.v) ⟨q8.text0.trans hH.2.1.2.1, q8.clauses.trans hH.2.1.2.2.1, q8.came.trans hH.2.1.2.2.2.1, q8.letters.trans hH.2.1.2.2.2.2.1⟩ ⟨q5.2.2.1.trans hc.2.1, (q5.2.2.2.2.trans hc.2.2.1).trans hI.2.2.1.2.2.1, fun k k1 k2 => (q6 k k1 k2).trans (by rw [hc.2.2.2])⟩ ⟨(q7' _ (by omega) (by omega)).trans hH.2.2.1.1, fun g => (q7' _ (by omega) (by omega)).trans (hH.2.2.1.2.1 g), (q7' _ (by omega) (by omega)).trans hH.2.2.1.2.2⟩ (fun k k1 k2 => (q7' k k1 (by omega)).trans (hH.2.2.2 k k1 (by omega))) ?_ hx3 hK
    rcases hs with ⟨g1, g2, g3, g4⟩ | ⟨g1, g2, g3, g4⟩ | ⟨g1, g2, g3, g4⟩
    · rw [g3, g4] at q10
      exact Or.inl ⟨g1, g2, q10⟩
    · rw [g3, g4] at q10
      exact Or.inr (Or.inl ⟨g1, g2, q10⟩)
    · rw [g3, g4] at q10
      exact Or.inr (Or.inr ⟨g1, g2, q10⟩)
  · rw [if_pos r1, f7, bind_s]
    refine wp_some (Or.inr ⟨f, m', j', f1, f3, f4, ?_, hH.1.trans f5.v, tbl m' f6⟩)
    unfold f_X12_clause_b161
    rw [if_neg (show ¬ (iI f, m').1 = 0 from iI_ne (b := 0) (by omega) (by omega) (by omega) (by omega) (by omega))]
/-- reference: a let behind its word -/
def letR (x1 x2_17 : Int32) (r_23 : BX12) : Option (Int32 × BX12) := (f_X12_letterOf r_23).bind (fun r_25 => if (0 : Int32) ≤ r_25 then (if ((((pX12_letters r_23) >>> (r_25 &&& 31)) &&& 1) : Int32) = 1 then (some (4, r_23)) else (g_gd (inB (x2_17 + 1) 6400) (g_lt (sX12_texts r_23 (upd (pX12_texts r_23) ((x2_17 + 1) : Int32).toNatClampNeg r_25)) (fun v0_29 => g_lt (((1 : Int32) <<< (r_25 &&& 31)) : Int32) (fun x3_30 => (f_X12_nextToken v0_29).bind (fun r_31 => f_X12_clause_b145 x1 x2_17 x3_30 r_31)))))) else (some (1, r_23)))
theorem cl_head {D : PD} {c : BX4} {t : BX9} {m : BX12} {j : Int} {p : Prog} {a : Int → Bool} {s0 : Int} (hI : CI D c t m j p a) (hcn : (p.length : Int) < 10) (jn : j < dn D) (hs : s0 = 1 ∨ s0 = 2 ∨ s0 = 3 ∨ s0 = 4) : ∃ m2 : BX12, f_X12_clause_b30 (iI s0) m = (if iI s0 = 1 then letR (iI s0) (iI (db D + 1 + 4 * (p.length : Int))) m2 else f_X12_clause_b145 (iI s0) (iI (db D + 1 + 4 * (p.length : Int))) 0 m2) ∧ MJ D m2 (j + 1) ∧ FrV m m2 ∧ (pX12_opens m2 = iI 0 ∧ pX12_text0 m2 = iI (db D) ∧ pX12_clauses m2 = iI (p.length : Int) ∧ pX12_came m2 = cW (upB a s0) ∧ pX12_letters m2 = pX12_letters m ∧ pX12_written m2 = iI (pOps p)) ∧ (pX12_texts m2 (db D + 1 + 4 * (p.length : Int)).toNat = iI s0 ∧ pX12_texts m2 (db D + 1 + 4 * (p.length : Int) + 2).toNat = iI (pOps p)) ∧ ∀ k : Int, 0 ≤ k → (k < db D + 1 + 4 * (p.length : Int) ∨ db D + 80 ≤ k) → pX12_texts m2 k.toNat = pX12_texts m k.toNat := by
  obtain ⟨i1, i2, i3, i4, i5, i6, i7, i8, i9, i10, i11⟩ := hI
  have hx2 : (pX12_text0 (sX12_came m (cW (upB a s0))) + 1 + 4 * pX12_clauses (sX12_came m (cW (upB a s0))) : Int32) = iI (db D + 1 + 4 * (p.length : Int)) := by
    show (pX12_text0 m + 1 + 4 * pX12_clauses m : Int32) = _
    rw [i4.2.2.1, i4.2.2.2.1, show (1 : Int32) = iI 1 from rfl, show (4 : Int32) = iI 4 from rfl, iI_mul, iI_add, iI_add]
  have hcl : ¬ pX12_clauses m = 10 := by
    rw [i4.2.2.2.1]
    exact iI_ne (b := 10) (by omega) (by omega) (by omega) (by omega) (by omega)
  have key : f_X12_clause_b30 (iI s0) m = (f_X12_nextToken (sX12_texts (sX12_texts (sX12_came m (cW (upB a s0))) (upd (pX12_texts m) (db D + 1 + 4 * (p.length : Int)).toNat (iI s0))) (upd (upd (pX12_texts m) (db D + 1 + 4 * (p.length : Int)).toNat (iI s0)) (db D + 1 + 4 * (p.length : Int) + 2).toNat (iI (pOps p))))).bind (fun r_23 => if iI s0 = 1 then letR (iI s0) (iI (db D + 1 + 4 * (p.length : Int))) r_23 else f_X12_clause_b145 (iI s0) (iI (db D + 1 + 4 * (p.length : Int))) 0 r_23) := by
    unfold f_X12_clause_b30
    rw [if_neg hcl, lt_e, i4.2.1, cW_or a hs, lt_e, lt_e, hx2, gd_t ((iI_inB (by omega) (by omega)).mpr (by omega)), lt_e, iI_cl (by omega) (by omega), lt_e, show (iI (db D + 1 + 4 * (p.length : Int)) + 2 : Int32) = iI (db D + 1 + 4 * (p.length : Int) + 2) from iI_add _ 2, gd_t ((iI_inB (by omega) (by omega)).mpr (by omega)), lt_e, iI_cl (by omega) (by omega)]
    have e1 : pX12_texts (sX12_texts (sX12_came m (cW (upB a s0))) (upd (pX12_texts (sX12_came m (cW (upB a s0)))) (db D + 1 + 4 * (p.length : Int)).toNat (iI s0))) = upd (pX12_texts m) (db D + 1 + 4 * (p.length : Int)).toNat (iI s0) := rfl
    have e2 : pX12_written (sX12_texts (sX12_came m (cW (upB a s0))) (upd (pX12_texts (sX12_came m (cW (upB a s0)))) (db D + 1 + 4 * (p.length : Int)).toNat (iI s0))) = iI (pOps p) := i4.2.2.2.2
    rw [e1, e2]
    rfl
  rw [key]
  have fE : FrE m (sX12_texts (sX12_texts (sX12_came m (cW (upB a s0))) (upd (pX12_texts m) (db D + 1 + 4 * (p.length : Int)).toNat (iI s0))) (upd (upd (pX12_texts m) (db D + 1 + 4 * (p.length : Int)).toNat (iI s0)) (db D + 1 + 4 * (p.length : Int) + 2).toNat (iI (pOps p)))) := FrE.s_texts (FrE.s_texts (FrE.s_came (FrE.refl m) _) _) _
  have y1 : pX12_clauses (sX12_texts (sX12_texts (sX12_came m (cW (upB a s0))) (upd (pX12_texts m) (db D + 1 + 4 * (p.length : Int)).toNat (iI s0))) (upd (upd (pX12_texts m) (db D + 1 + 4 * (p.length : Int)).toNat (iI s0)) (db D + 1 + 4 * (p.length : Int) + 2).toNat (iI (pOps p)))) = pX12_clauses m := rfl
  have y2 : pX12_came (sX12_texts (sX12_texts (sX12_came m (cW (upB a s0))) (upd (pX12_texts m) (db D + 1 + 4 * (p.length : Int)).toNat (iI s0))) (upd (upd (pX12_texts m) (db D + 1 + 4 * (p.length : Int)).toNat (iI s0)) (db D + 1 + 4 * (p.length : Int) + 2).toNat (iI (pOps p)))) = cW (upB a s0) := rfl
  have y3 : pX12_letters (sX12_texts (sX12_texts (sX12_came m (cW (upB a s0))) (upd (pX12_texts m) (db D + 1 + 4 * (p.length : Int)).toNat (iI s0))) (upd (upd (pX12_texts m) (db D + 1 + 4 * (p.length : Int)).toNat (iI s0)) (db D + 1 + 4 * (p.length : Int) + 2).toNat (iI (pOps p)))) = pX12_letters m := rfl
  have y4 : pX12_texts (sX12_texts (sX12_texts (sX12_came m (cW (upB a s0))) (upd (pX12_texts m) (db D + 1 + 4 * (p.length : Int)).toNat (iI s0))) (upd (upd (pX12_texts m) (db D + 1 + 4 * (p.length : Int)).toNat (iI s0)) (db D + 1 + 4 * (p.length : Int) + 2).toNat (iI (pOps p)))) = upd (upd (pX12_texts m) (db D + 1 + 4 * (p.length : Int)).toNat (iI s0)) (db D + 1 + 4 * (p.length : Int) + 2).toNat (iI (pOps p)) := rfl
  generalize sX12_texts (sX12_texts (sX12_came m (cW (upB a s0))) (upd (pX12_texts m) (db D + 1 + 4 * (p.length : Int)).toNat (iI s0))) (upd (upd (pX12_texts m) (db D + 1 + 4 * (p.length : Int)).toNat (iI s0)) (db D + 1 + 4 * (p.length : Int) + 2).toNat (iI (pOps p))) = m1 at fE y1 y2 y3 y4 ⊢
  obtain ⟨m2, e2, g1, g2⟩ := MJ.next (fE.mj i1)
  rw [nx_in jn] at g2
  rw [e2, bind_s]
  refine ⟨m2, rfl, g2, fE.v.trans g1.v, ⟨g1.opens.trans (fE.opens.trans i4.1), g1.text0.trans (fE.text0.trans i4.2.2.1), g1.clauses.trans (y1.trans i4.2.2.2.1), g1.came.trans y2, g1.letters.trans y3, g1.written.trans (fE.written.trans i4.2.2.2.2)⟩, ⟨?_, ?_⟩, fun k k1 k2 => ?_⟩
  · rw [g1.texts, y4, ai_upd (by omega) (by omega), if_neg (by omega), ai_upd (by omega) (by omega), if_pos rfl]
  · rw [g1.texts, y4, ai_upd (by omega) (by omega), if_pos rfl]
  · rw [g1.texts, y4, ai_upd (by omega) k1, if_neg (by omega), ai_upd (by omega) k1, if_neg (by omega)]
theorem and1_01 (x : Int32) : x &&& 1 = 0 ∨ x &&& 1 = 1 := by
  rw [i32_nat x, show (1 : Int32) = iI 1 from rfl, iI_and1]
  have h : ((x.toBitVec.toNat : Int) % 2) = 0 ∨ ((x.toBitVec.toNat : Int) % 2) = 1 := by omega
  rcases h with h | h <;> rw [h]
  · exact Or.inl rfl
  · exact Or.inr rfl
