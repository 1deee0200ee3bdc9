-- layer 2: what sum promises; the end of a sum
def SumOut (D : PD) (c : BX4) (m : BX12) (j o : Int) (E : OpL) (Q : Int → Int) (h : Int) (nv nb : Int) (r : Int32 × BX4 × BX9) : Prop :=
  (r.1 = 1 ∧ ∃ (m' : BX12) (j' : Int) (ops : OpL) (st : Nat) (Q2 : Int → Int) (l : Nat) (E' : OpL), j < j' ∧ CJ D r.2.2 j' ∧ (l ≤ 2 ∧ (∀ i : Int, 0 ≤ i → i < h → Q2 i = Q i) ∧ (∀ i : Int, h ≤ i → i < h + (l : Int) → 3 ≤ Q2 i ∧ Q2 i < 7) ∧ E' ++ popL Q2 h l = E ++ ops) ∧ Beh D m m' j' Q2 (h + (l : Int)) o E' ∧ WC r.2.1 (ds D) (E ++ ops) ∧ FrZ c r.2.1 ∧ CBl c r.2.1 (ds D) ∧ oLen ops ≤ j' - j ∧ Sh (bitK (pX4_told c)) ops nv nb (nv + 1) nb ∧ (st : Int) ≤ j' - j ∧ Go m m' st ∧ (dK D j' ≠ 42 ∧ dK D j' ≠ 43 ∧ dK D j' ≠ 45 ∧ dK D j' ≠ 47)) ∨
  (r.1 = 0 ∧ Flt D m j r)
def SumS (D : PD) (X : BX4 → BX9 → Option (Int32 × BX4 × BX9)) (o : Int) : Prop := ∀ (c : BX4) (t : BX9) (m : BX12) (j : Int) (E : OpL) (Q : Int → Int) (h : Int) (nv nb : Int), PS D c t m j o E E → pX12_opens m = iI o → pX12_isWhole m = iI 0 → PI m Q h → (∀ i : Int, 0 ≤ i → i < h → 0 ≤ Q i ∧ Q i ≤ 100) → (0 < h → 40 ≤ Q (h - 1)) → h ≤ 3 * o → ds D + oLen E ≤ j → (0 ≤ nv ∧ 0 ≤ nb ∧ nv + nb ≤ 3 * o + 3) → Wp (X c t) (SumOut D c m j o E Q h nv nb)
theorem popL_len (Q : Int → Int) (h : Int) : ∀ l : Nat, oLen (popL Q h l) = (l : Int)
  | 0 => rfl
  | l + 1 => by
    show oLen ((Q (h + (l : Int)), 0) :: popL Q h l) = _
    rw [oLen_c, popL_len Q h l]
    omega
/-- what waits on the pile is settled -/
theorem z_settled {D : PD} {m : BX12} {Q2 : Int → Int} {h : Int} {l : Nat} {E' E : OpL} (h0 : 0 ≤ h) (hp : PI m Q2 (h + (l : Int))) (hN : ∀ i : Int, h ≤ i → i < h + (l : Int) → 3 ≤ Q2 i ∧ Q2 i < 7) (hT : 0 < h → 40 ≤ Q2 (h - 1) ∧ Q2 (h - 1) ≤ 100) (hw : WR m (db D) (dw D) E') (hE : E' ++ popL Q2 h l = E) (hl : dw D + oLen E ≤ 300) : Wp (f_X12_settle m 3) (fun r => FrJ m r ∧ PI r Q2 h ∧ pX12_opens r = pX12_opens m ∧ pX12_isWhole r = pX12_isWhole m ∧ WR r (db D) (dw D) E ∧ TBl m r (db D) (dw D)) := by
  have hlen : oLen E' + (l : Int) = oLen E := by rw [← hE, oLen_a, popL_len]
  rw [← hE]
  exact z_settle (x1 := 3) (by omega) (by omega) (fun g => ⟨Or.inl (hT g).1, by have := hT g; omega, (hT g).2⟩) h0 hp (fun i i1 i2 => by have := hN i i1 i2; omega) hw (by omega)
theorem z_b54 {m : BX12} {Q : Int → Int} {h q : Int} (hp : PI m Q h) (hB : ∀ i : Int, 0 ≤ i → i < h → 0 ≤ Q i ∧ Q i ≤ 100) (q1 : 0 ≤ q) (q2 : q < h) (q3 : 40 ≤ Q q) : f_X12_goesOn_b54 m = some 1 := by
  have hb := hp.2.1
  unfold f_X12_goesOn_b54 f_X12_hasParen
  rw [show (0 : Int32) = iI 0 from rfl, z_paren1 hp hB q2 q3 q.toNat 0 (by omega) (by omega) fU (by rw [fU_v]; omega), bind_s, if_neg (by decide)]
theorem z_b540 {m : BX12} {Q : Int → Int} {h : Int} (hp : PI m Q h) (hB : ∀ i : Int, 0 ≤ i → i < h → 0 ≤ Q i ∧ Q i < 40) : f_X12_goesOn_b54 m = some 0 := by
  have hb := hp.2.1
  unfold f_X12_goesOn_b54 f_X12_hasParen
  rw [show (0 : Int32) = iI 0 from rfl, z_paren0 hp hB h.toNat 0 (by omega) (by omega) fU (by rw [fU_v]; omega), bind_s]
  rfl
/-- behind a sum within a bracket comes what can't come there -/
theorem stop_wrong {D : PD} {m : BX12} {j : Int} {Q2 : Int → Int} {h : Int} {l : Nat} {E' E : OpL} (hj : MJ D m j) (hi : pX12_isWhole m = iI 1) (h1 : 1 ≤ h) (hp : PI m Q2 (h + (l : Int))) (hB : ∀ i : Int, 0 ≤ i → i < h → 0 ≤ Q2 i ∧ Q2 i ≤ 100) (hN : ∀ i : Int, h ≤ i → i < h + (l : Int) → 3 ≤ Q2 i ∧ Q2 i < 7) (hT : 40 ≤ Q2 (h - 1) ∧ Q2 (h - 1) ≤ 44) (hw : WR m (db D) (dw D) E') (hE : E' ++ popL Q2 h l = E) (hl : dw D + oLen E ≤ 300) (nj : dK D j ≠ 42 ∧ dK D j ≠ 43 ∧ dK D j ≠ 45 ∧ dK D j ≠ 47) (k41 : dK D j = 41 → Q2 (h - 1) = 41 ∨ Q2 (h - 1) = 42) (k44 : dK D j = 44 → Q2 (h - 1) = 40 ∨ Q2 (h - 1) = 43 ∨ Q2 (h - 1) = 44) : ∃ m', Stop m 1 m' 1 ∧ pX12_place m' = iI (dS D j) ∧ FrQ m m' ∧ TBl m m' (db D) (dw D) := by
  obtain ⟨r, e, r1, r2, r3, r4, r5, r6⟩ := z_settled (D := D) (by omega) hp hN (fun _ => ⟨hT.1, by omega⟩) hw hE hl
  have hg := z_goesOnM hj.tk
  rw [if_neg (by omega)] at hg
  have hb2 := r2.2.1
  refine ⟨r, ?_, (hj.cg r1).place, r1.q, r6⟩
  by_cases ck : dK D j = 44 ∨ dK D j = 41
  · rw [if_pos ck, z_b54 hp (fun i i1 i2 => by
      by_cases ci : i < h
      · exact hB i i1 ci
      · have := hN i (by omega) i2
        omega) (q := h - 1) (by omega) (by omega) hT.1] at hg
    refine stop_behind (f := 1) (by omega) (by omega) hi hg ?_
    unfold f_X12_behindOne
    have ne : ∀ g : Int, SgK g → dK D j ≠ g → ¬ pX12_token m = iI g := fun g hg hn he => hn ((hj.tk.sign hg).mp he)
    rw [lt_e, if_neg (show ¬ pX12_token m = 43 from ne 43 (by decide) nj.2.1), if_neg (show ¬ pX12_token m = 45 from ne 45 (by decide) nj.2.2.1), if_neg (show ¬ pX12_token m = 42 from ne 42 (by decide) nj.1), if_neg (show ¬ pX12_token m = 47 from ne 47 (by decide) nj.2.2.2), e, bind_s, r2.1, show (iI h - 1 : Int32) = iI (h - 1) from iI_sub h 1, gd_t ((iI_inB (by omega) (by omega)).mpr (by omega)), lt_e, iI_cl (by omega) (by omega), r2.2.2 (h - 1) (by omega) (by omega)]
    rcases ck with ck | ck
    · have tk : pX12_token m = iI 44 := (hj.tk.sign (by decide)).mpr ck
      have := k44 ck
      rw [if_pos (show pX12_token m = 44 from tk), if_neg (show ¬ iI (Q2 (h - 1)) = 41 from iI_ne (b := 41) (by omega) (by omega) (by omega) (by omega) (by omega)), if_neg (show ¬ iI (Q2 (h - 1)) = 42 from iI_ne (b := 42) (by omega) (by omega) (by omega) (by omega) (by omega))]
      rfl
    · rw [if_neg (show ¬ pX12_token m = 44 from ne 44 (by decide) (by omega))]
      rcases k41 ck with c1 | c1
      · rw [c1, if_pos (show iI 41 = 41 from rfl)]
        rfl
      · rw [c1, if_neg (show ¬ iI 42 = 41 by decide), if_pos (show iI 42 = 42 from rfl)]
        rfl
  · rw [if_neg ck] at hg
    intro F
    show f_X12_summed_b10B (f_X12_summed_b10 F) m = _
    unfold f_X12_summed_b10B
    rw [hi, if_neg (show ¬ iI 1 = 0 by decide), hg, bind_s, if_pos rfl, e, bind_s, r2.1, if_neg (show ¬ iI h ≤ 0 from fun x => absurd ((iI_le (b := 0) (by omega) (by omega) (by omega) (by omega)).mp x) (by omega))]
    rfl
