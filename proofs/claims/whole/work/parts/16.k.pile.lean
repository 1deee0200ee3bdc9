-- layer 2: settling, what goes on; the class's enter and expect
theorem z_whole {m : BX12} {b w0 : Int} {Q : Int → Int} {hq o : Int} {E : OpL} {k : Nat} (hQ : 0 < hq → Q (hq - 1) ≠ 2 ∧ 0 ≤ Q (hq - 1) ∧ Q (hq - 1) ≤ 100) (hq0 : 0 ≤ hq) (hp : PI m Q (hq + (k : Int))) (hN : ∀ i : Int, hq ≤ i → i < hq + (k : Int) → Q i = 2) (ho : pX12_opens m = iI o) (hw : WR m b w0 E) (hl : w0 + oLen E + (k : Int) ≤ 300) : Wp (f_X12_whole m) (fun r => FrJ m r ∧ PI r Q hq ∧ pX12_opens r = iI (o - (k : Int)) ∧ pX12_isWhole r = iI 1 ∧ WR r b w0 (E ++ negs k) ∧ TBl m r b w0) := by
  unfold f_X12_whole
  refine wp_lt ?_
  have hb := hp.2.1
  refine wp_mono (z_wholeLp (m := sX12_isWhole m 1) hQ hq0 k o E (hp.cg rfl rfl) hN ho (hw.cg rfl rfl rfl) hl fU (by rw [fU_v]; omega)) ?_
  rintro r ⟨r1, r2, r3, r4, r5, r6⟩
  exact ⟨(FrJ.s_isWhole (FrJ.refl m) _).trans r1, r2, r3, r4, r5, (TBl.of rfl).trans r6⟩
def popL (Q : Int → Int) (h : Int) : Nat → OpL
  | 0 => []
  | r + 1 => (Q (h + (r : Int)), 0) :: popL Q h r
theorem z_settleLp {b w0 x1 : Int} (x0 : 0 ≤ x1) (x2 : x1 ≤ 40) {Q : Int → Int} {h : Int} (hQ : 0 < h → (40 ≤ Q (h - 1) ∨ Q (h - 1) < x1) ∧ 0 ≤ Q (h - 1) ∧ Q (h - 1) ≤ 100) (h0 : 0 ≤ h) : ∀ (k : Nat) (m : BX12) (E : OpL), PI m Q (h + (k : Int)) → (∀ i : Int, h ≤ i → i < h + (k : Int) → x1 ≤ Q i ∧ Q i < 40) → WR m b w0 E → w0 + oLen E + (k : Int) ≤ 300 → ∀ F : Nat, k < F → Wp (f_X12_settle_b0 F (iI x1, m)) (fun r => FrJ m r ∧ PI r Q h ∧ pX12_opens r = pX12_opens m ∧ pX12_isWhole r = pX12_isWhole m ∧ WR r b w0 (E ++ popL Q h k) ∧ TBl m r b w0) := by
  intro k
  induction k with
  | zero =>
    intro m E hp hN hw hl F hF
    obtain ⟨F, rfl⟩ : ∃ F', F = F' + 1 := ⟨F - 1, by omega⟩
    rw [show h + ((0 : Nat) : Int) = h by omega] at hp
    have hp' := hp
    obtain ⟨h1, h2, h3⟩ := hp
    show Wp (f_X12_settle_b0B (f_X12_settle_b0 F) (iI x1) m) _
    unfold f_X12_settle_b0B
    have fin : Wp (some m) (fun r => FrJ m r ∧ PI r Q h ∧ pX12_opens r = pX12_opens m ∧ pX12_isWhole r = pX12_isWhole m ∧ WR r b w0 (E ++ popL Q h 0) ∧ TBl m r b w0) := by
      refine wp_some ⟨FrJ.refl m, hp', rfl, rfl, ?_, TBl.of rfl⟩
      rw [show E ++ popL Q h 0 = E from List.append_nil E]
      exact hw
    rw [h1]
    by_cases c : h ≤ 0
    · rw [if_pos (show iI h ≤ 0 from (iI_le (b := 0) (by omega) (by omega) (by omega) (by omega)).mpr c)]
      exact fin
    · have hin : inB (iI (h - 1)) 160 := (iI_inB (by omega) (by omega)).mpr (by omega)
      have := hQ (by omega)
      rw [if_neg (show ¬ iI h ≤ 0 from fun e => c ((iI_le (b := 0) (by omega) (by omega) (by omega) (by omega)).mp e)), show (iI h - 1 : Int32) = iI (h - 1) from iI_sub h 1]
      refine wp_gd hin ?_
      rw [iI_cl (by omega) (by omega), h3 (h - 1) (by omega) (by omega)]
      by_cases c4 : 40 ≤ Q (h - 1)
      · rw [if_pos (show 40 ≤ iI (Q (h - 1)) from (iI_le (a := 40) (by omega) (by omega) (by omega) (by omega)).mpr c4)]
        exact fin
      · rw [if_neg (show ¬ 40 ≤ iI (Q (h - 1)) from fun e => c4 ((iI_le (a := 40) (by omega) (by omega) (by omega) (by omega)).mp e)), gd_t hin, if_pos ((iI_lt (by omega) (by omega) (by omega) (by omega)).mpr (by omega))]
        exact fin
  | succ k ih =>
    intro m E hp hN hw hl F hF
    obtain ⟨F, rfl⟩ : ∃ F', F = F' + 1 := ⟨F - 1, by omega⟩
    obtain ⟨h1, h2, h3⟩ := hp
    show Wp (f_X12_settle_b0B (f_X12_settle_b0 F) (iI x1) m) _
    unfold f_X12_settle_b0B
    have e1 : h + ((k + 1 : Nat) : Int) - 1 = h + (k : Int) := by omega
    have hin : inB (iI (h + (k : Int))) 160 := (iI_inB (by omega) (by omega)).mpr (by omega)
    have hv := hN (h + (k : Int)) (by omega) (by omega)
    rw [h1, if_neg (show ¬ iI (h + ((k + 1 : Nat) : Int)) ≤ 0 from fun e => absurd ((iI_le (b := 0) (by omega) (by omega) (by omega) (by omega)).mp e) (by omega)), show (iI (h + ((k + 1 : Nat) : Int)) - 1 : Int32) = iI (h + (k : Int)) by rw [← e1]; exact iI_sub _ 1]
    refine wp_gd hin ?_
    rw [iI_cl (by omega) (by omega), h3 (h + (k : Int)) (by omega) (by omega), if_neg (show ¬ 40 ≤ iI (Q (h + (k : Int))) from fun e => absurd ((iI_le (a := 40) (by omega) (by omega) (by omega) (by omega)).mp e) (by omega)), gd_t hin, if_neg (fun e => absurd ((iI_lt (by omega) (by omega) (by omega) (by omega)).mp e) (by omega))]
    refine wp_lt (wp_lt ?_)
    have f1 : FrJ m (sX12_piled m (iI (h + (k : Int)))) := FrJ.s_piled (FrJ.refl m) _
    have w1 : WR (sX12_piled m (iI (h + (k : Int)))) b w0 E := hw.cg rfl rfl rfl
    have p1 : PI (sX12_piled m (iI (h + (k : Int)))) Q (h + (k : Int)) := ⟨rfl, by omega, fun i i1 i2 => h3 i i1 (by omega)⟩
    have v1 : pX12_pile (sX12_piled m (iI (h + (k : Int)))) (h + (k : Int)).toNat = iI (Q (h + (k : Int))) := h3 (h + (k : Int)) (by omega) (by omega)
    have o1 : pX12_opens (sX12_piled m (iI (h + (k : Int)))) = pX12_opens m := rfl
    have i1 : pX12_isWhole (sX12_piled m (iI (h + (k : Int)))) = pX12_isWhole m := rfl
    have t1 : pX12_texts (sX12_piled m (iI (h + (k : Int)))) = pX12_texts m := rfl
    generalize sX12_piled m (iI (h + (k : Int))) = m1 at f1 w1 p1 o1 i1 t1 v1
    rw [p1.1]
    refine wp_gd hin ?_
    rw [iI_cl (by omega) (by omega), v1]
    refine wp_bind (wp_mono (z_emitM (o := Q (h + (k : Int))) (v := 0) w1 (by omega)) ?_)
    rintro r ⟨r1, r2, r3⟩
    refine wp_mono (ih r (E ++ [(Q (h + (k : Int)), 0)]) (p1.cg r1.piled r1.pile) (fun i i1 i2 => hN i i1 (by omega)) r2 (by rw [oLen_a, oLen_1]; omega) F (by omega)) ?_
    rintro q ⟨q1, q2, q3, q4, q5, q6⟩
    refine ⟨f1.trans (r1.j.trans q1), q2, q3.trans (r1.opens.trans o1), q4.trans (r1.isWhole.trans i1), ?_, (TBl.of t1).trans (r3.trans q6)⟩
    rw [show E ++ popL Q h (k + 1) = E ++ [(Q (h + (k : Int)), 0)] ++ popL Q h k by rw [List.append_assoc]; rfl]
    exact q5
theorem z_settle {m : BX12} {b w0 x1 : Int} (x0 : 0 ≤ x1) (x2 : x1 ≤ 40) {Q : Int → Int} {h : Int} {E : OpL} {k : Nat} (hQ : 0 < h → (40 ≤ Q (h - 1) ∨ Q (h - 1) < x1) ∧ 0 ≤ Q (h - 1) ∧ Q (h - 1) ≤ 100) (h0 : 0 ≤ h) (hp : PI m Q (h + (k : Int))) (hN : ∀ i : Int, h ≤ i → i < h + (k : Int) → x1 ≤ Q i ∧ Q i < 40) (hw : WR m b w0 E) (hl : w0 + oLen E + (k : Int) ≤ 300) : Wp (f_X12_settle m (iI x1)) (fun r => FrJ m r ∧ PI r Q h ∧ pX12_opens r = pX12_opens m ∧ pX12_isWhole r = pX12_isWhole m ∧ WR r b w0 (E ++ popL Q h k) ∧ TBl m r b w0) := by
  have hb := hp.2.1
  exact z_settleLp x0 x2 hQ h0 k m E hp hN hw hl fU (by rw [fU_v]; omega)
theorem z_paren1 {m : BX12} {Q : Int → Int} {h q : Int} (hp : PI m Q h) (hB : ∀ i : Int, 0 ≤ i → i < h → 0 ≤ Q i ∧ Q i ≤ 100) (q2 : q < h) (q3 : 40 ≤ Q q) : ∀ (d : Nat) (i : Int), (d : Int) + i = q → 0 ≤ i → ∀ F : Nat, d < F → f_X12_hasParen_b2 m F (iI i) = some 1 := by
  obtain ⟨h1, h2, h3⟩ := hp
  intro d
  induction d with
  | zero =>
    intro i hd i0 F hF
    obtain ⟨F, rfl⟩ : ∃ F', F = F' + 1 := ⟨F - 1, by omega⟩
    obtain rfl : i = q := by omega
    show f_X12_hasParen_b2B m (f_X12_hasParen_b2 m F) (iI i) = _
    unfold f_X12_hasParen_b2B
    have := hB i i0 q2
    rw [h1, if_neg (fun e => absurd ((iI_le (by omega) (by omega) (by omega) (by omega)).mp e) (by omega)), gd_t ((iI_inB (by omega) (by omega)).mpr (by omega)), iI_cl i0 (by omega), h3 i i0 q2, if_neg (show ¬ iI (Q i) < 40 from fun e => absurd ((iI_lt (b := 40) (by omega) (by omega) (by omega) (by omega)).mp e) (by omega))]
  | succ d ih =>
    intro i hd i0 F hF
    obtain ⟨F, rfl⟩ : ∃ F', F = F' + 1 := ⟨F - 1, by omega⟩
    show f_X12_hasParen_b2B m (f_X12_hasParen_b2 m F) (iI i) = _
    unfold f_X12_hasParen_b2B
    have := hB i i0 (by omega)
    rw [h1, if_neg (fun e => absurd ((iI_le (by omega) (by omega) (by omega) (by omega)).mp e) (by omega)), gd_t ((iI_inB (by omega) (by omega)).mpr (by omega)), iI_cl i0 (by omega), h3 i i0 (by omega)]
    by_cases c : Q i < 40
    · rw [if_pos (show iI (Q i) < 40 from (iI_lt (b := 40) (by omega) (by omega) (by omega) (by omega)).mpr c), lt_e, show (iI i + 1 : Int32) = iI (i + 1) from iI_add i 1]
      exact ih (i + 1) (by omega) (by omega) F (by omega)
    · rw [if_neg (show ¬ iI (Q i) < 40 from fun e => c ((iI_lt (b := 40) (by omega) (by omega) (by omega) (by omega)).mp e))]
theorem z_paren0 {m : BX12} {Q : Int → Int} {h : Int} (hp : PI m Q h) (hB : ∀ i : Int, 0 ≤ i → i < h → 0 ≤ Q i ∧ Q i < 40) : ∀ (d : Nat) (i : Int), (d : Int) + i = h → 0 ≤ i → ∀ F : Nat, d < F → f_X12_hasParen_b2 m F (iI i) = some 0 := by
  obtain ⟨h1, h2, h3⟩ := hp
  intro d
  induction d with
  | zero =>
    intro i hd i0 F hF
    obtain ⟨F, rfl⟩ : ∃ F', F = F' + 1 := ⟨F - 1, by omega⟩
    show f_X12_hasParen_b2B m (f_X12_hasParen_b2 m F) (iI i) = _
    unfold f_X12_hasParen_b2B
    rw [h1, if_pos ((iI_le (by omega) (by omega) (by omega) (by omega)).mpr (by omega))]
  | succ d ih =>
    intro i hd i0 F hF
    obtain ⟨F, rfl⟩ : ∃ F', F = F' + 1 := ⟨F - 1, by omega⟩
    show f_X12_hasParen_b2B m (f_X12_hasParen_b2 m F) (iI i) = _
    unfold f_X12_hasParen_b2B
    have := hB i i0 (by omega)
    rw [h1, if_neg (fun e => absurd ((iI_le (by omega) (by omega) (by omega) (by omega)).mp e) (by omega)), gd_t ((iI_inB (by omega) (by omega)).mpr (by omega)), iI_cl i0 (by omega), h3 i i0 (by omega), if_pos (show iI (Q i) < 40 from (iI_lt (b := 40) (by omega) (by omega) (by omega) (by omega)).mpr this.2), lt_e, show (iI i + 1 : Int32) = iI (i + 1) from iI_add i 1]
    exact ih (i + 1) (by omega) (by omega) F (by omega)
/-- what the reference does behind a whole one: a joining sign goes on; so do , and ) within a bracket -/
theorem z_goesOnM {m : BX12} {k v : Int} (h : TKM m k v) : f_X12_goesOn m = if k = 43 ∨ k = 45 ∨ k = 42 ∨ k = 47 then some 1 else if k = 44 ∨ k = 41 then f_X12_goesOn_b54 m else some 0 := by
  unfold f_X12_goesOn
  have e : ∀ g : Int, SgK g → (pX12_token m = iI g ↔ k = g) := fun g hg => h.sign hg
  have e1 : (pX12_token m = 43) ↔ k = 43 := e 43 (by decide)
  have e2 : (pX12_token m = 45) ↔ k = 45 := e 45 (by decide)
  have e3 : (pX12_token m = 42) ↔ k = 42 := e 42 (by decide)
  have e4 : (pX12_token m = 47) ↔ k = 47 := e 47 (by decide)
  have e5 : (pX12_token m = 44) ↔ k = 44 := e 44 (by decide)
  have e6 : (pX12_token m = 41) ↔ k = 41 := e 41 (by decide)
  simp only [e1, e2, e3, e4, e5, e6]
  by_cases c : k = 43 ∨ k = 45 ∨ k = 42 ∨ k = 47
  · rw [if_pos c]
    rcases c with c | c | c | c
    · rw [if_pos c]
    · rw [if_neg (by omega), if_pos c]
    · rw [if_neg (by omega), if_neg (by omega), if_pos c]
    · rw [if_neg (by omega), if_neg (by omega), if_neg (by omega), if_pos c]
  · rw [if_neg c, if_neg (by omega), if_neg (by omega), if_neg (by omega), if_neg (by omega)]
    by_cases d : k = 44
    · rw [if_pos d, if_pos (Or.inl d)]
    · rw [if_neg d]
      by_cases d2 : k = 41
      · rw [if_pos d2, if_pos (Or.inr d2)]
      · rw [if_neg d2, if_neg (by omega)]
