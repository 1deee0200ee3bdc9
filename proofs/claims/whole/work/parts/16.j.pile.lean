-- layer 2: the reference's pile; both sides at a token
theorem FrG.j {m r : BX12} (h : FrG m r) : FrJ m r := ⟨h.w, h.h, h.taped, h.fault, h.faultPlace, h.a, h.image, h.tape, h.text0, h.clauses, h.came, h.letters, h.at, h.place, h.token, h.number, h.word⟩
theorem FrJ.q {m r : BX12} (h : FrJ m r) : FrQ m r := ⟨h.w, h.h, h.taped, h.fault, h.faultPlace, h.a, h.image, h.tape, h.text0, h.clauses, h.came, h.letters⟩
def nx (n j : Int) : Int := if j < n then j + 1 else n
def AtJ (m : BX12) (Z : Int → Int) (T n : Int) (p S K V : Int → Int) (j : Int) : Prop := TX m T Z ∧ TS Z T n p S K V ∧ (0 ≤ j ∧ j ≤ n) ∧ pX12_at m = iI (if j < n then p (j + 1) else T) ∧ pX12_place m = iI (S j) ∧ TKM m (K j) (V j)
theorem TKM.cg {m r : BX12} {k v : Int} (h : TKM m k v) (h1 : pX12_token r = pX12_token m) (h2 : pX12_number r = pX12_number m) (h3 : pX12_word r = pX12_word m) : TKM r k v := by
  unfold TKM at h ⊢
  rw [h1, h2, h3]
  exact h
theorem AtJ.cg {m r : BX12} {Z : Int → Int} {T n : Int} {p S K V : Int → Int} {j : Int} (h : AtJ m Z T n p S K V j) (f : FrJ m r) : AtJ r Z T n p S K V j := by
  obtain ⟨h1, h2, h3, h4, h5, h6⟩ := h
  exact ⟨⟨h1.1, f.taped.trans h1.2.1, by rw [f.tape]; exact h1.2.2.1, h1.2.2.2⟩, h2, h3, f.at.trans h4, f.place.trans h5, h6.cg f.token f.number f.word⟩
theorem AtJ.next {m : BX12} {Z : Int → Int} {T n : Int} {p S K V : Int → Int} {j : Int} (h : AtJ m Z T n p S K V j) : Wp (f_X12_nextToken m) (fun r => FrK m r ∧ AtJ r Z T n p S K V (nx n j)) := by
  obtain ⟨h1, h2, h3, h4, h5, h6⟩ := h
  obtain ⟨g1, g2, g3, g4, g5, g6⟩ := h2
  have hT := h1.1
  unfold nx
  by_cases c : j < n
  · rw [if_pos c] at h4 ⊢
    by_cases d : j + 1 < n
    · obtain ⟨q1, q2, q3⟩ := g3 (j + 1) (by omega) d
      refine wp_mono (z_nextToken q1 q3 h1 h4) ?_
      rintro r ⟨r1, r2, r3, r4⟩
      exact ⟨r1, r1.tx h1, ⟨g1, g2, g3, g4, g5, g6⟩, by omega, by rw [if_pos d]; exact r2, r3, r4⟩
    · have e : j + 1 = n := by omega
      rw [e] at h4 ⊢
      refine wp_mono (z_nextToken (s := T) (e := T) (k := -1) (v := V n) g4.1 ⟨g4.2.1, g4.2.2, Or.inl ⟨rfl, rfl, rfl⟩⟩ h1 h4) ?_
      rintro r ⟨r1, r2, r3, r4⟩
      exact ⟨r1, r1.tx h1, ⟨g1, g2, g3, g4, g5, g6⟩, by omega, by rw [if_neg (by omega)]; exact r2, by rw [g5]; exact r3, by rw [g6]; exact r4⟩
  · rw [if_neg c] at h4 ⊢
    refine wp_mono (z_nextToken (s := T) (e := T) (k := -1) (v := V n) hT.1 ⟨by omega, fun i i1 i2 => by omega, Or.inl ⟨rfl, rfl, rfl⟩⟩ h1 h4) ?_
    rintro r ⟨r1, r2, r3, r4⟩
    exact ⟨r1, r1.tx h1, ⟨g1, g2, g3, g4, g5, g6⟩, by omega, by rw [if_neg (by omega)]; exact r2, by rw [g5]; exact r3, by rw [g6]; exact r4⟩
theorem TKM.kb {m : BX12} {k v : Int} (h : TKM m k v) : -6 ≤ k ∧ k < 2147483648 := by
  rcases h with ⟨h1, _⟩ | ⟨h1, _⟩ | ⟨_, w, _, h2, h1⟩ | ⟨h1, _⟩ | ⟨h1, _⟩ | ⟨h1, _⟩ | ⟨_, h1, _⟩
  · omega
  · omega
  · rcases h1 with ⟨_, _, _, h5⟩ | ⟨h5, _⟩
    · rw [h5]
      split <;> omega
    · omega
  · have := h1.bd
    omega
  · omega
  · omega
  · omega
theorem CT.adv {t : BX9} {n : Int} {S K V : Int → Int} {j : Int} (h : CT t n S K V j) (hn : n ≤ 300) : Wp (f_X9_advance t) (fun r => CT r n S K V (nx n j)) := by
  obtain ⟨h1, h2, h3, _, _, _, h7⟩ := h
  have : 0 ≤ nx n j ∧ nx n j ≤ n := by
    unfold nx
    split <;> omega
  exact z_advance h1 h2 this hn h7
/-- the class refuses -/
def SzB (c : BX4) : Prop := ∃ s : Int, (0 ≤ s ∧ s ≤ 300) ∧ pX4_size c = iI s
theorem WC.sz {c : BX4} {s0 : Int} {E : OpL} (h : WC c s0 E) : SzB c := ⟨s0 + oLen E, by have := h.1; have := h.2.2.1; have := oLen_nn E; omega, h.2.1⟩
def FA (c : BX4) (f pl : Int) : Prop := pX4_fault c = iI f ∧ pX4_place c = iI pl ∧ SzB c
theorem z_refuse {c : BX4} {t : BX9} {f pl : Int} (hz : SzB c) (hf : pX4_fault c = iI 0) (hs : pX9_start t = iI pl) : Wp (f_X4_refuse c t (iI f)) (fun r => r.1 = 0 ∧ FA r.2 f pl) := by
  unfold f_X4_refuse
  rw [hf, if_pos (show iI 0 = 0 from rfl)]
  exact wp_lt (wp_lt (wp_lt (wp_some ⟨rfl, rfl, hs, hz⟩)))
/-- the pile -/
def PI (m : BX12) (Q : Int → Int) (h : Int) : Prop := pX12_piled m = iI h ∧ (0 ≤ h ∧ h ≤ 100) ∧ AI (pX12_pile m) Q h
theorem PI.cg {m r : BX12} {Q : Int → Int} {h : Int} (hp : PI m Q h) (h1 : pX12_piled r = pX12_piled m) (h2 : pX12_pile r = pX12_pile m) : PI r Q h := ⟨h1.trans hp.1, hp.2.1, by rw [h2]; exact hp.2.2⟩
theorem z_pushM {m : BX12} {Q : Int → Int} {h x : Int} (hp : PI m Q h) (hh : h < 100) : Wp (f_X12_push m (iI x)) (fun r => FrJ m r ∧ PI r (up Q h x) (h + 1) ∧ pX12_opens r = pX12_opens m ∧ pX12_isWhole r = pX12_isWhole m ∧ pX12_texts r = pX12_texts m ∧ pX12_written r = pX12_written m) := by
  obtain ⟨h1, h2, h3⟩ := hp
  unfold f_X12_push
  rw [h1]
  refine wp_gd ((iI_inB (by omega) (by omega)).mpr (by omega)) (wp_lt (wp_lt (wp_lt (wp_some ?_))))
  rw [q12_piled_pile, h1, iI_cl (by omega) (by omega), show (iI h + 1 : Int32) = iI (h + 1) from iI_add h 1]
  refine ⟨FrJ.s_piled (FrJ.s_pile (FrJ.refl m) _) _, ⟨rfl, by omega, ?_⟩, rfl, rfl, rfl, rfl⟩
  rw [q12_pile_piled, q12_pile_pile]
  intro k k1 k2
  rw [ai_upd h2.1 k1]
  unfold up
  split
  · rfl
  · exact h3 k k1 (by omega)
def negs : Nat → OpL
  | 0 => []
  | k + 1 => (2, 0) :: negs k
theorem negs_len : ∀ k : Nat, oLen (negs k) = (k : Int)
  | 0 => rfl
  | k + 1 => by
    show oLen ((2, 0) :: negs k) = _
    rw [oLen_c, negs_len k]
    omega
/-- the top of a pile: nothing, or an entry -/
theorem z_wholeLp {b w0 : Int} {Q : Int → Int} {hq : Int} (hQ : 0 < hq → Q (hq - 1) ≠ 2 ∧ 0 ≤ Q (hq - 1) ∧ Q (hq - 1) ≤ 100) (hq0 : 0 ≤ hq) : ∀ (k : Nat) (m : BX12) (o : Int) (E : OpL), PI m Q (hq + (k : Int)) → (∀ i : Int, hq ≤ i → i < hq + (k : Int) → Q i = 2) → pX12_opens m = iI o → WR m b w0 E → w0 + oLen E + (k : Int) ≤ 300 → ∀ F : Nat, k < F → Wp (f_X12_whole_b5 F m) (fun r => FrJ m r ∧ PI r Q hq ∧ pX12_opens r = iI (o - (k : Int)) ∧ pX12_isWhole r = pX12_isWhole m ∧ WR r b w0 (E ++ negs k) ∧ TBl m r b w0) := by
  intro k
  induction k with
  | zero =>
    intro m o E hp hN ho hw hl F hF
    obtain ⟨F, rfl⟩ : ∃ F', F = F' + 1 := ⟨F - 1, by omega⟩
    rw [show hq + ((0 : Nat) : Int) = hq by omega] at hp
    have hp' := hp
    obtain ⟨h1, h2, h3⟩ := hp
    show Wp (f_X12_whole_b5B (f_X12_whole_b5 F) m) _
    unfold f_X12_whole_b5B
    have fin : Wp (some m) (fun r => FrJ m r ∧ PI r Q hq ∧ pX12_opens r = iI (o - ((0 : Nat) : Int)) ∧ pX12_isWhole r = pX12_isWhole m ∧ WR r b w0 (E ++ negs 0) ∧ TBl m r b w0) := by
      refine wp_some ⟨FrJ.refl m, hp', ?_, rfl, ?_, TBl.of rfl⟩
      · rw [ho]
        congr 1
        omega
      · rw [show E ++ negs 0 = E from List.append_nil E]
        exact hw
    rw [h1]
    by_cases c : hq ≤ 0
    · rw [if_pos (show iI hq ≤ 0 from (iI_le (b := 0) (by omega) (by omega) (by omega) (by omega)).mpr c)]
      exact fin
    · rw [if_neg (show ¬ iI hq ≤ 0 from fun e => c ((iI_le (b := 0) (by omega) (by omega) (by omega) (by omega)).mp e)), show (iI hq - 1 : Int32) = iI (hq - 1) from iI_sub hq 1]
      refine wp_gd ((iI_inB (by omega) (by omega)).mpr (by omega)) ?_
      have := hQ (by omega)
      rw [iI_cl (by omega) (by omega), h3 (hq - 1) (by omega) (by omega), if_neg (show ¬ iI (Q (hq - 1)) = 2 from iI_ne (b := 2) (by omega) (by omega) (by omega) (by omega) this.1)]
      exact fin
  | succ k ih =>
    intro m o E hp hN ho hw hl F hF
    obtain ⟨F, rfl⟩ : ∃ F', F = F' + 1 := ⟨F - 1, by omega⟩
    obtain ⟨h1, h2, h3⟩ := hp
    show Wp (f_X12_whole_b5B (f_X12_whole_b5 F) m) _
    unfold f_X12_whole_b5B
    have e1 : hq + ((k + 1 : Nat) : Int) - 1 = hq + (k : Int) := by omega
    rw [h1, if_neg (show ¬ iI (hq + ((k + 1 : Nat) : Int)) ≤ 0 from fun e => absurd ((iI_le (b := 0) (by omega) (by omega) (by omega) (by omega)).mp e) (by omega)), show (iI (hq + ((k + 1 : Nat) : Int)) - 1 : Int32) = iI (hq + (k : Int)) by rw [← e1]; exact iI_sub _ 1]
    refine wp_gd ((iI_inB (by omega) (by omega)).mpr (by omega)) ?_
    rw [iI_cl (by omega) (by omega), h3 (hq + (k : Int)) (by omega) (by omega), hN (hq + (k : Int)) (by omega) (by omega), if_pos (show iI 2 = 2 from rfl)]
    refine wp_lt (wp_lt ?_)
    rw [q12_opens_piled, ho, show (iI o - 1 : Int32) = iI (o - 1) from iI_sub o 1]
    refine wp_lt (wp_lt ?_)
    have f1 : FrJ m (sX12_opens (sX12_piled m (iI (hq + (k : Int)))) (iI (o - 1))) := FrJ.s_opens (FrJ.s_piled (FrJ.refl m) _) _
    have w1 : WR (sX12_opens (sX12_piled m (iI (hq + (k : Int)))) (iI (o - 1))) b w0 E := hw.cg rfl rfl rfl
    have p1 : PI (sX12_opens (sX12_piled m (iI (hq + (k : Int)))) (iI (o - 1))) Q (hq + (k : Int)) := ⟨rfl, by omega, fun i i1 i2 => h3 i i1 (by omega)⟩
    have o1 : pX12_opens (sX12_opens (sX12_piled m (iI (hq + (k : Int)))) (iI (o - 1))) = iI (o - 1) := rfl
    have i1 : pX12_isWhole (sX12_opens (sX12_piled m (iI (hq + (k : Int)))) (iI (o - 1))) = pX12_isWhole m := rfl
    have t1 : pX12_texts (sX12_opens (sX12_piled m (iI (hq + (k : Int)))) (iI (o - 1))) = pX12_texts m := rfl
    generalize sX12_opens (sX12_piled m (iI (hq + (k : Int)))) (iI (o - 1)) = m1 at f1 w1 p1 o1 i1 t1
    refine wp_bind (wp_mono (z_emitM (o := 2) (v := 0) w1 (by omega)) ?_)
    rintro r ⟨r1, r2, r3⟩
    refine wp_mono (ih r (o - 1) (E ++ [(2, 0)]) (p1.cg r1.piled r1.pile) (fun i i1 i2 => hN i i1 (by omega)) (r1.opens.trans o1) r2 (by rw [oLen_a, oLen_1]; omega) F (by omega)) ?_
    rintro q ⟨q1, q2, q3, q4, q5, q6⟩
    refine ⟨f1.trans (r1.j.trans q1), q2, ?_, q4.trans (r1.isWhole.trans i1), ?_, (TBl.of t1).trans (r3.trans q6)⟩
    · rw [q3]
      congr 1
      omega
    · rw [show E ++ negs (k + 1) = E ++ [(2, 0)] ++ negs k by rw [List.append_assoc]; rfl]
      exact q5
