-- layer 2: a tick of a flight, both sides
/-- the flight's fields that seeing leaves as they are -/
def EqF (m r : BX12) : Prop := pX12_heading r = pX12_heading m ∧ pX12_now r = pX12_now m ∧ pX12_ticks r = pX12_ticks m ∧ pX12_atX r = pX12_atX m ∧ pX12_atY r = pX12_atY m ∧ pX12_hit r = pX12_hit m ∧ pX12_rested r = pX12_rested m ∧ pX12_over r = pX12_over m
theorem EqF.refl (m : BX12) : EqF m m := ⟨rfl, rfl, rfl, rfl, rfl, rfl, rfl, rfl⟩
theorem EqF.trans {m r q : BX12} (h : EqF m r) (g : EqF r q) : EqF m q := ⟨g.1.trans h.1, g.2.1.trans h.2.1, g.2.2.1.trans h.2.2.1, g.2.2.2.1.trans h.2.2.2.1, g.2.2.2.2.1.trans h.2.2.2.2.1, g.2.2.2.2.2.1.trans h.2.2.2.2.2.1, g.2.2.2.2.2.2.1.trans h.2.2.2.2.2.2.1, g.2.2.2.2.2.2.2.trans h.2.2.2.2.2.2.2⟩
theorem EqF.s_rows {m r : BX12} (h : EqF m r) (x : Nat → Int32) : EqF m (sX12_rows r x) := h.trans ⟨q12_heading_rows _ _, q12_now_rows _ _, q12_ticks_rows _ _, q12_atX_rows _ _, q12_atY_rows _ _, q12_hit_rows _ _, q12_rested_rows _ _, q12_over_rows _ _⟩
theorem FrL.eqF {m r : BX12} (f : FrL m r) : EqF m r := ⟨f.heading, f.now, f.ticks, f.atX, f.atY, f.hit, f.rested, f.over⟩
theorem z_see2 {m0 : BX12} {w h : Int} {A : Int → Int} {tk : Int → Int → Int} (hM0 : MW m0 w h A) (hE : InE A) {t : Int} (ht : 0 ≤ t) (ht2 : t < 60) (hnow : pX12_now m0 = iI t) (htk : ∀ s : Int, 0 ≤ s → s < t + 1 → ∀ k : Int, 0 ≤ k → k < A 1 → pX12_rows m0 (38 * s + 5 + k).toNat = iI (tk s k)) : ∀ (n : Nat) (p : Int) (m : BX12), FrR m0 m → EqF m0 m → 0 ≤ p → (n : Int) + p = A 2 → (∀ q : Int, 0 ≤ q → q < p → pX12_rows m (38 * t + 21 + q).toNat = iI (sPair A tk q t)) → (∀ j : Int, 0 ≤ j → j < 38 * t + 21 → pX12_rows m j.toNat = pX12_rows m0 j.toNat) → ∀ F : Nat, n < F → Wp (f_X12_see__b63 F (iI (38 * t), iI p, m)) (fun r => FrR m0 r ∧ EqF m0 r ∧ (∀ q : Int, 0 ≤ q → q < A 2 → pX12_rows r (38 * t + 21 + q).toNat = iI (sPair A tk q t)) ∧ ∀ j : Int, 0 ≤ j → j < 38 * t + 21 → pX12_rows r j.toNat = pX12_rows m0 j.toNat) := by
  intro n
  have h3 := hE.1
  have h4 := hE.2.1
  induction n with
  | zero =>
    intro p m fr ef p1 p2 hf hg F hF
    obtain ⟨F, rfl⟩ : ∃ F', F = F' + 1 := ⟨F - 1, by omega⟩
    show Wp (f_X12_see__b63B (f_X12_see__b63 F) (iI (38 * t)) (iI p) m) _
    have hM := fr.mw hM0
    unfold f_X12_see__b63B
    simp (disch := omega) only [iLit, iI_inB, gd_t, iI_cl, hM.at, iI_le]
    rw [if_pos (by omega)]
    exact wp_some ⟨fr, ef, fun j j1 j2 => hf j j1 (by omega), hg⟩
  | succ n ih =>
    intro p m fr ef p1 p2 hf hg F hF
    obtain ⟨F, rfl⟩ : ∃ F', F = F' + 1 := ⟨F - 1, by omega⟩
    show Wp (f_X12_see__b63B (f_X12_see__b63 F) (iI (38 * t)) (iI p) m) _
    have hM := fr.mw hM0
    obtain ⟨q1, q2, q3⟩ := hE.2.2.2 p p1 (by omega)
    have hnow2 : pX12_now m = iI t := ef.2.1.trans hnow
    have hrow : ∀ s : Int, 0 ≤ s → s < t + 1 → ∀ k : Int, 0 ≤ k → k < A 1 → pX12_rows m (38 * s + 5 + k).toNat = iI (tk s k) := fun s s1 s2 k k1 k2 => by
      rw [hg _ (by omega) (by omega)]
      exact htk s s1 s2 k k1 k2
    have go : ∀ z : Int, z = sPair A tk p t → Wp (f_X12_see__b63 F (iI (38 * t), iI (p + 1), sX12_rows m (upd (pX12_rows m) (38 * t + 21 + p).toNat (iI z)))) (fun r => FrR m0 r ∧ EqF m0 r ∧ (∀ q : Int, 0 ≤ q → q < A 2 → pX12_rows r (38 * t + 21 + q).toNat = iI (sPair A tk q t)) ∧ ∀ j : Int, 0 ≤ j → j < 38 * t + 21 → pX12_rows r j.toNat = pX12_rows m0 j.toNat) := by
      intro z hz
      refine ih (p + 1) _ (fr.s_rows _) (ef.s_rows _) (by omega) (by omega) (fun q z1 z2 => ?_) (fun j j1 j2 => ?_) F (by omega)
      · rw [q12_rows_rows, ai_upd (by omega) (by omega)]
        by_cases he : q = p
        · rw [if_pos (by omega), hz, he]
        · rw [if_neg (by omega), hf q z1 (by omega)]
      · rw [q12_rows_rows, ai_upd (by omega) j1, if_neg (by omega), hg j j1 j2]
    unfold f_X12_see__b63B f_X12_see__b192
    simp (disch := omega) only [iLit, iI_inB, gd_t, iI_cl, hM.at, iI_le, iI_mul, iI_add, lt_e, hnow2, iI_sub]
    rw [if_neg (by omega)]
    by_cases hd : A (660 + 3 * p + 2) ≤ t
    · rw [if_pos hd]
      have e1 : 38 * t - 38 * A (660 + 3 * p + 2) + 5 + A (660 + 3 * p) = 38 * (t - A (660 + 3 * p + 2)) + 5 + A (660 + 3 * p) := by omega
      have e2 : 38 * t - 38 * A (660 + 3 * p + 2) + 5 + A (660 + 3 * p + 1) = 38 * (t - A (660 + 3 * p + 2)) + 5 + A (660 + 3 * p + 1) := by omega
      simp (disch := omega) only [e1, e2, iI_inB, gd_t, iI_cl, hrow, iI_mul, iI_sub]
      refine go _ ?_
      unfold sPair
      rw [if_neg (by omega)]
    · rw [if_neg hd]
      refine go 0 ?_
      unfold sPair
      rw [if_pos (by omega)]
theorem z_see {m : BX12} {w h : Int} {A : Int → Int} {tk : Int → Int → Int} (hM : MW m w h A) (hE : InE A) (hI : InW w h A) {x y t head : Int} (ht : 0 ≤ t) (ht2 : t < 60) (hh : 0 ≤ head) (hh2 : head < 64) (e1 : pX12_atX m = iI x) (e2 : pX12_atY m = iI y) (e3 : pX12_heading m = iI head) (e4 : pX12_now m = iI t) (hx : 0 ≤ x ∧ x < 16 * w) (hy : 0 ≤ y ∧ y < 16 * h) (htk : ∀ s : Int, 0 ≤ s → s < t → ∀ k : Int, 0 ≤ k → k < A 1 → pX12_rows m (38 * s + 5 + k).toNat = iI (tk s k)) : Wp (f_X12_see_ m) (fun r => FrR m r ∧ EqF m r ∧ (∀ k : Int, 0 ≤ k → k < A 1 → pX12_rows r (38 * t + 5 + k).toNat = iI (sTg w h A x y t head k)) ∧ (∀ q : Int, 0 ≤ q → q < A 2 → pX12_rows r (38 * t + 21 + q).toNat = iI (sPair A (tkX tk t (sTg w h A x y t head)) q t)) ∧ ∀ j : Int, 0 ≤ j → j < 38 * t → pX12_rows r j.toNat = pX12_rows m j.toNat) := by
  have h3 := hE.1
  have h4 := hE.2.1
  unfold f_X12_see_
  simp only [iLit, e1, e2, e4, iI_mul, lt_e]
  refine wp_bind (wp_mono (z_look hM hI ht (by omega) hx hy) (fun r hr => ?_))
  have er := hr.1.eqF
  refine z_see1 (m0 := m) hM hE hI (x := x) (y := y) ht ht2 hh hh2 e3 (fun q fr a1 a2 a3 a4 a5 a6 a7 a8 hf hg => ?_) (A 1).toNat 0 r hr.1.toR hr.2 er.1 er.2.1 er.2.2.1 er.2.2.2.1 er.2.2.2.2.1 er.2.2.2.2.2.1 er.2.2.2.2.2.2.1 er.2.2.2.2.2.2.2 (by omega) (by omega) (fun j j1 j2 => by omega) (fun j j1 j2 => by rw [hr.1.rows]) fU (by rw [fU_v]; omega)
  refine wp_mono (z_see2 (m0 := q) (tk := tkX tk t (sTg w h A x y t head)) (fr.mw hM) hE ht ht2 (a2.trans e4) (fun s s1 s2 k k1 k2 => ?_) (A 2).toNat 0 q (FrR.refl q) (EqF.refl q) (by omega) (by omega) (fun j j1 j2 => by omega) (fun j j1 j2 => rfl) fU (by rw [fU_v]; omega)) (fun z hz => ?_)
  · by_cases hs : s = t
    · rw [hs, tkX_n k1 (by omega)]
      exact hf k k1 k2
    · rw [tkX_o hs, hg _ (by omega) (by omega)]
      exact htk s s1 (by omega) k k1 k2
  · obtain ⟨z1, z2, z3, z4⟩ := hz
    exact ⟨fr.trans z1, EqF.trans ⟨a1, a2, a3, a4, a5, a6, a7, a8⟩ z2, fun k k1 k2 => by rw [z4 _ (by omega) (by omega)]; exact hf k k1 k2, z3, fun j j1 j2 => by rw [z4 j j1 (by omega)]; exact hg j j1 j2⟩
/-- a flight on both sides, ahead of tick t -/
def FI (w h : Int) (fl : BX2) (m : BX12) (A : Int → Int) (tk rw_ : Int → Int → Int) (t x y hd ht rs : Int) : Prop :=
  (0 ≤ t ∧ t ≤ 60) ∧ (pX2_count fl = iI t ∧ pX12_ticks m = iI t) ∧ (pX2_x fl = iI x ∧ pX12_atX m = iI x ∧ -1000 ≤ x ∧ x ≤ 2000) ∧ (pX2_y fl = iI y ∧ pX12_atY m = iI y ∧ -1000 ≤ y ∧ y ≤ 2000) ∧ (pX2_head fl = iI hd ∧ pX12_heading m = iI hd ∧ 0 ≤ hd ∧ hd < 64) ∧
  (pX2_hit fl = iI ht ∧ pX12_hit m = iI ht ∧ (ht = 0 ∨ ht = 1)) ∧ (pX2_rested fl = iI rs ∧ pX12_rested m = iI rs ∧ (rs = 0 ∨ rs = 1)) ∧ (∃ o : Int, pX2_over fl = iI o ∧ pX12_over m = iI o) ∧ (pX2_begun fl = iI 1 ∧ pX2_lenses fl = iI (A 1) ∧ pX2_pairs fl = iI (A 2)) ∧
  (∀ s : Int, 0 ≤ s → s < t → (∀ j : Int, 0 ≤ j → j < 5 → pX2_rows fl (s * 5 + j).toNat = iI (rw_ s j) ∧ pX12_rows m (38 * s + j).toNat = iI (rw_ s j)) ∧ (∀ k : Int, 0 ≤ k → k < A 1 → pX2_takes fl (s * 16 + k).toNat = iI (tk s k) ∧ pX12_rows m (38 * s + 5 + k).toNat = iI (tk s k)) ∧ ∀ p : Int, 0 ≤ p → p < A 2 → pX12_rows m (38 * s + 21 + p).toNat = iI (sPair A tk p s)) ∧
  (∀ s k : Int, 0 ≤ tk s k ∧ tk s k ≤ 255) ∧ (∀ s : Int, 0 ≤ s → s < t → -8 ≤ rw_ s 0 ∧ rw_ s 0 ≤ 8) ∧ (ht = 0 → (0 ≤ x ∧ x < 16 * w) ∧ 0 ≤ y ∧ y < 16 * h)
