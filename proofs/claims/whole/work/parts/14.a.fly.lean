-- layer 2: fly
theorem bits_v : ∀ b : Nat, b < 21 → 4 ≤ b → (((1 : Int32) <<< ((iI (b : Int) - 1) &&& 31)) - 1 = iI (2 ^ (b - 1) - 1)) ∧ (((1 : Int64) <<< ((iI (b : Int) - 1).toInt64 &&& 63)) - 1 = lI (2 ^ (b - 1) - 1)) ∧ (7 : Int) ≤ 2 ^ (b - 1) - 1 ∧ (2 : Int) ^ (b - 1) - 1 ≤ 1000000 := by decide +kernel
theorem z_fly219 {m0 : BX12} {t : Int} (t1 : 0 ≤ t) (t2 : t ≤ 60) (ht : pX12_ticks m0 = iI t) : ∀ (n : Nat) (k : Int) (m : BX12), FrY m0 m → 0 ≤ k → (n : Int) + k = 38 * t → (∀ j : Int, 0 ≤ j → j < k → pX12_a m (890 + j).toNat = pX12_rows m0 j.toNat) → (∀ j : Int, 0 ≤ j → j < 890 → pX12_a m j.toNat = pX12_a m0 j.toNat) → ∀ F : Nat, n < F → Wp (f_X12_fly_b219 F (iI k, m)) (fun r => r.1 = iI t ∧ FrY m0 r.2 ∧ (∀ j : Int, 0 ≤ j → j < 38 * t → pX12_a r.2 (890 + j).toNat = pX12_rows m0 j.toNat) ∧ ∀ j : Int, 0 ≤ j → j < 890 → pX12_a r.2 j.toNat = pX12_a m0 j.toNat) := by
  intro n
  induction n with
  | zero =>
    intro k m fr k1 k2 hf hg F hF
    obtain ⟨F, rfl⟩ : ∃ F', F = F' + 1 := ⟨F - 1, by omega⟩
    show Wp (f_X12_fly_b219B (f_X12_fly_b219 F) (iI k) m) _
    unfold f_X12_fly_b219B
    simp (disch := omega) only [iLit, fr.ticks, ht, iI_mul, iI_le]
    rw [if_pos (by omega)]
    exact wp_some ⟨rfl, fr, fun j j1 j2 => hf j j1 (by omega), hg⟩
  | succ n ih =>
    intro k m fr k1 k2 hf hg F hF
    obtain ⟨F, rfl⟩ : ∃ F', F = F' + 1 := ⟨F - 1, by omega⟩
    show Wp (f_X12_fly_b219B (f_X12_fly_b219 F) (iI k) m) _
    unfold f_X12_fly_b219B
    simp (disch := omega) only [iLit, fr.ticks, ht, iI_mul, iI_add, iI_le, iI_inB, gd_t, iI_cl, lt_e]
    rw [if_neg (by omega)]
    refine ih (k + 1) _ (fr.s_a _) (by omega) (by omega) (fun j j1 j2 => ?_) (fun j j1 j2 => ?_) F (by omega)
    · rw [q12_a_a, ai_upd (by omega) (by omega)]
      by_cases he : j = k
      · rw [if_pos (by omega), he, fr.rows]
      · rw [if_neg (by omega), hf j j1 (by omega)]
    · rw [q12_a_a, ai_upd (by omega) j1, if_neg (by omega), hg j j1 j2]
/-- what is written of a flight -/
theorem z_flyW {m : BX12} {w h : Int} {A : Int → Int} {t x y hd ht rs : Int} (hM : MW m w h A) (hE : InE A) (t1 : 0 ≤ t) (t2 : t ≤ 60) (e1 : pX12_ticks m = iI t) (e2 : pX12_atX m = iI x) (e3 : pX12_atY m = iI y) (e4 : pX12_heading m = iI hd) (e5 : pX12_hit m = iI ht) (ht01 : ht = 0 ∨ ht = 1) (e6 : pX12_rested m = iI rs) (rs01 : rs = 0 ∨ rs = 1) :
    Wp (g_lt ((pX12_ticks m) : Int32) (fun x_25 => g_gd (inB 880 3170) (g_lt (sX12_a m (upd (pX12_a m) (880 : Int32).toNatClampNeg x_25)) (fun v0_27 => g_lt ((pX12_atX v0_27) : Int32) (fun x_28 => g_gd (inB 881 3170) (g_lt (sX12_a v0_27 (upd (pX12_a v0_27) (881 : Int32).toNatClampNeg x_28)) (fun v0_30 => g_lt ((pX12_atY v0_30) : Int32) (fun x_31 => g_gd (inB 882 3170) (g_lt (sX12_a v0_30 (upd (pX12_a v0_30) (882 : Int32).toNatClampNeg x_31)) (fun v0_33 => g_lt ((pX12_heading v0_33) : Int32) (fun x_34 => g_gd (inB 883 3170) (g_lt (sX12_a v0_33 (upd (pX12_a v0_33) (883 : Int32).toNatClampNeg x_34)) (fun v0_36 => if ((pX12_hit v0_36) : Int32) = 0 then (f_X12_fly_b155 884 0 v0_36) else (f_X12_fly_b155 884 1 v0_36))))))))))))))
      (fun r => r.1 = iI t ∧ FrY m r.2 ∧ (∀ j : Int, 0 ≤ j → j < 38 * t → pX12_a r.2 (890 + j).toNat = pX12_rows m j.toNat) ∧ (∀ j : Int, 0 ≤ j → j < 880 → pX12_a r.2 j.toNat = pX12_a m j.toNat) ∧ pX12_a r.2 (Int.toNat 880) = iI t ∧ pX12_a r.2 (Int.toNat 881) = iI x ∧ pX12_a r.2 (Int.toNat 882) = iI y ∧ pX12_a r.2 (Int.toNat 883) = iI hd ∧ pX12_a r.2 (Int.toNat 884) = iI ht ∧ pX12_a r.2 (Int.toNat 885) = iI rs ∧ pX12_a r.2 (Int.toNat 886) = pX12_over m ∧ pX12_a r.2 (Int.toNat 887) = iI (A 1) ∧ pX12_a r.2 (Int.toNat 888) = iI (A 2)) := by
  have h3 := hE.1
  have h4 := hE.2.1
  simp (disch := omega) only [iLit, iI_inB, gd_t, iI_cl]
  rw [e1]
  refine wp_ltv (fun z25 h25 => wp_ltv (fun v27 h27 => ?_))
  rw [h25] at h27
  have a27 : pX12_atX v27 = iI x := by rw [h27, q12_atX_a, e2]
  rw [a27]
  refine wp_ltv (fun z28 h28 => wp_ltv (fun v30 h30 => ?_))
  rw [h28] at h30
  have a30 : pX12_atY v30 = iI y := by rw [h30, q12_atY_a, h27, q12_atY_a, e3]
  rw [a30]
  refine wp_ltv (fun z31 h31 => wp_ltv (fun v33 h33 => ?_))
  rw [h31] at h33
  have a33 : pX12_heading v33 = iI hd := by rw [h33, q12_heading_a, h30, q12_heading_a, h27, q12_heading_a, e4]
  rw [a33]
  refine wp_ltv (fun z34 h34 => wp_ltv (fun v36 h36 => ?_))
  rw [h34] at h36
  have f36 : FrY m v36 := by
    rw [h36, h33, h30, h27]
    exact ((((FrY.refl m).s_a _).s_a _).s_a _).s_a _
  have A36 : pX12_a v36 = upd (upd (upd (upd (pX12_a m) (Int.toNat 880) (iI t)) (Int.toNat 881) (iI x)) (Int.toNat 882) (iI y)) (Int.toNat 883) (iI hd) := by
    rw [h36, q12_a_a, h33, q12_a_a, h30, q12_a_a, h27, q12_a_a]
  clear h36 h33 h30 h27 a27 a30 a33 h25 h28 h31 h34
  have fin : ∀ q : Int, q = rs → ∀ v : BX12, FrY m v → pX12_a v = upd (pX12_a v36) (Int.toNat 884) (iI ht) → Wp (f_X12_fly_b175 (iI 885) (iI q) v) (fun r => r.1 = iI t ∧ FrY m r.2 ∧ (∀ j : Int, 0 ≤ j → j < 38 * t → pX12_a r.2 (890 + j).toNat = pX12_rows m j.toNat) ∧ (∀ j : Int, 0 ≤ j → j < 880 → pX12_a r.2 j.toNat = pX12_a m j.toNat) ∧ pX12_a r.2 (Int.toNat 880) = iI t ∧ pX12_a r.2 (Int.toNat 881) = iI x ∧ pX12_a r.2 (Int.toNat 882) = iI y ∧ pX12_a r.2 (Int.toNat 883) = iI hd ∧ pX12_a r.2 (Int.toNat 884) = iI ht ∧ pX12_a r.2 (Int.toNat 885) = iI rs ∧ pX12_a r.2 (Int.toNat 886) = pX12_over m ∧ pX12_a r.2 (Int.toNat 887) = iI (A 1) ∧ pX12_a r.2 (Int.toNat 888) = iI (A 2)) := by
    intro q hq v fv Av
    subst hq
    unfold f_X12_fly_b175
    simp (disch := omega) only [iLit, iI_inB, gd_t, iI_cl]
    refine wp_ltv (fun v8 k8 => ?_)
    have o8 : pX12_over v8 = pX12_over m := by rw [k8, q12_over_a, fv.over]
    rw [o8]
    refine wp_ltv (fun z9 j9 => wp_ltv (fun v11 k11 => ?_))
    rw [j9] at k11
    have A11 : pX12_a v11 = upd (upd (pX12_a v) (Int.toNat 885) (iI q)) (Int.toNat 886) (pX12_over m) := by rw [k11, q12_a_a, k8, q12_a_a]
    have f11 : FrY m v11 := by
      rw [k11, k8]
      exact (fv.s_a _).s_a _
    have low : ∀ j : Int, 0 ≤ j → j < 880 → pX12_a v11 j.toNat = pX12_a m j.toNat := by
      intro j j1 j2
      rw [A11, ai_upd (by omega) j1, if_neg (by omega), ai_upd (by omega) j1, if_neg (by omega), Av, ai_upd (by omega) j1, if_neg (by omega), A36, ai_upd (by omega) j1, if_neg (by omega), ai_upd (by omega) j1, if_neg (by omega), ai_upd (by omega) j1, if_neg (by omega), ai_upd (by omega) j1, if_neg (by omega)]
    rw [low 1 (by omega) (by omega), hM.at (by omega) (by omega)]
    refine wp_ltv (fun z13 j13 => wp_ltv (fun v15 k15 => ?_))
    rw [j13] at k15
    have A15 : pX12_a v15 = upd (pX12_a v11) (Int.toNat 887) (iI (A 1)) := by rw [k15, q12_a_a]
    have f15 : FrY m v15 := by
      rw [k15]
      exact f11.s_a _
    have low2 : pX12_a v15 (Int.toNat 2) = iI (A 2) := by
      rw [A15, ai_upd (by omega) (by omega), if_neg (by omega), low 2 (by omega) (by omega)]
      exact hM.at (by omega) (by omega)
    rw [low2]
    refine wp_ltv (fun z17 j17 => wp_ltv (fun v19 k19 => ?_))
    rw [j17] at k19
    have A19 : pX12_a v19 = upd (pX12_a v15) (Int.toNat 888) (iI (A 2)) := by rw [k19, q12_a_a]
    have f19 : FrY m v19 := by
      rw [k19]
      exact f15.s_a _
    refine wp_mono (z_fly219 (m0 := v19) t1 t2 (f19.ticks.trans e1) (38 * t).toNat 0 v19 (FrY.refl v19) (by omega) (by omega) (fun j j1 j2 => by omega) (fun j j1 j2 => rfl) fU (by rw [fU_v]; omega)) (fun r hr => ?_)
    obtain ⟨r1, r2, r3, r4⟩ := hr
    have all : ∀ j : Int, 880 ≤ j → j < 890 → pX12_a r.2 j.toNat = upd (upd (upd (upd (upd (upd (upd (upd (upd (pX12_a m) (Int.toNat 880) (iI t)) (Int.toNat 881) (iI x)) (Int.toNat 882) (iI y)) (Int.toNat 883) (iI hd)) (Int.toNat 884) (iI ht)) (Int.toNat 885) (iI q)) (Int.toNat 886) (pX12_over m)) (Int.toNat 887) (iI (A 1))) (Int.toNat 888) (iI (A 2)) j.toNat := by
      intro j j1 j2
      rw [r4 j (by omega) j2, A19, A15, A11, Av, A36]
    refine ⟨r1, f19.trans r2, fun j j1 j2 => by rw [r3 j j1 j2, f19.rows], fun j j1 j2 => ?_, ?_, ?_, ?_, ?_, ?_, ?_, ?_, ?_, ?_⟩
    · rw [r4 j j1 (by omega), A19, ai_upd (by omega) j1, if_neg (by omega), A15, ai_upd (by omega) j1, if_neg (by omega)]
      exact low j j1 j2
    · rw [all 880 (by omega) (by omega)]
      rfl
    · rw [all 881 (by omega) (by omega)]
      rfl
    · rw [all 882 (by omega) (by omega)]
      rfl
    · rw [all 883 (by omega) (by omega)]
      rfl
    · rw [all 884 (by omega) (by omega)]
      rfl
    · rw [all 885 (by omega) (by omega)]
      rfl
    · rw [all 886 (by omega) (by omega)]
      rfl
    · rw [all 887 (by omega) (by omega)]
      rfl
    · rw [all 888 (by omega) (by omega)]
      rfl
  have mid : ∀ q : Int, q = ht → Wp (f_X12_fly_b155 (iI 884) (iI q) v36) (fun r => r.1 = iI t ∧ FrY m r.2 ∧ (∀ j : Int, 0 ≤ j → j < 38 * t → pX12_a r.2 (890 + j).toNat = pX12_rows m j.toNat) ∧ (∀ j : Int, 0 ≤ j → j < 880 → pX12_a r.2 j.toNat = pX12_a m j.toNat) ∧ pX12_a r.2 (Int.toNat 880) = iI t ∧ pX12_a r.2 (Int.toNat 881) = iI x ∧ pX12_a r.2 (Int.toNat 882) = iI y ∧ pX12_a r.2 (Int.toNat 883) = iI hd ∧ pX12_a r.2 (Int.toNat 884) = iI ht ∧ pX12_a r.2 (Int.toNat 885) = iI rs ∧ pX12_a r.2 (Int.toNat 886) = pX12_over m ∧ pX12_a r.2 (Int.toNat 887) = iI (A 1) ∧ pX12_a r.2 (Int.toNat 888) = iI (A 2)) := by
    intro q hq
    subst hq
    unfold f_X12_fly_b155
    simp (disch := omega) only [iLit, iI_inB, gd_t, iI_cl]
    refine wp_ltv (fun v21 k21 => ?_)
    have f21 : FrY m v21 := by
      rw [k21]
      exact f36.s_a _
    rw [f21.rested, e6]
    rcases rs01 with e | e
    · rw [if_pos (show iI rs = iI 0 by rw [e])]
      exact fin 0 e.symm v21 f21 (by rw [k21, q12_a_a])
    · rw [if_neg (show ¬ iI rs = iI 0 by rw [e]; decide)]
      exact fin 1 e.symm v21 f21 (by rw [k21, q12_a_a])
  rw [f36.hit, e5]
  rcases ht01 with e | e
  · rw [if_pos (show iI ht = iI 0 by rw [e])]
    exact mid 0 e.symm
  · rw [if_neg (show ¬ iI ht = iI 0 by rw [e]; decide)]
    exact mid 1 e.symm
