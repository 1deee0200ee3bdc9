-- layer 2: operations that ask (covered, ends, width, same)
/-- how far a side is from a lens, going round -/
def sAp (A : Int → Int) (k s : Int) : Int := if 64 - (if 0 ≤ A (620 + 2 * k) - s then A (620 + 2 * k) - s else 0 - (A (620 + 2 * k) - s)) ≤ (if 0 ≤ A (620 + 2 * k) - s then A (620 + 2 * k) - s else 0 - (A (620 + 2 * k) - s)) then 64 - (if 0 ≤ A (620 + 2 * k) - s then A (620 + 2 * k) - s else 0 - (A (620 + 2 * k) - s)) else (if 0 ≤ A (620 + 2 * k) - s then A (620 + 2 * k) - s else 0 - (A (620 + 2 * k) - s))
theorem z_apart {m : BX12} {w h : Int} {A : Int → Int} (hM : MW m w h A) (hE : InE A) {k s : Int} (h1 : 0 ≤ k) (h2 : k < 16) (hs : 0 ≤ s) (hs2 : s < 64) : f_X12_apart m (iI k) (iI s) = some (iI (sAp A k s)) := by
  have hk := hE.2.2.1 k h1 h2
  have hb : 0 ≤ (if 0 ≤ A (620 + 2 * k) - s then A (620 + 2 * k) - s else 0 - (A (620 + 2 * k) - s)) ∧ (if 0 ≤ A (620 + 2 * k) - s then A (620 + 2 * k) - s else 0 - (A (620 + 2 * k) - s)) < 64 := by split <;> omega
  unfold f_X12_apart sAp
  simp (disch := omega) only [iLit, iI_mul, iI_add, iI_inB, gd_t, iI_cl, hM.at, iI_sub, z_abs, bind_s]
  generalize (if 0 ≤ A (620 + 2 * k) - s then A (620 + 2 * k) - s else 0 - (A (620 + 2 * k) - s)) = d at hb ⊢
  simp (disch := omega) only [iI_le]
  split <;> rfl
theorem sAp_bd {A : Int → Int} (hE : InE A) {k s : Int} (h1 : 0 ≤ k) (h2 : k < 16) (hs : 0 ≤ s) (hs2 : s < 64) : 0 ≤ sAp A k s ∧ sAp A k s ≤ 32 := by
  have hk := hE.2.2.1 k h1 h2
  have hb : 0 ≤ (if 0 ≤ A (620 + 2 * k) - s then A (620 + 2 * k) - s else 0 - (A (620 + 2 * k) - s)) ∧ (if 0 ≤ A (620 + 2 * k) - s then A (620 + 2 * k) - s else 0 - (A (620 + 2 * k) - s)) < 64 := by split <;> omega
  unfold sAp
  generalize (if 0 ≤ A (620 + 2 * k) - s then A (620 + 2 * k) - s else 0 - (A (620 + 2 * k) - s)) = d at hb ⊢
  split <;> omega
/-- the class's weight of a side: 0 without -/
def sWt (A : Int → Int) (k s : Int) : Int := if 0 < A (620 + 2 * k + 1) + 1 - sAp A k s then A (620 + 2 * k + 1) + 1 - sAp A k s else 0
theorem z_weightOf {v : BX1} {A : Int → Int} (hV : REy v A) (hE : InE A) {k s : Int} (h1 : 0 ≤ k) (h2 : k < 16) (hs : 0 ≤ s) (hs2 : s < 64) : f_X1_weightOf v (iI k) (iI s) = some (iI (sWt A k s)) := by
  have hk := hE.2.2.1 k h1 h2
  have hc := hV.2.2.1 k h1 h2
  have hb := sAp_bd hE h1 h2 hs hs2
  have e : (if 64 - (s - A (620 + 2 * k)) % 64 < (s - A (620 + 2 * k)) % 64 then 64 - (s - A (620 + 2 * k)) % 64 else (s - A (620 + 2 * k)) % 64) = sAp A k s := by
    unfold sAp
    split <;> split <;> split <;> omega
  have e2 : (if 64 - (s - A (620 + 2 * k)) % 64 < (s - A (620 + 2 * k)) % 64 then iI (64 - (s - A (620 + 2 * k)) % 64) else iI ((s - A (620 + 2 * k)) % 64)) = iI (sAp A k s) := by
    rw [← e]
    split <;> rfl
  unfold f_X1_weightOf sWt
  simp (disch := omega) only [iLit, iI_inB, gd_t, iI_cl, hc.1, hc.2, iI_sub, iI_and63, lt_e, iI_lt, iI_add]
  rw [e2]
  simp (disch := omega) only [iI_sub, iI_lt]
  split <;> rfl
theorem sWt_iff {A : Int → Int} {k s : Int} : (0 < sWt A k s) ↔ sAp A k s ≤ A (620 + 2 * k + 1) := by
  unfold sWt
  split <;> omega
/-- covered: how many lenses from k on -/
def sCov (A : Int → Int) (s : Int) : Nat → Int → Int → Int
  | 0, _, a => a
  | n + 1, k, a => sCov A s n (k + 1) (a + (if sAp A k s ≤ A (620 + 2 * k + 1) then 1 else 0))
def sCv (A : Int → Int) (s : Int) : Int := sCov A s (A 1).toNat 0 0
theorem sCov_bd {A : Int → Int} {s : Int} : ∀ (n : Nat) (k a : Int), 0 ≤ a → a + n ≤ 16 → 0 ≤ sCov A s n k a ∧ sCov A s n k a ≤ 16 := by
  intro n
  induction n with
  | zero =>
    intro k a h1 h2
    unfold sCov
    omega
  | succ n ih =>
    intro k a h1 h2
    unfold sCov
    split
    · exact ih (k + 1) _ (by omega) (by omega)
    · exact ih (k + 1) _ (by omega) (by omega)
theorem z_coverOf {m : BX12} {w h : Int} {A : Int → Int} (hM : MW m w h A) (hE : InE A) {s : Int} (hs : 0 ≤ s) (hs2 : s < 64) : f_X12_coverOf m (iI s) = some (iI (sCv A s)) := by
  have h3 := hE.1
  have key : ∀ (n : Nat) (k a : Int), 0 ≤ k → (n : Int) + k = A 1 → 0 ≤ a → a + n ≤ 16 → ∀ F : Nat, n < F → f_X12_coverOf_b4 m F (iI s, iI a, iI k) = some (iI (sCov A s n k a)) := by
    intro n
    induction n with
    | zero =>
      intro k a k1 k2 a1 a2 F hF
      obtain ⟨F, rfl⟩ : ∃ F', F = F' + 1 := ⟨F - 1, by omega⟩
      show f_X12_coverOf_b4B m (f_X12_coverOf_b4 m F) (iI s) (iI a) (iI k) = _
      unfold f_X12_coverOf_b4B sCov
      simp (disch := omega) only [iLit, iI_inB, gd_t, iI_cl, hM.at, iI_le]
      rw [if_pos (by omega)]
    | succ n ih =>
      intro k a k1 k2 a1 a2 F hF
      obtain ⟨F, rfl⟩ : ∃ F', F = F' + 1 := ⟨F - 1, by omega⟩
      show f_X12_coverOf_b4B m (f_X12_coverOf_b4 m F) (iI s) (iI a) (iI k) = _
      have hk := hE.2.2.1 k k1 (by omega)
      have hb := sAp_bd hE k1 (show k < 16 by omega) hs hs2
      unfold f_X12_coverOf_b4B sCov f_X12_coverOf_b43
      simp (disch := omega) only [iLit, iI_inB, gd_t, iI_cl, hM.at, iI_le, z_apart hM hE, bind_s, iI_mul, iI_add, iI_lt, lt_e]
      rw [if_neg (by omega)]
      split
      · rw [if_neg (by omega)]
        exact ih (k + 1) _ (by omega) (by omega) (by omega) (by omega) F (by omega)
      · rw [if_pos (by omega)]
        exact ih (k + 1) _ (by omega) (by omega) (by omega) (by omega) F (by omega)
  exact key (A 1).toNat 0 0 (by omega) (by omega) (by omega) (by omega) fU (by rw [fU_v]; omega)
theorem z_lensesTo {v : BX1} {A : Int → Int} (hV : REy v A) (hE : InE A) {s : Int} (hs : 0 ≤ s) (hs2 : s < 64) : f_X1_lensesTo v (iI s) = some (iI (sCv A s)) := by
  have h3 := hE.1
  have key : ∀ (n : Nat) (k a : Int), 0 ≤ k → (n : Int) + k = A 1 → 0 ≤ a → a + n ≤ 16 → ∀ F : Nat, n < F → f_X1_lensesTo_b4 v F (iI s, iI a, iI k) = some (iI (sCov A s n k a)) := by
    intro n
    induction n with
    | zero =>
      intro k a k1 k2 a1 a2 F hF
      obtain ⟨F, rfl⟩ : ∃ F', F = F' + 1 := ⟨F - 1, by omega⟩
      show f_X1_lensesTo_b4B v (f_X1_lensesTo_b4 v F) (iI s) (iI a) (iI k) = _
      unfold f_X1_lensesTo_b4B sCov
      simp (disch := omega) only [hV.1, iI_le]
      rw [if_pos (by omega)]
    | succ n ih =>
      intro k a k1 k2 a1 a2 F hF
      obtain ⟨F, rfl⟩ : ∃ F', F = F' + 1 := ⟨F - 1, by omega⟩
      show f_X1_lensesTo_b4B v (f_X1_lensesTo_b4 v F) (iI s) (iI a) (iI k) = _
      have hk := hE.2.2.1 k k1 (by omega)
      have hb := sAp_bd hE k1 (show k < 16 by omega) hs hs2
      have hi := sWt_iff (A := A) (k := k) (s := s)
      have hwb : 0 ≤ sWt A k s ∧ sWt A k s ≤ 8 := by
        unfold sWt
        split <;> omega
      unfold f_X1_lensesTo_b4B sCov f_X1_lensesTo_b24
      simp (disch := omega) only [iLit, hV.1, iI_le, z_weightOf hV hE, bind_s, iI_add, lt_e]
      rw [if_neg (by omega)]
      by_cases hc : sAp A k s ≤ A (620 + 2 * k + 1)
      · rw [if_neg (by have := hi.mpr hc; omega), if_pos hc]
        exact ih (k + 1) _ (by omega) (by omega) (by omega) (by omega) F (by omega)
      · rw [if_pos (Int.not_lt.mp (fun e => hc (hi.mp e))), if_neg hc, Int.add_zero]
        exact ih (k + 1) _ (by omega) (by omega) (by omega) (by omega) F (by omega)
  exact key (A 1).toNat 0 0 (by omega) (by omega) (by omega) (by omega) fU (by rw [fU_v]; omega)
def sUn (A : Int → Int) : Nat → Int → Int → Int
  | 0, _, a => a
  | n + 1, s, a => sUn A n (s + 1) (a + (if sCv A s = 0 then 1 else 0))
theorem o_covered (RO : ROT) : Op_covered (Rel RO) := by
  intro v0 v1 v2 v3 v4 v5 v6 v7 v8 v9 v10 v11 v12 v13 v14 v15 v16 v17 v18 hR p0
  have hR' := hR
  obtain ⟨w, h, A, G, hM, _, hA, _, ⟨hW, hV, _⟩, _, _, hn, _⟩ := hR'
  have hE := hA.2.1
  have h3 := hE.1
  obtain ⟨s, s1, s2, rfl⟩ := iI_of p0
  have k1 : ∀ (n : Nat) (s a : Int), 0 ≤ s → (n : Int) + s = 64 → 0 ≤ a → a + n ≤ 64 → ∀ F : Nat, n < F → f_X12_covered_b29 v17 F (iI a, iI s) = some (iI (sUn A n s a)) := by
    intro n
    induction n with
    | zero =>
      intro s a k1 k2 a1 a2 F hF
      obtain ⟨F, rfl⟩ : ∃ F', F = F' + 1 := ⟨F - 1, by omega⟩
      show f_X12_covered_b29B v17 (f_X12_covered_b29 v17 F) (iI a) (iI s) = _
      unfold f_X12_covered_b29B sUn
      simp (disch := omega) only [iLit, iI_le]
      rw [if_pos (by omega)]
    | succ n ih =>
      intro s a k1 k2 a1 a2 F hF
      obtain ⟨F, rfl⟩ : ∃ F', F = F' + 1 := ⟨F - 1, by omega⟩
      show f_X12_covered_b29B v17 (f_X12_covered_b29 v17 F) (iI a) (iI s) = _
      have hb : 0 ≤ sCv A s ∧ sCv A s ≤ 16 := sCov_bd (A 1).toNat 0 0 (by omega) (by omega)
      unfold f_X12_covered_b29B sUn f_X12_covered_b49
      simp (disch := omega) only [iLit, iI_le, z_coverOf hM hE, bind_s, iI_eq, iI_add, lt_e]
      rw [if_neg (by omega)]
      split
      · exact ih (s + 1) _ (by omega) (by omega) (by omega) (by omega) F (by omega)
      · exact ih (s + 1) _ (by omega) (by omega) (by omega) (by omega) F (by omega)
  have k2 : ∀ (n : Nat) (s a : Int), 0 ≤ s → (n : Int) + s = 64 → 0 ≤ a → a + n ≤ 64 → ∀ F : Nat, n < F → f_X1_sidesUnseen_b4 v8 F (iI a, iI s) = some (iI (sUn A n s a)) := by
    intro n
    induction n with
    | zero =>
      intro s a k1 k2 a1 a2 F hF
      obtain ⟨F, rfl⟩ : ∃ F', F = F' + 1 := ⟨F - 1, by omega⟩
      show f_X1_sidesUnseen_b4B v8 (f_X1_sidesUnseen_b4 v8 F) (iI a) (iI s) = _
      unfold f_X1_sidesUnseen_b4B sUn
      simp (disch := omega) only [iLit, iI_le]
      rw [if_pos (by omega)]
    | succ n ih =>
      intro s a k1 k2 a1 a2 F hF
      obtain ⟨F, rfl⟩ : ∃ F', F = F' + 1 := ⟨F - 1, by omega⟩
      show f_X1_sidesUnseen_b4B v8 (f_X1_sidesUnseen_b4 v8 F) (iI a) (iI s) = _
      have hb : 0 ≤ sCv A s ∧ sCv A s ≤ 16 := sCov_bd (A 1).toNat 0 0 (by omega) (by omega)
      unfold f_X1_sidesUnseen_b4B sUn f_X1_sidesUnseen_b21
      simp (disch := omega) only [iLit, iI_le, z_lensesTo hV hE, bind_s, iI_eq, iI_add, lt_e]
      rw [if_neg (by omega)]
      split
      · exact ih (s + 1) _ (by omega) (by omega) (by omega) (by omega) F (by omega)
      · rw [Int.add_zero]
        exact ih (s + 1) _ (by omega) (by omega) (by omega) (by omega) F (by omega)
  unfold f_X11_covered f_X12_covered f_X12_covered_b14 f_X1_sidesUnseen
  simp (disch := omega) only [z_isSide, z_isSideM, bind_s, bI_0I, ite_not, iLit, iI_neg, iI_eq]
  rw [k1 64 0 0 (by omega) (by omega) (by omega) (by omega) fU (by rw [fU_v]; omega), k2 64 0 0 (by omega) (by omega) (by omega) (by omega) fU (by rw [fU_v]; omega)]
  by_cases hs : 0 ≤ s ∧ s ≤ 63
  · rw [if_pos hs, if_neg (show ¬ s = -1 by omega), if_pos hs, if_neg (show ¬ s = -1 by omega), z_lensesTo hV hE hs.1 (by omega), z_coverOf hM hE hs.1 (by omega)]
    exact ⟨_, rfl, rfl, hR⟩
  · by_cases hm : s = -1
    · rw [if_neg hs, if_pos hm, if_pos hm, if_pos hm]
      exact ⟨_, rfl, rfl, hR⟩
    · rw [if_neg hs, if_neg hm, if_neg hm, if_neg hs]
      exact ⟨_, rfl, rfl, hR⟩
