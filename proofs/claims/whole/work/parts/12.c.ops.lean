-- layer 2: ends, width
theorem iI_tdiv {a b : Int} (h1 : -2147483648 < a) (h2 : a < 2147483648) (h3 : 0 < b) (h4 : b < 2147483648) : iI a / iI b = iI (a.tdiv b) := by
  have h7 : iI b ≠ -1 := by
    intro h
    have h8 := congrArg Int32.toInt h
    rw [iI_toInt (by omega) h4, show ((-1 : Int32)).toInt = -1 from rfl] at h8
    omega
  have hq : -2147483648 < a.tdiv b ∧ a.tdiv b < 2147483648 := by
    by_cases ha : 0 ≤ a
    · rw [Int.tdiv_eq_ediv_of_nonneg ha]
      have h5 := Int.ediv_nonneg ha (Int.le_of_lt h3)
      have h6 := Int.ediv_le_self b ha
      omega
    · have e : a = -(-a) := by omega
      rw [e, Int.neg_tdiv, Int.tdiv_eq_ediv_of_nonneg (by omega)]
      have h5 := Int.ediv_nonneg (a := -a) (by omega) (Int.le_of_lt h3)
      have h6 := Int.ediv_le_self (a := -a) b (by omega)
      omega
  rw [← Int32.toInt_inj, Int32.toInt_div_of_ne_right _ _ h7, iI_toInt (by omega) h2, iI_toInt (by omega) h4, iI_toInt (by omega) (by omega)]
theorem iI_xor_nn {a b : Int} (h1 : -2147483648 ≤ a) (h2 : a < 2147483648) (h3 : 0 ≤ b) (h4 : b < 2147483648) : (iI 0 ≤ iI a ^^^ iI b) ↔ 0 ≤ a := by
  rw [Int32.le_iff_toInt_le, iI_toInt (by omega) (by omega)]
  have e1 : (iI a ^^^ iI b).toBitVec = (iI a).toBitVec ^^^ (iI b).toBitVec := rfl
  have m1 : (iI a).toBitVec.msb = decide (a < 0) := by
    rw [BitVec.msb_eq_toInt]
    show decide ((iI a).toInt < 0) = _
    rw [iI_toInt h1 h2]
  have m2 : (iI b).toBitVec.msb = decide (b < 0) := by
    rw [BitVec.msb_eq_toInt]
    show decide ((iI b).toInt < 0) = _
    rw [iI_toInt (by omega) h4]
  have m3 : ((iI a) ^^^ (iI b)).toBitVec.msb = decide ((iI a ^^^ iI b).toInt < 0) := by
    rw [BitVec.msb_eq_toInt]
    rfl
  rw [e1, BitVec.msb_xor, m1, m2] at m3
  by_cases ha : 0 ≤ a
  · rw [decide_eq_false (by omega), decide_eq_false (by omega)] at m3
    have := of_decide_eq_false m3.symm
    omega
  · rw [decide_eq_true (by omega), decide_eq_false (by omega)] at m3
    have := of_decide_eq_true m3.symm
    omega
theorem fl_id {a b : Int} (hb : 1 ≤ b) (hb2 : b ≤ 16) (ha : a < 0) : (if -(-a / b) * b = a then -(-a / b) else -(-a / b) - 1) = a / b ∧ -((b - 1 - a) / b) = a / b := by
  have : b = 1 ∨ b = 2 ∨ b = 3 ∨ b = 4 ∨ b = 5 ∨ b = 6 ∨ b = 7 ∨ b = 8 ∨ b = 9 ∨ b = 10 ∨ b = 11 ∨ b = 12 ∨ b = 13 ∨ b = 14 ∨ b = 15 ∨ b = 16 := by omega
  rcases this with h | h | h | h | h | h | h | h | h | h | h | h | h | h | h | h <;> subst h <;> refine ⟨?_, by omega⟩ <;> split <;> omega
theorem z_floorDiv {a b : Int} (hb : 1 ≤ b) (hb2 : b ≤ 16) (h1 : -1000000000 ≤ a) (h2 : a ≤ 1000000000) : f_J9_floorDiv_7cf53 (iI a) (iI b) = some (iI (a / b)) := by
  unfold f_J9_floorDiv_7cf53
  simp (disch := omega) only [iLit, iI_eq, gd_t, iI_tdiv, lt_e, iI_xor_nn, iI_mul, iI_sub]
  by_cases ha : 0 ≤ a
  · rw [if_pos ha, Int.tdiv_eq_ediv_of_nonneg ha]
  · have e : a.tdiv b = -(-a / b) := by
      have e : a = -(-a) := by omega
      rw [e, Int.neg_tdiv, Int.tdiv_eq_ediv_of_nonneg (by omega), Int.neg_neg]
    have h5 := Int.ediv_nonneg (a := -a) (b := b) (by omega) (by omega)
    have h6 := Int.ediv_le_self (a := -a) b (by omega)
    have h7 : 0 ≤ (-a / b) * b := Int.mul_nonneg h5 (by omega)
    have h8 : (-a / b) * b ≤ -a := Int.ediv_mul_le (-a) (by omega)
    have h9 : -(-a / b) * b = -((-a / b) * b) := Int.neg_mul _ _
    have hf := (fl_id hb hb2 (show a < 0 by omega)).1
    rw [if_neg ha, e]
    simp (disch := omega) only [iI_eq]
    rw [← hf]
    split <;> rfl
theorem z_floorB {a b : Int} (hb : 1 ≤ b) (hb2 : b ≤ 16) (h1 : -1000000000 ≤ a) (h2 : a ≤ 1000000000) : f_X12_floor (iI a) (iI b) = some (iI (a / b)) := by
  unfold f_X12_floor
  by_cases h : a < 0
  · simp (disch := omega) only [iLit, iI_div, iI_sub, iI_neg, iI_eq, iI_lt, gd_t]
    rw [if_pos h, (fl_id hb hb2 h).2]
  · simp (disch := omega) only [iLit, iI_lt, iI_eq, gd_t]
    rw [if_neg h, iI_div (by omega) (by omega) (by omega) (by omega)]
theorem z_ceilDiv {a b : Int} (hb : 1 ≤ b) (hb2 : b ≤ 16) (h1 : -1000000000 ≤ a) (h2 : a ≤ 1000000000) : f_X11_ceilDiv (iI a) (iI b) = some (iI (-(-a / b))) := by
  unfold f_X11_ceilDiv
  simp (disch := omega) only [iLit, iI_le, iI_neg, z_floorDiv, bind_s]
  rw [if_neg (by omega)]
/-- open ends, from lens k on -/
def sEn (A T : Int → Int) (side head : Int) : Nat → Int → Int → Int → Int × Int
  | 0, _, l, g => (l, g)
  | n + 1, k, l, g => if sAp A k side ≤ A (620 + 2 * k + 1) then
      sEn A T side head n (k + 1)
        (if l < -(-(sTake T (A (620 + 2 * k)) (A (620 + 2 * k + 1)) head * ((A (620 + 2 * k + 1) + 1) * (A (620 + 2 * k + 1) + 1)) - 255 * ((A (620 + 2 * k + 1) + 1) * (A (620 + 2 * k + 1) + 1) - (A (620 + 2 * k + 1) + 1 - sAp A k side))) / (A (620 + 2 * k + 1) + 1 - sAp A k side)) then -(-(sTake T (A (620 + 2 * k)) (A (620 + 2 * k + 1)) head * ((A (620 + 2 * k + 1) + 1) * (A (620 + 2 * k + 1) + 1)) - 255 * ((A (620 + 2 * k + 1) + 1) * (A (620 + 2 * k + 1) + 1) - (A (620 + 2 * k + 1) + 1 - sAp A k side))) / (A (620 + 2 * k + 1) + 1 - sAp A k side)) else l)
        (if ((sTake T (A (620 + 2 * k)) (A (620 + 2 * k + 1)) head + 1) * ((A (620 + 2 * k + 1) + 1) * (A (620 + 2 * k + 1) + 1)) - 1) / (A (620 + 2 * k + 1) + 1 - sAp A k side) < g then ((sTake T (A (620 + 2 * k)) (A (620 + 2 * k + 1)) head + 1) * ((A (620 + 2 * k + 1) + 1) * (A (620 + 2 * k + 1) + 1)) - 1) / (A (620 + 2 * k + 1) + 1 - sAp A k side) else g)
      else sEn A T side head n (k + 1) l g
theorem en_bd {tk q b : Int} (h1 : 0 ≤ tk) (h2 : tk ≤ 255) (h3 : 0 < q) (h4 : q ≤ 64) (h5 : 1 ≤ b) (h6 : b ≤ 8) : (0 ≤ tk * q ∧ tk * q ≤ 16320) ∧ (0 ≤ (tk + 1) * q - 1 ∧ (tk + 1) * q - 1 ≤ 16384) ∧ (-20000 ≤ -(tk * q - 255 * (q - b)) / b ∧ -(tk * q - 255 * (q - b)) / b ≤ 20000) ∧ (0 ≤ ((tk + 1) * q - 1) / b ∧ ((tk + 1) * q - 1) / b ≤ 16384) := by
  have e1 : 0 ≤ tk * q := Int.mul_nonneg h1 (by omega)
  have e2 : tk * q ≤ 255 * q := Int.mul_le_mul_of_nonneg_right h2 (by omega)
  have e3 : (tk + 1) * q = tk * q + q := by rw [Int.add_mul, Int.one_mul]
  have : b = 1 ∨ b = 2 ∨ b = 3 ∨ b = 4 ∨ b = 5 ∨ b = 6 ∨ b = 7 ∨ b = 8 := by omega
  rcases this with h | h | h | h | h | h | h | h <;> subst h <;> omega
theorem z_ends1 {m : BX12} {w h : Int} {A T : Int → Int} (hM : MW m w h A) (hE : InE A) (hm : ∀ s : Int, 0 ≤ s → s < 64 → pX12_taken m s.toNat = iI (T s)) (hT : ∀ s, 0 ≤ s → s < 64 → 0 ≤ T s ∧ T s ≤ 255) {side head : Int} (hs : 0 ≤ side) (hs2 : side < 64) (hh : 0 ≤ head) (hh2 : head < 64) (hi : Int32) : ∀ (n : Nat) (k l g : Int), 0 ≤ k → (n : Int) + k = A 1 → (-20000 ≤ l ∧ l ≤ 20000) → (-20000 ≤ g ∧ g ≤ 20000) → ∀ F : Nat, n < F → f_X12_ends_b44 F (iI side, iI head, hi, iI l, iI g, iI k, m) = some (if hi = iI 0 then iI (sEn A T side head n k l g).1 else iI (sEn A T side head n k l g).2, m) := by
  intro n
  have h3 := hE.1
  induction n with
  | zero =>
    intro k l g k1 k2 hl hg F hF
    obtain ⟨F, rfl⟩ : ∃ F', F = F' + 1 := ⟨F - 1, by omega⟩
    show f_X12_ends_b44B (f_X12_ends_b44 F) (iI side) (iI head) hi (iI l) (iI g) (iI k) m = _
    unfold f_X12_ends_b44B sEn
    simp (disch := omega) only [iLit, iI_inB, gd_t, iI_cl, hM.at, iI_le]
    rw [if_pos (by omega)]
    split <;> rfl
  | succ n ih =>
    intro k l g k1 k2 hl hg F hF
    obtain ⟨F, rfl⟩ : ∃ F', F = F' + 1 := ⟨F - 1, by omega⟩
    show f_X12_ends_b44B (f_X12_ends_b44 F) (iI side) (iI head) hi (iI l) (iI g) (iI k) m = _
    have hk := hE.2.2.1 k k1 (by omega)
    have hb := sAp_bd hE k1 (show k < 16 by omega) hs hs2
    have hq := sq_bd hk.2.1 hk.2.2
    have ht := sTake_255 hT (side := A (620 + 2 * k)) (head := head) hk.2.1 hk.2.2
    unfold f_X12_ends_b44B f_X12_ends_b171 f_X12_ends_b182 sEn
    simp (disch := omega) only [iLit, iI_inB, gd_t, iI_cl, hM.at, iI_le, iI_mul, iI_add, z_apart hM hE, bind_s, lt_e, z_lensTake hM hE hm hT]
    rw [if_neg (by omega)]
    by_cases hc : sAp A k side ≤ A (620 + 2 * k + 1)
    · have hen := en_bd ht.1 ht.2 hq.1 hq.2 (b := A (620 + 2 * k + 1) + 1 - sAp A k side) (by omega) (by omega)
      rw [if_pos hc, if_pos hc]
      simp (disch := omega) only [iI_sub, iI_mul, iI_neg, z_floorB, bind_s, iI_eq, gd_t, iI_div, iI_le]
      by_cases c1 : l < -(-(sTake T (A (620 + 2 * k)) (A (620 + 2 * k + 1)) head * ((A (620 + 2 * k + 1) + 1) * (A (620 + 2 * k + 1) + 1)) - 255 * ((A (620 + 2 * k + 1) + 1) * (A (620 + 2 * k + 1) + 1) - (A (620 + 2 * k + 1) + 1 - sAp A k side))) / (A (620 + 2 * k + 1) + 1 - sAp A k side))
      · rw [if_pos c1, if_neg (Int.not_le.mpr c1)]
        by_cases c2 : ((sTake T (A (620 + 2 * k)) (A (620 + 2 * k + 1)) head + 1) * ((A (620 + 2 * k + 1) + 1) * (A (620 + 2 * k + 1) + 1)) - 1) / (A (620 + 2 * k + 1) + 1 - sAp A k side) < g
        · rw [if_pos c2, if_neg (Int.not_le.mpr c2)]
          exact ih (k + 1) _ _ (by omega) (by omega) (by omega) (by omega) F (by omega)
        · rw [if_neg c2, if_pos (Int.not_lt.mp c2)]
          exact ih (k + 1) _ _ (by omega) (by omega) (by omega) (by omega) F (by omega)
      · rw [if_neg c1, if_pos (Int.not_lt.mp c1)]
        by_cases c2 : ((sTake T (A (620 + 2 * k)) (A (620 + 2 * k + 1)) head + 1) * ((A (620 + 2 * k + 1) + 1) * (A (620 + 2 * k + 1) + 1)) - 1) / (A (620 + 2 * k + 1) + 1 - sAp A k side) < g
        · rw [if_pos c2, if_neg (Int.not_le.mpr c2)]
          exact ih (k + 1) _ _ (by omega) (by omega) (by omega) (by omega) F (by omega)
        · rw [if_neg c2, if_pos (Int.not_lt.mp c2)]
          exact ih (k + 1) _ _ (by omega) (by omega) (by omega) (by omega) F (by omega)
    · rw [if_neg hc, if_neg hc]
      exact ih (k + 1) _ _ (by omega) (by omega) (by omega) (by omega) F (by omega)
theorem z_ends2 {v0 : BX11} {v1 : BX8} {e : BX1} {u : BX10} {w h : Int} {A : Int → Int} (hV : REy e A) (hE : InE A) (hW : RWo u w h A) (hI : InW w h A) {x y t : Int} (hx : 0 ≤ x ∧ x < 16 * w) (hy : 0 ≤ y ∧ y < 16 * h) {side head : Int} (hs : 0 ≤ side) (hs2 : side < 64) (hh : 0 ≤ head) (hh2 : head < 64) (hi : Int32) : ∀ (n : Nat) (k l g : Int) (v : BX7), SG v w h A x y t → 0 ≤ k → (n : Int) + k = A 1 → (-20000 ≤ l ∧ l ≤ 20000) → (-20000 ≤ g ∧ g ≤ 20000) → ∀ F : Nat, n < F → Wp (f_X11_ends_b50 v0 v1 e u F (iI side, iI head, hi, iI l, iI g, iI k, v)) (fun r => r.1 = (if hi = iI 0 then iI (sEn A (sT w h A x y t) side head n k l g).1 else iI (sEn A (sT w h A x y t) side head n k l g).2) ∧ SG r.2 w h A x y t) := by
  intro n
  have h3 := hE.1
  have hT := sT_bd hI x y t
  induction n with
  | zero =>
    intro k l g v hS k1 k2 hl hg F hF
    obtain ⟨F, rfl⟩ : ∃ F', F = F' + 1 := ⟨F - 1, by omega⟩
    show Wp (f_X11_ends_b50B v0 v1 e u (f_X11_ends_b50 v0 v1 e u F) (iI side) (iI head) hi (iI l) (iI g) (iI k) v) _
    unfold f_X11_ends_b50B sEn
    simp (disch := omega) only [iLit, hV.1, iI_le]
    rw [if_pos (by omega)]
    split
    · exact wp_some ⟨rfl, hS⟩
    · exact wp_some ⟨rfl, hS⟩
  | succ n ih =>
    intro k l g v hS k1 k2 hl hg F hF
    obtain ⟨F, rfl⟩ : ∃ F', F = F' + 1 := ⟨F - 1, by omega⟩
    show Wp (f_X11_ends_b50B v0 v1 e u (f_X11_ends_b50 v0 v1 e u F) (iI side) (iI head) hi (iI l) (iI g) (iI k) v) _
    have hk := hE.2.2.1 k k1 (by omega)
    have hkc := hV.2.2.1 k k1 (by omega)
    have hb := sAp_bd hE k1 (show k < 16 by omega) hs hs2
    have hq := sq_bd hk.2.1 hk.2.2
    have ht := sTake_255 hT (side := A (620 + 2 * k)) (head := head) hk.2.1 hk.2.2
    have hwb : 0 ≤ sWt A k side ∧ sWt A k side ≤ 8 := by
      unfold sWt
      split <;> omega
    unfold f_X11_ends_b50B f_X11_ends_b161 sEn f_X1_allWeights
    simp (disch := omega) only [iLit, hV.1, iI_le, z_weightOf hV hE, bind_s, iI_inB, gd_t, iI_cl, hkc.1, hkc.2, iI_add, iI_mul, lt_e]
    rw [if_neg (by omega)]
    by_cases hc : sAp A k side ≤ A (620 + 2 * k + 1)
    · have hen := en_bd ht.1 ht.2 hq.1 hq.2 (b := A (620 + 2 * k + 1) + 1 - sAp A k side) (by omega) (by omega)
      have ew : sWt A k side = A (620 + 2 * k + 1) + 1 - sAp A k side := by
        unfold sWt
        rw [if_pos (by omega)]
      rw [ew, if_neg (by omega), if_pos hc]
      refine wp_bind (wp_mono (z_weigh hW hI hS hx hy hk.1.1 hk.1.2 hh hh2 hk.2.1 hk.2.2) (fun r hr => ?_))
      rw [hr.1]
      simp (disch := omega) only [iI_sub, iI_add, iI_mul, iI_neg, z_ceilDiv, bind_s, iI_eq, gd_t, iI_div, iI_lt]
      have e1 : ∀ a b : Int, (if a < b then iI b else iI a) = iI (if a < b then b else a) := by
        intro a b
        split <;> rfl
      have e2 : ∀ a b : Int, (if a < b then iI a else iI b) = iI (if a < b then a else b) := by
        intro a b
        split <;> rfl
      rw [e1, e2]
      exact ih (k + 1) _ _ r.2 hr.2 (by omega) (by omega) (by split <;> omega) (by split <;> omega) F (by omega)
    · have ew : sWt A k side = 0 := by
        unfold sWt
        rw [if_neg (by omega)]
      rw [ew, if_pos (by omega), if_neg hc]
      exact ih (k + 1) _ _ v hS (by omega) (by omega) (by omega) (by omega) F (by omega)
theorem o_ends (RO : ROT) : Op_ends (Rel RO) := by
  intro v0 v1 v2 v3 v4 v5 v6 v7 v8 v9 v10 v11 v12 v13 v14 v15 v16 v17 v18 hR p0 p1 p2 p3 p4
  have hR' := hR
  obtain ⟨w, h, A, G, hM, _, hA, _, ⟨hW, hE, _⟩, _, _, hn, _⟩ := hR'
  obtain ⟨k, k1, k2, rfl⟩ := iI_of p0
  obtain ⟨x, x1, x2, rfl⟩ := iI_of p1
  obtain ⟨y, y1, y2, rfl⟩ := iI_of p2
  obtain ⟨s, s1, s2, rfl⟩ := iI_of p3
  have hA1 := hA.2.1.1
  unfold f_X11_ends f_X12_ends
  simp (disch := omega) only [z_isPlace hM hA.1, z_isStanding hW hA.1, z_isSide, z_isSideM, bind_s, bI_0I, ite_not, iLit]
  by_cases hk : 0 ≤ k ∧ k ≤ 63
  · by_cases hp : (0 ≤ x ∧ x < 16 * w) ∧ 0 ≤ y ∧ y < 16 * h
    · by_cases hs : 0 ≤ s ∧ s ≤ 63
      · rw [if_pos hk, if_pos hk, if_pos ⟨hp, hs⟩, if_pos hp, if_pos hs]
        obtain ⟨r7, e7, hS⟩ := z_lookC (v := v5) (x := x) (y := y) hW hA.1 hn (t := 0) (by omega) (by omega)
        obtain ⟨q7, f7, hL⟩ := z_look hM hA.1 (t := 0) (by omega) (by omega) hp.1 hp.2
        obtain ⟨r8, e8, hr8⟩ := z_ends2 (v0 := v0) (v1 := v2) hE hA.2.1 hW hA.1 hp.1 hp.2 hk.1 (show k < 64 by omega) hs.1 (show s < 64 by omega) p4 (A 1).toNat 0 0 255 r7 hS (by omega) (by omega) (by omega) (by omega) fU (by rw [fU_v]; omega)
        rw [e7, f7, bind_s, bind_s, e8, z_ends1 (hL.1.mw hM) hA.2.1 hL.2 (sT_bd hA.1 x y 0) hk.1 (show k < 64 by omega) hs.1 (show s < 64 by omega) p4 (A 1).toNat 0 0 255 (by omega) (by omega) (by omega) (by omega) fU (by rw [fU_v]; omega)]
        exact ⟨_, _, _, congrArg some (Prod.ext hr8.1 rfl), rfl, hR.scr hL.1.p (hr8.2.1.trans hn.symm) rfl rfl rfl⟩
      · rw [if_pos hk, if_pos hk, if_neg (by omega), if_pos hp, if_neg hs]
        exact ⟨_, _, _, rfl, rfl, hR⟩
    · rw [if_pos hk, if_pos hk, if_neg (fun e => hp e.1), if_neg hp]
      exact ⟨_, _, _, rfl, rfl, hR⟩
  · rw [if_neg hk, if_neg hk]
    exact ⟨_, _, _, rfl, rfl, hR⟩
