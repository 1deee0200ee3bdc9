-- layer 2: longs; what a bound takes away
def lI (z : Int) : Int64 := Int64.ofInt z
theorem lI_add (a b : Int) : lI a + lI b = lI (a + b) := (Int64.ofInt_add a b).symm
theorem lI_sub (a b : Int) : lI a - lI b = lI (a - b) := (Int64.ofInt_sub a b).symm
theorem lI_mul (a b : Int) : lI a * lI b = lI (a * b) := (Int64.ofInt_mul a b).symm
theorem lI_neg (a : Int) : -lI a = lI (-a) := (Int64.ofInt_neg a).symm
theorem lLit (n : Nat) : (OfNat.ofNat n : Int64) = lI (OfNat.ofNat n : Int) := (Int64.ofInt_eq_ofNat (n := n)).symm
theorem lI_toInt {a : Int} (h1 : -9223372036854775808 ≤ a) (h2 : a < 9223372036854775808) : (lI a).toInt = a := Int64.toInt_ofInt_of_le h1 h2
theorem lI_lt {a b : Int} (h1 : -9223372036854775808 ≤ a) (h2 : a < 9223372036854775808) (h3 : -9223372036854775808 ≤ b) (h4 : b < 9223372036854775808) : lI a < lI b ↔ a < b := by
  rw [Int64.lt_iff_toInt_lt, lI_toInt h1 h2, lI_toInt h3 h4]
theorem lI_le {a b : Int} (h1 : -9223372036854775808 ≤ a) (h2 : a < 9223372036854775808) (h3 : -9223372036854775808 ≤ b) (h4 : b < 9223372036854775808) : lI a ≤ lI b ↔ a ≤ b := by
  rw [Int64.le_iff_toInt_le, lI_toInt h1 h2, lI_toInt h3 h4]
theorem lI_eq {a b : Int} (h1 : -9223372036854775808 ≤ a) (h2 : a < 9223372036854775808) (h3 : -9223372036854775808 ≤ b) (h4 : b < 9223372036854775808) : lI a = lI b ↔ a = b := by
  rw [← Int64.toInt_inj, lI_toInt h1 h2, lI_toInt h3 h4]
theorem iI_64 {a : Int} (h1 : -2147483648 ≤ a) (h2 : a < 2147483648) : (iI a).toInt64 = lI a := by
  rw [← Int64.toInt_inj, Int32.toInt_toInt64, iI_toInt h1 h2, lI_toInt (by omega) (by omega)]
theorem lI_32 (a : Int) : (lI a).toInt32 = iI a := by
  apply Int32.toBitVec_inj.mp
  show (BitVec.ofInt 64 a).signExtend 32 = BitVec.ofInt 32 a
  apply BitVec.eq_of_toNat_eq
  rw [BitVec.signExtend_eq_setWidth_of_le _ (by omega), BitVec.toNat_setWidth, BitVec.toNat_ofInt, BitVec.toNat_ofInt]
  show (a % 18446744073709551616).toNat % 4294967296 = (a % 4294967296).toNat
  omega
theorem lI_div {a b : Int} (h1 : -4611686018427387904 < a) (h2 : a < 4611686018427387904) (h3 : -4611686018427387904 < b) (h4 : b < 4611686018427387904) : lI a / lI b = lI (a.tdiv b) := by
  have hq : a.tdiv b ≤ 4611686018427387904 ∧ -4611686018427387904 ≤ a.tdiv b := by
    have e : (a.tdiv b).natAbs = a.natAbs / b.natAbs := Int.natAbs_tdiv a b
    have e2 : a.natAbs / b.natAbs ≤ a.natAbs := Nat.div_le_self _ _
    omega
  have hm : ¬ (lI a = Int64.minValue) := by
    intro h
    have := congrArg Int64.toInt h
    rw [lI_toInt (by omega) (by omega)] at this
    have e : Int64.minValue.toInt = -9223372036854775808 := rfl
    omega
  rw [← Int64.toInt_inj, Int64.toInt_div_of_ne_left _ _ hm, lI_toInt (by omega) (by omega), lI_toInt (by omega) (by omega), lI_toInt (by omega) (by omega)]
theorem lcm_ge (x y : Int64) : (iI 0 ≤ lg_cmp x y) ↔ y ≤ x := lg_cmp_ge x y
theorem lcm_le (x y : Int64) : (lg_cmp x y ≤ iI 0) ↔ x ≤ y := lg_cmp_le x y
theorem lcm_gt (x y : Int64) : (iI 0 < lg_cmp x y) ↔ y < x := lg_cmp_gt x y
theorem lcm_lt (x y : Int64) : (lg_cmp x y < iI 0) ↔ x < y := lg_cmp_lt x y
theorem lcm_eq (x y : Int64) : (lg_cmp x y = iI 0) ↔ x = y := lg_cmp_eq x y
/-- what a bound leaves, and whether it took something away -/
def sClip (B z : Int) : Int := if B < z then B else if z < -B then -B else z
def sOv (B z : Int) : Int := if B < z then 1 else if z < -B then 1 else 0
theorem sClip_bd {B z : Int} (hB : 0 ≤ B) : -B ≤ sClip B z ∧ sClip B z ≤ B := by
  unfold sClip
  split
  · omega
  · split <;> omega
theorem sClip_id {B z : Int} (h1 : -B ≤ z) (h2 : z ≤ B) : sClip B z = z ∧ sOv B z = 0 := by
  unfold sClip sOv
  rw [if_neg (by omega), if_neg (by omega), if_neg (by omega), if_neg (by omega)]
  exact ⟨rfl, rfl⟩
theorem z_bring {m : BX12} {B z : Int} (hb : pX12_bound m = lI B) (hB : 0 ≤ B) (hB2 : B ≤ 1000000) (h1 : -4611686018427387904 < z) (h2 : z < 4611686018427387904) {k : Int} (ho : pX12_over m = iI k) : Wp (f_X12_bring m (lI z)) (fun r => r.1 = lI (sClip B z) ∧ (r.2 = m ∨ r.2 = sX12_over m (iI (k + 1))) ∧ pX12_over r.2 = iI (k + sOv B z)) := by
  unfold f_X12_bring f_X12_bring_b19 f_X12_bring_b29 sClip sOv
  simp (disch := omega) only [iLit, hb, ho, lI_neg, lcm_gt, lcm_ge, lcm_le, lI_lt, lI_le, iI_add, lt_e, q12_bound_over]
  by_cases c1 : B < z
  · rw [if_pos c1, if_neg (by omega), if_pos c1, if_pos c1]
    exact wp_some ⟨rfl, Or.inr rfl, q12_over_over _ _⟩
  · by_cases c2 : z < -B
    · rw [if_neg c1, if_neg (by omega), if_pos (by omega), if_neg (by omega), if_neg c1, if_pos c2, if_neg c1, if_pos c2]
      exact wp_some ⟨rfl, Or.inr rfl, q12_over_over _ _⟩
    · rw [if_neg c1, if_pos (by omega), if_pos (by omega), if_pos (by omega), if_neg c1, if_neg c2, if_neg c1, if_neg c2]
      exact wp_some ⟨rfl, Or.inl rfl, by rw [ho, Int.add_zero]⟩
theorem z_bounded {c : BX6} {B z : Int} (hb : pX6_bound c = iI B) (hB : 0 ≤ B) (hB2 : B ≤ 1000000) (h1 : -4611686018427387904 < z) (h2 : z < 4611686018427387904) {k : Int} (ho : pX6_over c = iI k) : Wp (f_X6_bounded c (lI z)) (fun r => r.1 = iI (sClip B z) ∧ (r.2 = c ∨ r.2 = sX6_over c (iI (k + 1))) ∧ pX6_over r.2 = iI (k + sOv B z)) := by
  unfold f_X6_bounded sClip sOv
  simp (disch := omega) only [iLit, hb, ho, iI_neg, iI_64, lcm_gt, lcm_ge, lcm_le, lI_lt, lI_le, iI_add, lt_e, q6_bound_over, lI_32]
  by_cases c1 : B < z
  · rw [if_neg (by omega), if_pos c1, if_pos c1]
    exact wp_some ⟨rfl, Or.inr rfl, q6_over_over _ _⟩
  · by_cases c2 : z < -B
    · rw [if_pos (by omega), if_neg (by omega), if_neg c1, if_pos c2, if_neg c1, if_pos c2]
      exact wp_some ⟨rfl, Or.inr rfl, q6_over_over _ _⟩
    · rw [if_pos (by omega), if_pos (by omega), if_neg c1, if_neg c2, if_neg c1, if_neg c2]
      exact wp_some ⟨rfl, Or.inl rfl, by rw [ho, Int.add_zero]⟩
