-- layer 2: numbers as integers
def iI (z : Int) : Int32 := Int32.ofInt z
theorem iI_add (a b : Int) : iI a + iI b = iI (a + b) := (Int32.ofInt_add a b).symm
theorem iI_sub (a b : Int) : iI a - iI b = iI (a - b) := (Int32.ofInt_sub a b).symm
theorem iI_mul (a b : Int) : iI a * iI b = iI (a * b) := (Int32.ofInt_mul a b).symm
theorem iI_neg (a : Int) : -iI a = iI (-a) := (Int32.ofInt_neg a).symm
theorem iI_lit (n : Nat) : (OfNat.ofNat n : Int32) = iI (n : Int) := (Int32.ofInt_eq_ofNat (n := n)).symm
theorem iI_ofNat (n : Nat) : Int32.ofNat n = iI (n : Int) := (Int32.ofInt_eq_ofNat (n := n)).symm
theorem iI_0 : (0 : Int32) = iI 0 := rfl
theorem iI_1 : (1 : Int32) = iI 1 := rfl
theorem iI_self (x : Int32) : iI x.toInt = x := Int32.ofInt_toInt x
theorem iI_of (x : Int32) : ∃ z : Int, -2147483648 ≤ z ∧ z < 2147483648 ∧ x = iI z := ⟨x.toInt, Int32.le_toInt x, Int32.toInt_lt x, (iI_self x).symm⟩
theorem iI_toInt {a : Int} (h1 : -2147483648 ≤ a) (h2 : a < 2147483648) : (iI a).toInt = a := Int32.toInt_ofInt_of_le h1 h2
theorem iI_lt {a b : Int} (h1 : -2147483648 ≤ a) (h2 : a < 2147483648) (h3 : -2147483648 ≤ b) (h4 : b < 2147483648) : iI a < iI b ↔ a < b := by
  rw [Int32.lt_iff_toInt_lt, iI_toInt h1 h2, iI_toInt h3 h4]
theorem iI_le {a b : Int} (h1 : -2147483648 ≤ a) (h2 : a < 2147483648) (h3 : -2147483648 ≤ b) (h4 : b < 2147483648) : iI a ≤ iI b ↔ a ≤ b := by
  rw [Int32.le_iff_toInt_le, iI_toInt h1 h2, iI_toInt h3 h4]
theorem iI_eq {a b : Int} (h1 : -2147483648 ≤ a) (h2 : a < 2147483648) (h3 : -2147483648 ≤ b) (h4 : b < 2147483648) : iI a = iI b ↔ a = b := by
  rw [← Int32.toInt_inj, iI_toInt h1 h2, iI_toInt h3 h4]
theorem iI_inB {a : Int} {n : Nat} (h1 : -2147483648 ≤ a) (h2 : a < 2147483648) : inB (iI a) n ↔ (0 ≤ a ∧ a < (n : Int)) := by
  unfold inB
  rw [iI_toInt h1 h2]
theorem iI_cl {a : Int} (h1 : 0 ≤ a) (h2 : a < 2147483648) : (iI a).toNatClampNeg = a.toNat := by
  show (iI a).toInt.toNat = a.toNat
  rw [iI_toInt (by omega) h2]
theorem iI_div {a b : Int} (h1 : 0 ≤ a) (h2 : a < 2147483648) (h3 : 0 < b) (h4 : b < 2147483648) : iI a / iI b = iI (a / b) := by
  have h5 : 0 ≤ a / b := Int.ediv_nonneg h1 (by omega)
  have h6 : a / b ≤ a := Int.ediv_le_self b h1
  have h7 : iI b ≠ -1 := by
    intro h
    have h8 := congrArg Int32.toInt h
    rw [iI_toInt (by omega) h4, show ((-1 : Int32)).toInt = -1 from rfl] at h8
    omega
  rw [← Int32.toInt_inj, Int32.toInt_div_of_ne_right _ _ h7, iI_toInt (by omega) h2, iI_toInt (by omega) h4, iI_toInt (by omega) (by omega), Int.tdiv_eq_ediv_of_nonneg h1]
def bI (p : Prop) [Decidable p] : Int32 := if p then 1 else 0
theorem bI_t {p : Prop} [Decidable p] (h : p) : bI p = 1 := if_pos h
theorem bI_f {p : Prop} [Decidable p] (h : ¬ p) : bI p = 0 := if_neg h
theorem bI_01 (p : Prop) [Decidable p] : bI p = 0 ∨ bI p = 1 := by
  by_cases h : p
  · exact Or.inr (bI_t h)
  · exact Or.inl (bI_f h)
theorem bI_0 {p : Prop} [Decidable p] : bI p = 0 ↔ ¬ p := by
  by_cases h : p
  · rw [bI_t h]
    exact ⟨fun e => absurd e (by decide), fun e => absurd h e⟩
  · rw [bI_f h]
    exact ⟨fun _ => h, fun _ => rfl⟩
theorem bI_cg {p q : Prop} [Decidable p] [Decidable q] (h : p ↔ q) : bI p = bI q := by
  by_cases hq : q
  · rw [bI_t hq, bI_t (h.mpr hq)]
  · rw [bI_f hq, bI_f (fun hp => hq (h.mp hp))]
theorem sw_isWithin (a b c : Int32) : f_X11_isWithin a b c = some (bI (b ≤ a ∧ a ≤ c)) := by
  unfold f_X11_isWithin bI
  simp only [Int32.lt_iff_toInt_lt, Int32.le_iff_toInt_le]
  split
  · rw [if_neg (by omega)]
  · split
    · rw [if_neg (by omega)]
    · rw [if_pos (by omega)]
theorem sw_isIn (a b c : Int32) : f_X12_isIn a b c = some (bI (b ≤ a ∧ a ≤ c)) := sw_isWithin a b c
/-- what a test of a range says of integers -/
theorem rng_iff {a b c : Int} (h1 : -2147483648 ≤ a) (h2 : a < 2147483648) (h3 : -2147483648 ≤ b) (h4 : b < 2147483648) (h5 : -2147483648 ≤ c) (h6 : c < 2147483648) : (iI b ≤ iI a ∧ iI a ≤ iI c) ↔ (b ≤ a ∧ a ≤ c) := by
  rw [iI_le h3 h4 h1 h2, iI_le h1 h2 h5 h6]
theorem sz_isWithin {a b c : Int} (h1 : -2147483648 ≤ a) (h2 : a < 2147483648) (h3 : -2147483648 ≤ b) (h4 : b < 2147483648) (h5 : -2147483648 ≤ c) (h6 : c < 2147483648) : f_X11_isWithin (iI a) (iI b) (iI c) = some (bI (b ≤ a ∧ a ≤ c)) := by
  rw [sw_isWithin, bI_cg (rng_iff h1 h2 h3 h4 h5 h6)]
theorem sz_isIn {a b c : Int} (h1 : -2147483648 ≤ a) (h2 : a < 2147483648) (h3 : -2147483648 ≤ b) (h4 : b < 2147483648) (h5 : -2147483648 ≤ c) (h6 : c < 2147483648) : f_X12_isIn (iI a) (iI b) (iI c) = some (bI (b ≤ a ∧ a ≤ c)) := sz_isWithin h1 h2 h3 h4 h5 h6
theorem g_gd_b (p : Prop) [Decidable p] {α : Type} (k : Option α) : g_gd (bI p = 0 ∨ bI p = 1) k = k := g_gdi (bI_01 p)
theorem sz_isSide {a : Int} (h1 : -2147483648 ≤ a) (h2 : a < 2147483648) : f_X11_isSide (iI a) = some (bI (0 ≤ a ∧ a ≤ 63)) := by
  unfold f_X11_isSide
  rw [show (0 : Int32) = iI 0 from rfl, show (63 : Int32) = iI 63 from rfl, sz_isWithin h1 h2 (by omega) (by omega) (by omega) (by omega)]
  exact g_gd_b _ _
theorem sz_isSideM {a : Int} (h1 : -2147483648 ≤ a) (h2 : a < 2147483648) : f_X12_isSide (iI a) = some (bI (0 ≤ a ∧ a ≤ 63)) := sz_isSide h1 h2
theorem sz_isTick {a : Int} (h1 : -2147483648 ≤ a) (h2 : a < 2147483648) : f_X11_isTick (iI a) = some (bI (0 ≤ a ∧ a ≤ 999)) := by
  unfold f_X11_isTick
  rw [show (0 : Int32) = iI 0 from rfl, show (999 : Int32) = iI 999 from rfl, sz_isWithin h1 h2 (by omega) (by omega) (by omega) (by omega)]
  exact g_gd_b _ _
theorem sz_isTickM {a : Int} (h1 : -2147483648 ≤ a) (h2 : a < 2147483648) : f_X12_isTick (iI a) = some (bI (0 ≤ a ∧ a ≤ 999)) := sz_isTick h1 h2
/-- a test that decides the way on -/
theorem bd_if {α : Type} {p : Prop} [Decidable p] (a b : Option α) : (some (bI p)).bind (fun r => if r = 0 then a else b) = if p then b else a := by
  by_cases h : p
  · rw [bI_t h, if_pos h]
    rfl
  · rw [bI_f h, if_neg h]
    rfl
