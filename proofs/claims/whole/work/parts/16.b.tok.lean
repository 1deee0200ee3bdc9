-- layer 2: tokens of a text; the reference's next token
abbrev isL (c : Int) : Prop := (97 ≤ c ∧ c ≤ 122) ∨ (65 ≤ c ∧ c ≤ 90)
abbrev isD (c : Int) : Prop := 48 ≤ c ∧ c ≤ 57
abbrev isB (c : Int) : Prop := c = 32 ∨ c = 10
def nC (Z : Int → Int) (s : Int) : Nat → Int
  | 0 => 0
  | n + 1 => if nC Z s n * 10 + Z (s + (n : Int)) - 48 < 10000 then nC Z s n * 10 + Z (s + (n : Int)) - 48 else 10000
def wC (Z : Int → Int) (s : Int) : Nat → Int
  | 0 => 0
  | n + 1 => if wC Z s n < 0 ∨ 16777215 < wC Z s n then -2 else wC Z s n * 256 + Z (s + (n : Int))
theorem nC_s {Z : Int → Int} {s i : Int} (h : s ≤ i) : nC Z s (i + 1 - s).toNat = if nC Z s (i - s).toNat * 10 + Z i - 48 < 10000 then nC Z s (i - s).toNat * 10 + Z i - 48 else 10000 := by
  rw [show (i + 1 - s).toNat = (i - s).toNat + 1 by omega]
  unfold nC
  rw [show s + ((i - s).toNat : Int) = i by omega]
  cases (i - s).toNat <;> rfl
theorem wC_s {Z : Int → Int} {s i : Int} (h : s ≤ i) : wC Z s (i + 1 - s).toNat = if wC Z s (i - s).toNat < 0 ∨ 16777215 < wC Z s (i - s).toNat then -2 else wC Z s (i - s).toNat * 256 + Z i := by
  rw [show (i + 1 - s).toNat = (i - s).toNat + 1 by omega]
  unfold wC
  rw [show s + ((i - s).toNat : Int) = i by omega]
  cases (i - s).toNat <;> rfl
abbrev SgK (c : Int) : Prop := c = 60 ∨ c = 62 ∨ c = 61 ∨ c = 35 ∨ c = 43 ∨ c = 45 ∨ c = 42 ∨ c = 47 ∨ c = 40 ∨ c = 41 ∨ c = 44 ∨ c = 59
/-- the token that comes from place p on: it stands at s, ends before e; k and v are its kind and value -/
def Tok (Z : Int → Int) (T p s e k v : Int) : Prop := p ≤ s ∧ (∀ i : Int, p ≤ i → i < s → isB (Z i)) ∧
  ((s = T ∧ e = T ∧ k = -1) ∨
   (s < e ∧ e ≤ T ∧ (∀ i : Int, s ≤ i → i < e → isD (Z i)) ∧ (e < T → ¬ isD (Z e)) ∧ k = -3 ∧ v = nC Z s (e - s).toNat) ∨
   (s < e ∧ e ≤ T ∧ (∀ i : Int, s ≤ i → i < e → isL (Z i)) ∧ (e < T → ¬ isL (Z e)) ∧ v = wC Z s (e - s).toNat ∧ k = if 65 ≤ v ∧ v ≤ 72 then -4 else v) ∨
   (s < T ∧ e = s + 1 ∧ ¬ isB (Z s) ∧ ¬ isD (Z s) ∧ ¬ isL (Z s) ∧ k = Z s ∧ ((Z s = 60 ∨ Z s = 62) → s + 1 < T → Z (s + 1) ≠ 61)) ∨
   (s + 1 < T ∧ e = s + 2 ∧ Z (s + 1) = 61 ∧ ((Z s = 60 ∧ k = -5) ∨ (Z s = 62 ∧ k = -6))))
/-- the reference's token against kind and value -/
def TKM (r : BX12) (k v : Int) : Prop :=
  (k = -1 ∧ pX12_token r = iI 0) ∨
  (k = -3 ∧ pX12_token r = iI 1 ∧ ∃ n : Int, pX12_number r = iI n ∧ (0 ≤ n ∧ n < 1000000) ∧ v = if n < 10000 then n else 10000) ∨
  (pX12_token r = iI 2 ∧ ∃ w : Int, pX12_word r = lI w ∧ (0 ≤ w ∧ w < 281474976710656) ∧ ((65 ≤ w ∧ w < 2147483648 ∧ v = w ∧ k = if 65 ≤ w ∧ w ≤ 72 then -4 else w) ∨ (k = -2 ∧ (w = 0 ∨ 2147483648 ≤ w)))) ∨
  (SgK k ∧ pX12_token r = iI k) ∨ (k = -5 ∧ pX12_token r = iI 4) ∨ (k = -6 ∧ pX12_token r = iI 5) ∨
  (pX12_token r = iI 3 ∧ (0 ≤ k ∧ k ≤ 255) ∧ ¬ SgK k ∧ ¬ isL k ∧ ¬ isD k)
/-- the text that the reference reads -/
def TX (m : BX12) (T : Int) (Z : Int → Int) : Prop := (0 ≤ T ∧ T ≤ 300) ∧ pX12_taped m = iI T ∧ AI (pX12_tape m) Z T ∧ ∀ k : Int, 0 ≤ k → k < T → 0 ≤ Z k ∧ Z k ≤ 255
theorem FrK.tx {m r : BX12} {T : Int} {Z : Int → Int} (f : FrK m r) (h : TX m T Z) : TX r T Z := ⟨h.1, f.taped.trans h.2.1, by rw [f.tape]; exact h.2.2.1, h.2.2.2⟩
def zAt (Z : Int → Int) (T i : Int) : Int := if i < T then Z i else -1
theorem zAt_in {Z : Int → Int} {T i : Int} (h : i < T) : zAt Z T i = Z i := if_pos h
theorem zAt_out {Z : Int → Int} {T i : Int} (h : ¬ i < T) : zAt Z T i = -1 := if_neg h
theorem TX.at_bd {m : BX12} {T : Int} {Z : Int → Int} (h : TX m T Z) {i : Int} (hi : 0 ≤ i) : -1 ≤ zAt Z T i ∧ zAt Z T i ≤ 255 := by
  unfold zAt
  split
  · have := h.2.2.2 i hi (by omega)
    omega
  · omega
theorem z_seeT {m : BX12} {T : Int} {Z : Int → Int} (h : TX m T Z) {i : Int} (h1 : 0 ≤ i) (h2 : i ≤ 300) : f_X12_see m (iI i) = some (iI (zAt Z T i)) := by
  have hT := h.1
  unfold f_X12_see zAt
  rw [h.2.1]
  simp (disch := omega) only [iI_le, iI_inB, iI_cl]
  split
  · rw [if_neg (by omega)]
    rfl
  · rw [gd_t (by omega), if_pos (by omega), h.2.2.1 i h1 (by omega)]
theorem z_isDigit {c : Int} (h1 : -1 ≤ c) (h2 : c ≤ 255) : f_X12_isDigit (iI c) = some (bI (isD c)) := by
  unfold f_X12_isDigit
  simp (disch := omega) only [iLit, sz_isIn, bind_s]
  unfold isD
  by_cases hc : 48 ≤ c ∧ c ≤ 57
  · rw [bI_t hc]
    rfl
  · rw [bI_f hc]
    rfl
theorem z_isLetter {c : Int} (h1 : -1 ≤ c) (h2 : c ≤ 255) : f_X12_isLetter (iI c) = some (bI (isL c)) := by
  unfold f_X12_isLetter
  simp (disch := omega) only [iLit, sz_isIn, bind_s, bI_0I, ite_not]
  unfold isL
  split
  · rw [bI_t (by omega)]
    rfl
  · split
    · rw [bI_t (by omega)]
      rfl
    · rw [bI_f (by omega)]
      rfl
theorem lI_word {w c : Int} (h1 : 0 ≤ w) (h2 : w < 1099511627776) (h3 : 0 ≤ c) (h4 : c ≤ 255) : (lI w <<< ((iI 8).toInt64 &&& 63)) ||| (iI c).toInt64 = lI (w * 256 + c) := by
  rw [show ((iI 8).toInt64 &&& 63 : Int64) = 8 from rfl, iI_64 (by omega) (by omega)]
  obtain ⟨a, rfl⟩ := Int.eq_ofNat_of_zero_le h1
  obtain ⟨b, rfl⟩ := Int.eq_ofNat_of_zero_le h3
  apply Int64.toBitVec_inj.mp
  rw [Int64.toBitVec_or, Int64.toBitVec_shiftLeft]
  apply BitVec.eq_of_toNat_eq
  rw [BitVec.toNat_or]
  show (BitVec.ofInt 64 (a : Int) <<< (BitVec.ofNat 64 8)).toNat ||| (BitVec.ofInt 64 (b : Int)).toNat = (BitVec.ofInt 64 ((a : Int) * 256 + b)).toNat
  rw [BitVec.toNat_ofInt, BitVec.toNat_ofInt, BitVec.shiftLeft_eq', BitVec.toNat_shiftLeft, BitVec.toNat_ofInt]
  show ((((a : Int) % 18446744073709551616).toNat <<< 8) % 18446744073709551616) ||| ((b : Int) % 18446744073709551616).toNat = (((a : Int) * 256 + b) % 18446744073709551616).toNat
  rw [show ((a : Int) % 18446744073709551616).toNat = a by omega, show ((b : Int) % 18446744073709551616).toNat = b by omega, show (((a : Int) * 256 + b) % 18446744073709551616).toNat = a * 256 + b by omega]
  have e : (a <<< 8) % 18446744073709551616 = a <<< 8 := by
    rw [Nat.shiftLeft_eq]
    omega
  rw [e, ← Nat.shiftLeft_add_eq_or_of_lt (by omega), Nat.shiftLeft_eq]
