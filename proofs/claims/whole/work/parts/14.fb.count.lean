-- layer 2: bits of a set
theorem bcA_at {p : Nat → Bool} : ∀ (n : Nat), bcA p n = true → ∀ k, k < n → p k = true
  | 0, _, k, hk => absurd hk (Nat.not_lt_zero k)
  | n + 1, h, k, hk => by
    have h' : cond (p n) (bcA p n) false = true := h
    cases hp : p n with
    | false =>
      rw [hp] at h'
      cases h'
    | true =>
      rw [hp] at h'
      by_cases e : k = n
      · rw [e]
        exact hp
      · exact bcA_at n h' k (by omega)
theorem bc_half {x : Nat} (h : x < 131072) : bcN x = bcN (x / 2) + x % 2 := by
  have h1 := bcA_at 256 (bcA_at 512 bc_all (x / 256) (by omega)) (x % 256) (by omega)
  have h2 := Nat.eq_of_beq_eq_true h1
  have e : Nat.add (Nat.mul (x / 256) 256) (x % 256) = x := by
    show x / 256 * 256 + x % 256 = x
    omega
  have e2 : Nat.mod (x % 256) 2 = x % 2 := by
    show x % 256 % 2 = x % 2
    omega
  rw [e, e2] at h2
  exact h2
def pcR : Nat → Nat → Nat
  | 0, _ => 0
  | n + 1, x => x % 2 + pcR n (x / 2)
theorem bc_pc : ∀ (n x : Nat), n ≤ 17 → x < 2 ^ n → bcN x = pcR n x
  | 0, x, _, hx => by
    have e : x = 0 := by omega
    rw [e]
    rfl
  | n + 1, x, hn, hx => by
    have hp : 2 ^ (n + 1) ≤ 2 ^ 17 := Nat.pow_le_pow_right (by omega) hn
    have hx2 : x / 2 < 2 ^ n := by
      rw [Nat.pow_succ] at hx
      omega
    rw [bc_half (by omega), bc_pc n (x / 2) (by omega) hx2]
    exact Nat.add_comm _ _
theorem pc_or : ∀ (n x b : Nat), b < n → pcR n (x ||| 2 ^ b) = pcR n x + (1 - x / 2 ^ b % 2)
  | 0, _, b, hb => absurd hb (Nat.not_lt_zero b)
  | n + 1, x, b, hb => by
    have hm : (x ||| 2 ^ b) % 2 = x % 2 ||| 2 ^ b % 2 := Nat.or_mod_two_pow (n := 1)
    have hd : (x ||| 2 ^ b) / 2 = x / 2 ||| 2 ^ b / 2 := Nat.or_div_two
    show (x ||| 2 ^ b) % 2 + pcR n ((x ||| 2 ^ b) / 2) = x % 2 + pcR n (x / 2) + (1 - x / 2 ^ b % 2)
    rw [hm, hd]
    cases b with
    | zero =>
      rw [show 2 ^ 0 % 2 = 1 from rfl, show 2 ^ 0 / 2 = 0 from rfl, Nat.or_zero, show x / 2 ^ 0 = x from Nat.div_one x]
      rcases Nat.mod_two_eq_zero_or_one x with e | e <;> rw [e]
      · rw [show 0 ||| 1 = 1 from rfl]
        omega
      · rw [show 1 ||| 1 = 1 from rfl]
        omega
    | succ b =>
      rw [show 2 ^ (b + 1) % 2 = 0 by rw [Nat.pow_succ]; omega, show 2 ^ (b + 1) / 2 = 2 ^ b by rw [Nat.pow_succ]; omega, Nat.or_zero, pc_or n (x / 2) b (by omega), show x / 2 ^ (b + 1) = x / 2 / 2 ^ b by rw [Nat.pow_succ, Nat.mul_comm, Nat.div_div_eq_div_mul]]
      omega
theorem bc_or {x b : Nat} (hx : x < 2 ^ 17) (hb : b < 17) : bcN (x ||| 2 ^ b) = bcN x + (1 - x / 2 ^ b % 2) := by
  have h2 : 2 ^ b < 2 ^ 17 := Nat.pow_lt_pow_right (by omega) hb
  rw [bc_pc 17 _ (by omega) (Nat.or_lt_two_pow hx h2), bc_pc 17 x (by omega) hx, pc_or 17 x b hb]
theorem nJ_and (a b : Nat) : nI a &&& nI b = nI (a &&& b) := by
  apply Int32.toBitVec_inj.mp
  show BitVec.ofNat 32 a &&& BitVec.ofNat 32 b = BitVec.ofNat 32 (a &&& b)
  exact (BitVec.ofNat_and).symm
theorem nJ_or (a b : Nat) : nI a ||| nI b = nI (a ||| b) := by
  apply Int32.toBitVec_inj.mp
  show BitVec.ofNat 32 a ||| BitVec.ofNat 32 b = BitVec.ofNat 32 (a ||| b)
  exact (BitVec.ofNat_or).symm
theorem nJ_add (a b : Nat) : nI a + nI b = nI (a + b) := by
  show Int32.ofNat a + Int32.ofNat b = Int32.ofNat (a + b)
  rw [iI_ofNat, iI_ofNat, iI_ofNat, iI_add]
  congr 1
theorem nJ_sub {a b : Nat} (h : b ≤ a) : nI a - nI b = nI (a - b) := by
  show Int32.ofNat a - Int32.ofNat b = Int32.ofNat (a - b)
  rw [iI_ofNat, iI_ofNat, iI_ofNat, iI_sub]
  congr 1
  omega
theorem z_bitCount {x : Nat} (hx : x < 2 ^ 17) : f_J6_bitCount_0f7a4 (nI x) = some (nI (bcN x)) := by
  unfold f_J6_bitCount_0f7a4
  have l1 : (x / 2 &&& 1431655765) ≤ x := Nat.le_trans Nat.and_le_left (Nat.div_le_self x 2)
  simp only [lt_e]
  rw [pk_ushrN (by omega) 1 1 (by decide), show (1431655765 : Int32) = nI 1431655765 from rfl, show (858993459 : Int32) = nI 858993459 from rfl, show (252645135 : Int32) = nI 252645135 from rfl, show (63 : Int32) = nI 63 from rfl, nJ_and, show x / 2 ^ 1 = x / 2 from rfl, nJ_sub l1]
  generalize ha : x - (x / 2 &&& 1431655765) = a
  have la : a < 2 ^ 17 := by omega
  have m1 : (a &&& 858993459) ≤ a := Nat.and_le_left
  have m2 : (a / 4 &&& 858993459) ≤ a / 4 := Nat.and_le_left
  rw [pk_ushrN (by omega) 2 2 (by decide), nJ_and, nJ_and, nJ_add, show a / 2 ^ 2 = a / 4 from rfl]
  generalize hb : (a &&& 858993459) + (a / 4 &&& 858993459) = b
  have lb : b < 2 ^ 18 := by omega
  have m3 : ((b + b / 16) &&& 252645135) ≤ b + b / 16 := Nat.and_le_left
  rw [pk_ushrN (by omega) 4 4 (by decide), show b / 2 ^ 4 = b / 16 from rfl, nJ_add, nJ_and]
  generalize hc : (b + b / 16 &&& 252645135) = c
  have lc : c < 2 ^ 19 := by omega
  rw [pk_ushrN (by omega) 8 8 (by decide), show c / 2 ^ 8 = c / 256 from rfl, nJ_add]
  rw [pk_ushrN (by omega) 16 16 (by decide), nJ_add, nJ_and, show (c + c / 256) / 2 ^ 16 = (c + c / 256) / 65536 from rfl]
  congr 2
  rw [← hc, ← hb, ← ha]
  have s1 : ∀ y k : Nat, Nat.shiftRight y k = y / 2 ^ k := fun y k => Nat.shiftRight_eq_div_pow y k
  unfold bcN
  simp only [s1]
  rfl
theorem sl_v : ∀ b : Nat, b < 32 → ((nI b &&& 31).toBitVec.smod 32).toNat = b := by decide +kernel
theorem bit_get {S b : Nat} (hS : S < 2 ^ 31) (hb : b < 32) : (nI S >>> (nI b &&& 31)) &&& 1 = nI (S / 2 ^ b % 2) := by
  rw [pk_shrN hS (nI b &&& 31) b (sl_v b hb), show (1 : Int32) = nI 1 from rfl, nJ_and, Nat.and_one_is_mod]
theorem bit_put {S b : Nat} (hb : b < 31) : nI S ||| ((1 : Int32) <<< (nI b &&& 31)) = nI (S ||| 2 ^ b) := by
  rw [show (1 : Int32) = nI 1 from rfl, pk_shlN (nI b &&& 31) b (sl_v b (by omega)) (by rw [Nat.one_mul]; exact Nat.pow_lt_pow_right (by omega) (by omega)), Nat.one_mul, nJ_or]
theorem nI_iI (n : Nat) : nI n = iI (n : Int) := iI_ofNat n
