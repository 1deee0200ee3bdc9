-- layer 2: masks and shifts as integers
theorem iI_bv (a : Int) : (iI a).toBitVec.toNat = (a % 4294967296).toNat := by
  show (BitVec.ofInt 32 a).toNat = _
  rw [BitVec.toNat_ofInt]
  rfl
theorem iI_and63 (a : Int) : iI a &&& iI 63 = iI (a % 64) := by
  rw [pk_and (iI a) (m := iI 63) 6 rfl, iI_bv, show nI = Int32.ofNat from rfl, iI_ofNat]
  congr 1
  omega
theorem iI_and255 (a : Int) : iI a &&& iI 255 = iI (a % 256) := by
  rw [pk_and (iI a) (m := iI 255) 8 rfl, iI_bv, show nI = Int32.ofNat from rfl, iI_ofNat]
  congr 1
  omega
theorem iI_and31 (a : Int) : iI a &&& iI 31 = iI (a % 32) := by
  rw [pk_and (iI a) (m := iI 31) 5 rfl, iI_bv, show nI = Int32.ofNat from rfl, iI_ofNat]
  congr 1
  omega
theorem iI_and1 (a : Int) : iI a &&& iI 1 = iI (a % 2) := by
  rw [pk_and (iI a) (m := iI 1) 1 rfl, iI_bv, show nI = Int32.ofNat from rfl, iI_ofNat]
  congr 1
  omega
theorem i32_nat (x : Int32) : x = iI (x.toBitVec.toNat : Int) := by
  rw [← iI_ofNat]
  apply Int32.toBitVec_inj.mp
  show x.toBitVec = BitVec.ofNat 32 x.toBitVec.toNat
  exact (BitVec.ofNat_toNat 32 x.toBitVec).symm ▸ by simp
theorem iI_mod (a b : Int) (h : a % 4294967296 = b % 4294967296) : iI a = iI b := by
  apply Int32.toBitVec_inj.mp
  show BitVec.ofInt 32 a = BitVec.ofInt 32 b
  apply BitVec.eq_of_toNat_eq
  rw [BitVec.toNat_ofInt, BitVec.toNat_ofInt]
  show (a % 4294967296).toNat = (b % 4294967296).toNat
  rw [h]
theorem iI_shl8 (k : Int) : iI k <<< (iI 8 &&& iI 31) = iI (k * 256) := by
  rw [i32_nat (iI k <<< (iI 8 &&& iI 31)), pk_shl (iI k) (iI 8 &&& iI 31) 8 (by decide), iI_bv]
  apply iI_mod
  omega
theorem iI_shl5 (k : Int) : iI k <<< (iI 5 &&& iI 31) = iI (k * 32) := by
  rw [i32_nat (iI k <<< (iI 5 &&& iI 31)), pk_shl (iI k) (iI 5 &&& iI 31) 5 (by decide), iI_bv]
  apply iI_mod
  omega
theorem iI_shr8 {k : Int} (h1 : -2147483648 ≤ k) (h2 : k < 2147483648) : iI k >>> (iI 8 &&& iI 31) = iI (k / 256) := by
  apply Int32.toInt_inj.mp
  rw [pk_shr (iI k) (iI 8 &&& iI 31) 8 (by decide), iI_toInt h1 h2, iI_toInt (by omega) (by omega), Int.shiftRight_eq_div_pow]
  rfl
theorem iI_shr5 {k : Int} (h1 : -2147483648 ≤ k) (h2 : k < 2147483648) : iI k >>> (iI 5 &&& iI 31) = iI (k / 32) := by
  apply Int32.toInt_inj.mp
  rw [pk_shr (iI k) (iI 5 &&& iI 31) 5 (by decide), iI_toInt h1 h2, iI_toInt (by omega) (by omega), Int.shiftRight_eq_div_pow]
  rfl
