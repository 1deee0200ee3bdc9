-- layer 2: the world
def InW (w h : Int) (A : Int → Int) : Prop := (4 ≤ w ∧ w ≤ 24 ∧ 4 ≤ h ∧ h ≤ 24) ∧ (∀ k : Int, 0 ≤ k → k < 576 → 0 ≤ A (10 + k) ∧ A (10 + k) ≤ 255) ∧ (0 ≤ A 0 ∧ A 0 ≤ 6) ∧
  ∀ b : Int, 0 ≤ b → b < 6 → (0 ≤ A (590 + 4 * b) ∧ A (590 + 4 * b) < w * h) ∧ (-2 ≤ A (590 + 4 * b + 1) ∧ A (590 + 4 * b + 1) ≤ 2) ∧ (-2 ≤ A (590 + 4 * b + 2) ∧ A (590 + 4 * b + 2) ≤ 2) ∧ (0 ≤ A (590 + 4 * b + 3) ∧ A (590 + 4 * b + 3) ≤ 255) ∧ (b < A 0 → 1 ≤ A (590 + 4 * b + 3))
def RWo (v : BX10) (w h : Int) (A : Int → Int) : Prop := pX10_n v = (w * h).toNat ∧ pX10_w v = iI w ∧ pX10_h v = iI h ∧ pX10_bodies v = iI (A 0) ∧ (∀ k : Int, 0 ≤ k → k < w * h → pX10_own v k.toNat = iI (A (10 + k))) ∧
  ∀ b : Int, 0 ≤ b → b < 6 → pX10_bodyX v b.toNat = iI (A (590 + 4 * b) - A (590 + 4 * b) / w * w) ∧ pX10_bodyY v b.toNat = iI (A (590 + 4 * b) / w) ∧ pX10_bodyWayX v b.toNat = iI (A (590 + 4 * b + 1)) ∧ pX10_bodyWayY v b.toNat = iI (A (590 + 4 * b + 2)) ∧ pX10_bodyMark v b.toNat = iI (A (590 + 4 * b + 3))
def MW (m : BX12) (w h : Int) (A : Int → Int) : Prop := pX12_w m = iI w ∧ pX12_h m = iI h ∧ AI (pX12_a m) A 3170
def sX (w : Int) (A : Int → Int) (b t : Int) : Int := A (590 + 4 * b) - A (590 + 4 * b) / w * w + t * A (590 + 4 * b + 1)
def sY (w : Int) (A : Int → Int) (b t : Int) : Int := A (590 + 4 * b) / w + t * A (590 + 4 * b + 2)
def sBody (w h : Int) (A : Int → Int) (b t : Int) : Int := if 0 ≤ sX w A b t ∧ sX w A b t < w ∧ 0 ≤ sY w A b t ∧ sY w A b t < h then sY w A b t * w + sX w A b t else -1
theorem xy_bd {w h c : Int} (h1 : 4 ≤ w) (h2 : w ≤ 24) (h3 : 4 ≤ h) (h4 : h ≤ 24) (h5 : 0 ≤ c) (h6 : c < w * h) : 0 ≤ c - c / w * w ∧ c - c / w * w < w ∧ 0 ≤ c / w ∧ c / w < h ∧ 0 ≤ c / w * w ∧ c / w * w ≤ c := by
  have e1 : c / w * w = w * (c / w) := Int.mul_comm _ _
  have e2 : w * (c / w) + c % w = c := Int.mul_ediv_add_emod c w
  have e3 : 0 ≤ c % w := Int.emod_nonneg c (by omega)
  have e4 : c % w < w := Int.emod_lt_of_pos c (by omega)
  have e5 : 0 ≤ c / w := Int.ediv_nonneg h5 (by omega)
  have e6 : c / w < h := Int.ediv_lt_of_lt_mul (by omega) (by rw [Int.mul_comm]; exact h6)
  have e7 : 0 ≤ w * (c / w) := Int.mul_nonneg (by omega) e5
  omega
theorem sBody_bd {w h : Int} {A : Int → Int} (hI : InW w h A) (b t : Int) : -1 ≤ sBody w h A b t ∧ sBody w h A b t < w * h := by
  obtain ⟨⟨h1, h2, h3, h4⟩, _, _, _⟩ := hI
  have h5 := wh_bd h1 h2 h3 h4
  unfold sBody
  split
  · rename_i hc
    have := cell_bd hc.1 hc.2.1 hc.2.2.1 hc.2.2.2
    omega
  · omega
theorem z_bodyAt {m : BX12} {w h : Int} {A : Int → Int} (hM : MW m w h A) (hI : InW w h A) {b t : Int} (hb : 0 ≤ b) (hb6 : b < 6) (ht : 0 ≤ t) (ht2 : t ≤ 1100) : f_X12_bodyAt m (iI b) (iI t) = some (iI (sBody w h A b t)) := by
  obtain ⟨hw, hh, hA⟩ := hM
  obtain ⟨⟨h1, h2, h3, h4⟩, _, _, hB⟩ := hI
  obtain ⟨b1, b2, b3, b4, b5⟩ := hB b hb hb6
  have h5 := wh_bd h1 h2 h3 h4
  have h6 := xy_bd h1 h2 h3 h4 b1.1 b1.2
  have h7 := mul2_bd b2.1 b2.2 ht
  have h8 := mul2_bd b3.1 b3.2 ht
  have hA' : ∀ k : Int, 0 ≤ k → k < 3170 → pX12_a m k.toNat = iI (A k) := hA
  unfold f_X12_bodyAt
  simp (disch := omega) only [hw, hh, iLit, iI_add, iI_mul, iI_sub, iI_cl, hA', iI_div, iI_inB, iI_eq, gd_t, lt_e, sz_isIn, bind_s, bI_0I, ite_not, iI_neg]
  unfold sBody sX sY
  split
  · split
    · rw [if_pos (by omega)]
    · rw [if_neg (by omega)]
  · rw [if_neg (by omega)]
theorem z_bodyCell {v : BX10} {w h : Int} {A : Int → Int} (hM : RWo v w h A) (hI : InW w h A) {b t : Int} (hb : 0 ≤ b) (hb6 : b < 6) (ht : 0 ≤ t) (ht2 : t ≤ 1100) : f_X10_bodyCell v (iI b) (iI t) = some (iI (sBody w h A b t)) := by
  obtain ⟨_, hw, hh, _, _, hR⟩ := hM
  obtain ⟨⟨h1, h2, h3, h4⟩, _, _, hB⟩ := hI
  obtain ⟨b1, b2, b3, b4, b5⟩ := hB b hb hb6
  obtain ⟨r1, r2, r3, r4, r5⟩ := hR b hb hb6
  have h5 := wh_bd h1 h2 h3 h4
  have h6 := xy_bd h1 h2 h3 h4 b1.1 b1.2
  have h7 := mul2_bd b2.1 b2.2 ht
  have h8 := mul2_bd b3.1 b3.2 ht
  unfold f_X10_bodyCell
  simp (disch := omega) only [hw, hh, iLit, iI_add, iI_mul, iI_sub, iI_cl, r1, r2, r3, r4, iI_inB, iI_lt, iI_le, gd_t, lt_e, iI_neg]
  unfold sBody sX sY
  split
  · rw [if_neg (by omega)]
  · split
    · rw [if_neg (by omega)]
    · split
      · rw [if_neg (by omega)]
      · split
        · rw [if_neg (by omega)]
        · rw [if_pos (by omega)]
/-- the mark of a cell on a tick, from body i on -/
def sMark (w h : Int) (A : Int → Int) (c t : Int) : Nat → Int → Int
  | 0, _ => A (10 + c)
  | n + 1, i => if A 0 ≤ i then A (10 + c) else if sBody w h A i t = c then A (590 + 4 * i + 3) else sMark w h A c t n (i + 1)
def sMk (w h : Int) (A : Int → Int) (c t : Int) : Int := sMark w h A c t 6 0
theorem z_isCell {m : BX12} {w h : Int} {A : Int → Int} (hM : MW m w h A) (hI : InW w h A) {c : Int} (h1 : -2147483648 ≤ c) (h2 : c < 2147483648) : f_X12_isCell m (iI c) = some (bI (0 ≤ c ∧ c ≤ w * h - 1)) := by
  obtain ⟨hw, hh, _⟩ := hM
  obtain ⟨⟨w1, w2, w3, w4⟩, _⟩ := hI
  have h5 := wh_bd w1 w2 w3 w4
  unfold f_X12_isCell
  simp (disch := omega) only [hw, hh, iLit, iI_mul, iI_sub, sz_isIn, bind_s, bI_gd]
theorem ofNat_toNat {a : Int} (h : 0 ≤ a) : Int32.ofNat a.toNat = iI a := by
  rw [iI_ofNat, Int.toNat_of_nonneg h]
theorem z_isCellC {v : BX10} {w h : Int} {A : Int → Int} (hM : RWo v w h A) (hI : InW w h A) {c : Int} (h1 : -2147483648 ≤ c) (h2 : c < 2147483648) : f_X10_isCell v (iI c) = some (bI (0 ≤ c ∧ c ≤ w * h - 1)) := by
  obtain ⟨hn, hw, hh, _⟩ := hM
  obtain ⟨⟨w1, w2, w3, w4⟩, _⟩ := hI
  have h5 := wh_bd w1 w2 w3 w4
  unfold f_X10_isCell
  simp (disch := omega) only [hn, ofNat_toNat, iLit, iI_mul, iI_sub, sz_isWithin, bind_s, bI_gd]
theorem z_markAt {m : BX12} {w h : Int} {A : Int → Int} (hM : MW m w h A) (hI : InW w h A) {c t : Int} (hc : 0 ≤ c) (hc2 : c < w * h) (ht : 0 ≤ t) (ht2 : t ≤ 1100) : f_X12_markAt m (iI c) (iI t) = some (iI (sMk w h A c t)) := by
  have hI' := hI
  obtain ⟨⟨w1, w2, w3, w4⟩, _, hb, hB⟩ := hI'
  have h5 := wh_bd w1 w2 w3 w4
  have hA : ∀ k : Int, 0 ≤ k → k < 3170 → pX12_a m k.toNat = iI (A k) := hM.2.2
  have key : ∀ (n : Nat) (i : Int), 0 ≤ i → i ≤ A 0 → (n : Int) + i = 6 → ∀ F : Nat, n < F → f_X12_markAt_b2 m F (iI c, iI t, iI i) = some (iI (sMark w h A c t n i)) := by
    intro n
    induction n with
    | zero =>
      intro i h0 h1 h2 F hF
      obtain ⟨F, rfl⟩ : ∃ F', F = F' + 1 := ⟨F - 1, by omega⟩
      show f_X12_markAt_b2B m (f_X12_markAt_b2 m F) (iI c) (iI t) (iI i) = _
      unfold f_X12_markAt_b2B sMark
      simp (disch := omega) only [iLit, iI_add, iI_cl, hA, iI_inB, gd_t, iI_le]
      rw [if_pos (by omega)]
    | succ n ih =>
      intro i h0 h1 h2 F hF
      obtain ⟨F, rfl⟩ : ∃ F', F = F' + 1 := ⟨F - 1, by omega⟩
      show f_X12_markAt_b2B m (f_X12_markAt_b2 m F) (iI c) (iI t) (iI i) = _
      unfold f_X12_markAt_b2B sMark
      have hs := sBody_bd hI i t
      simp (disch := omega) only [iLit, iI_add, iI_mul, iI_cl, hA, iI_inB, gd_t, iI_le, z_bodyAt hM hI, bind_s, lt_e, iI_eq]
      split
      · rfl
      · split
        · rfl
        · exact ih (i + 1) (by omega) (by omega) (by omega) F (by omega)
  exact key 6 0 (by omega) (by omega) (by omega) fU (by decide)
theorem z_seenMark {v : BX10} {w h : Int} {A : Int → Int} (hM : RWo v w h A) (hI : InW w h A) {c t : Int} (hc : 0 ≤ c) (hc2 : c < w * h) (ht : 0 ≤ t) (ht2 : t ≤ 1100) : f_X10_seenMark v (iI c) (iI t) = some (iI (sMk w h A c t)) := by
  have hI' := hI
  have hM' := hM
  obtain ⟨⟨w1, w2, w3, w4⟩, _, hb, hB⟩ := hI'
  obtain ⟨hn, hw, hh, hbo, hown, hR⟩ := hM'
  have h5 := wh_bd w1 w2 w3 w4
  have hn2 : ((w * h).toNat : Int) = w * h := Int.toNat_of_nonneg (by omega)
  have key : ∀ (n : Nat) (i : Int), 0 ≤ i → i ≤ A 0 → (n : Int) + i = 6 → ∀ F : Nat, n < F → f_X10_seenMark_b2 v F (iI c, iI t, iI i) = some (iI (sMark w h A c t n i)) := by
    intro n
    induction n with
    | zero =>
      intro i h0 h1 h2 F hF
      obtain ⟨F, rfl⟩ : ∃ F', F = F' + 1 := ⟨F - 1, by omega⟩
      show f_X10_seenMark_b2B v (f_X10_seenMark_b2 v F) (iI c) (iI t) (iI i) = _
      unfold f_X10_seenMark_b2B sMark
      simp (disch := omega) only [iLit, hbo, hn, iI_le, z_isCellC hM hI, bind_s, bI_0I, ite_not, iI_inB, hn2, gd_t, iI_cl, hown]
      rw [if_pos (by omega), if_pos (by omega)]
    | succ n ih =>
      intro i h0 h1 h2 F hF
      obtain ⟨F, rfl⟩ : ∃ F', F = F' + 1 := ⟨F - 1, by omega⟩
      show f_X10_seenMark_b2B v (f_X10_seenMark_b2 v F) (iI c) (iI t) (iI i) = _
      unfold f_X10_seenMark_b2B sMark
      have hs := sBody_bd hI i t
      obtain ⟨r1, r2, r3, r4, r5⟩ := hR i h0 (by omega)
      simp (disch := omega) only [iLit, hbo, hn, iI_add, iI_le, z_isCellC hM hI, bind_s, bI_0I, ite_not, iI_inB, hn2, gd_t, iI_cl, hown, z_bodyCell hM hI, lt_e, iI_eq, r5]
      rw [if_pos (show 0 ≤ c ∧ c ≤ w * h - 1 by omega)]
      split
      · rfl
      · split
        · rfl
        · exact ih (i + 1) (by omega) (by omega) (by omega) F (by omega)
  exact key 6 0 (by omega) (by omega) (by omega) fU (by decide)
theorem sMk_bd {w h : Int} {A : Int → Int} (hI : InW w h A) {c : Int} (hc : 0 ≤ c) (hc2 : c < w * h) (t : Int) : 0 ≤ sMk w h A c t ∧ sMk w h A c t ≤ 255 := by
  obtain ⟨⟨w1, w2, w3, w4⟩, ho, hb, hB⟩ := hI
  have h5 := wh_bd w1 w2 w3 w4
  have key : ∀ (n : Nat) (i : Int), 0 ≤ i → (n : Int) + i = 6 → 0 ≤ sMark w h A c t n i ∧ sMark w h A c t n i ≤ 255 := by
    intro n
    induction n with
    | zero =>
      intro i h0 h1
      exact ho c hc (by omega)
    | succ n ih =>
      intro i h0 h1
      unfold sMark
      split
      · exact ho c hc (by omega)
      · split
        · have := hB i h0 (by omega)
          omega
        · exact ih (i + 1) (by omega) (by omega)
  exact key 6 0 (by omega) (by omega)
theorem z_isPlace {m : BX12} {w h : Int} {A : Int → Int} (hM : MW m w h A) (hI : InW w h A) {x y : Int} (x1 : -2147483648 ≤ x) (x2 : x < 2147483648) (y1 : -2147483648 ≤ y) (y2 : y < 2147483648) : f_X12_isPlace m (iI x) (iI y) = some (bI ((0 ≤ x ∧ x < 16 * w) ∧ 0 ≤ y ∧ y < 16 * h)) := by
  obtain ⟨hw, hh, _⟩ := hM
  obtain ⟨⟨w1, w2, w3, w4⟩, _⟩ := hI
  unfold f_X12_isPlace
  simp (disch := omega) only [hw, hh, iLit, iI_mul, iI_sub, sz_isIn, bind_s, bI_0I, ite_not]
  split
  · split
    · rw [bI_t (by omega)]
      rfl
    · rw [bI_f (by omega)]
      rfl
  · rw [bI_f (by omega)]
    rfl
theorem z_isPlaceC {v : BX10} {w h : Int} {A : Int → Int} (hM : RWo v w h A) (hI : InW w h A) {x y : Int} (x1 : -2147483648 ≤ x) (x2 : x < 2147483648) (y1 : -2147483648 ≤ y) (y2 : y < 2147483648) : f_X10_isPlace v (iI x) (iI y) = some (bI ((0 ≤ x ∧ x < 16 * w) ∧ 0 ≤ y ∧ y < 16 * h)) := by
  obtain ⟨_, hw, hh, _⟩ := hM
  obtain ⟨⟨w1, w2, w3, w4⟩, _⟩ := hI
  unfold f_X10_isPlace
  simp (disch := omega) only [hw, hh, iLit, iI_mul, iI_sub, sz_isWithin, bind_s, bI_0I, ite_not]
  split
  · split
    · rw [bI_t (by omega)]
      rfl
    · rw [bI_f (by omega)]
      rfl
  · rw [bI_f (by omega)]
    rfl
theorem pl_bd {x y w h : Int} (w1 : 4 ≤ w) (w2 : w ≤ 24) (w3 : 4 ≤ h) (w4 : h ≤ 24) (h1 : 0 ≤ x ∧ x < 16 * w) (h2 : 0 ≤ y ∧ y < 16 * h) : 0 ≤ y / 16 * w ∧ 0 ≤ y / 16 * w + x / 16 ∧ y / 16 * w + x / 16 < w * h ∧ y / 16 * w + x / 16 ≤ 576 := by
  have h5 := wh_bd w1 w2 w3 w4
  have := cell_bd (x := x / 16) (y := y / 16) (w := w) (h := h) (by omega) (by omega) (by omega) (by omega)
  omega
/-- a place that is free on a tick -/
def sFree (w h : Int) (A : Int → Int) (x y t : Int) : Prop := ((0 ≤ x ∧ x < 16 * w) ∧ 0 ≤ y ∧ y < 16 * h) ∧ sMk w h A (y / 16 * w + x / 16) t = 0
theorem z_isStart {m : BX12} {w h : Int} {A : Int → Int} (hM : MW m w h A) (hI : InW w h A) {x y : Int} (x1 : -2147483648 ≤ x) (x2 : x < 2147483648) (y1 : -2147483648 ≤ y) (y2 : y < 2147483648) [Decidable (sFree w h A x y 0)] : f_X12_isStart m (iI x) (iI y) = some (bI (sFree w h A x y 0)) := by
  unfold f_X12_isStart
  rw [z_isPlace hM hI x1 x2 y1 y2]
  by_cases hp : ((0 ≤ x ∧ x < 16 * w) ∧ 0 ≤ y ∧ y < 16 * h)
  · have hM' := hM
    obtain ⟨hw, hh, _⟩ := hM'
    have hI' := hI
    obtain ⟨⟨w1, w2, w3, w4⟩, _⟩ := hI'
    have hb := pl_bd w1 w2 w3 w4 hp.1 hp.2
    have hb2 := sMk_bd hI (c := y / 16 * w + x / 16) (by omega) (by omega) 0
    simp (disch := omega) only [hw, hh, iLit, iI_div, iI_mul, iI_add, bind_s, bI_0I, ite_not, z_markAt hM hI, iI_eq]
    rw [if_pos hp]
    split
    · rw [bI_t ⟨hp, by assumption⟩]
      rfl
    · rename_i hn
      rw [bI_f (fun h => hn h.2)]
      rfl
  · simp only [iLit, bind_s, bI_0I, ite_not]
    rw [if_neg hp, bI_f (fun h => hp h.1)]
    rfl
theorem z_isFree {v : BX10} {w h : Int} {A : Int → Int} (hM : RWo v w h A) (hI : InW w h A) {x y t : Int} (x1 : -2147483648 ≤ x) (x2 : x < 2147483648) (y1 : -2147483648 ≤ y) (y2 : y < 2147483648) (ht : 0 ≤ t) (ht2 : t ≤ 1100) [Decidable (sFree w h A x y t)] : f_X10_isFree v (iI x) (iI y) (iI t) = some (bI (sFree w h A x y t)) := by
  unfold f_X10_isFree
  rw [z_isPlaceC hM hI x1 x2 y1 y2]
  by_cases hp : ((0 ≤ x ∧ x < 16 * w) ∧ 0 ≤ y ∧ y < 16 * h)
  · have hM' := hM
    obtain ⟨_, hw, hh, _⟩ := hM'
    have hI' := hI
    obtain ⟨⟨w1, w2, w3, w4⟩, _⟩ := hI'
    have hb := pl_bd w1 w2 w3 w4 hp.1 hp.2
    have hb2 := sMk_bd hI (c := y / 16 * w + x / 16) (by omega) (by omega) t
    simp (disch := omega) only [hw, hh, iLit, iI_div, iI_mul, iI_add, bind_s, bI_0I, ite_not, z_seenMark hM hI, iI_eq]
    rw [if_pos hp]
    split
    · rw [bI_t ⟨hp, by assumption⟩]
      rfl
    · rename_i hn
      rw [bI_f (fun h => hn h.2)]
      rfl
  · simp only [iLit, bind_s, bI_0I, ite_not]
    rw [if_neg hp, bI_f (fun h => hp h.1)]
    rfl
