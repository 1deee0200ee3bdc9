-- layer 2: takes are marks; the relation
def wSum (width : Int) : Nat → Int → Int
  | 0, _ => 0
  | n + 1, i => (width + 1 - (if 0 ≤ i then i else 0 - i)) + wSum width n (i + 1)
theorem sSum_le {T : Int → Int} (hT : ∀ s, 0 ≤ s → s < 64 → 0 ≤ T s ∧ T s ≤ 255) {side width head : Int} (hw : 0 ≤ width) (hw7 : width ≤ 7) : ∀ (n : Nat) (i a : Int), -width ≤ i → (n : Int) + i = width + 1 → sSum T side width head n i a ≤ a + 255 * wSum width n i := by
  intro n
  induction n with
  | zero =>
    intro i a h1 h2
    unfold sSum wSum
    omega
  | succ n ih =>
    intro i a h1 h2
    unfold sSum wSum
    have hb := hT ((head + side + i) % 64) (by omega) (by omega)
    have h3 := ih (i + 1) (a + T ((head + side + i) % 64) * (width + 1 - (if 0 ≤ i then i else 0 - i))) (by omega) (by omega)
    have h4 : T ((head + side + i) % 64) * (width + 1 - (if 0 ≤ i then i else 0 - i)) ≤ 255 * (width + 1 - (if 0 ≤ i then i else 0 - i)) := Int.mul_le_mul_of_nonneg_right hb.2 (by split <;> omega)
    omega
theorem wSum_v : ∀ k : Nat, k < 8 → wSum (k : Int) (2 * (k : Int) + 1).toNat (-(k : Int)) = ((k : Int) + 1) * ((k : Int) + 1) := by decide +kernel
theorem sTake_255 {T : Int → Int} (hT : ∀ s, 0 ≤ s → s < 64 → 0 ≤ T s ∧ T s ≤ 255) {side width head : Int} (hw : 0 ≤ width) (hw7 : width ≤ 7) : 0 ≤ sTake T side width head ∧ sTake T side width head ≤ 255 := by
  refine ⟨(sTake_bd hT hw hw7).1, ?_⟩
  have h1 := sSum_le hT (side := side) (head := head) hw hw7 (2 * width + 1).toNat (-width) 0 (by omega) (by omega)
  have h2 := wSum_v width.toNat (by omega)
  rw [Int.toNat_of_nonneg hw] at h2
  rw [h2] at h1
  have h3 := sq_bd hw hw7
  unfold sTake
  exact Int.ediv_le_of_le_mul h3.1 (by omega)
def up (A : Int → Int) (k x : Int) : Int → Int := fun j => if j = k then x else A j
theorem up_s (A : Int → Int) (k x : Int) : up A k x k = x := if_pos rfl
theorem up_e {A : Int → Int} {k x j : Int} (h : j = k) : up A k x j = x := if_pos h
theorem up_n {A : Int → Int} {k x j : Int} (h : j ≠ k) : up A k x j = A j := if_neg h
theorem ai_set {f : Nat → Int32} {A : Int → Int} {n k x : Int} (h : AI f A n) (hk : 0 ≤ k) : AI (upd f k.toNat (iI x)) (up A k x) n := by
  intro j j1 j2
  rw [ai_upd hk j1]
  unfold up
  split
  · rfl
  · exact h j j1 j2
theorem MW.set {m : BX12} {w h : Int} {A : Int → Int} (hM : MW m w h A) {k : Int} (x : Int) (hk : 0 ≤ k) : MW (sX12_a m (upd (pX12_a m) k.toNat (iI x))) w h (up A k x) :=
  ⟨by rw [q12_w_a]; exact hM.1, by rw [q12_h_a]; exact hM.2.1, by rw [q12_a_a]; exact ai_set hM.2.2 hk⟩
def InE (A : Int → Int) : Prop := (0 ≤ A 1 ∧ A 1 ≤ 16) ∧ (0 ≤ A 2 ∧ A 2 ≤ 16) ∧ (∀ k : Int, 0 ≤ k → k < 16 → (0 ≤ A (620 + 2 * k) ∧ A (620 + 2 * k) < 64) ∧ 0 ≤ A (620 + 2 * k + 1) ∧ A (620 + 2 * k + 1) ≤ 7) ∧
  ∀ k : Int, 0 ≤ k → k < A 2 → (0 ≤ A (660 + 3 * k) ∧ A (660 + 3 * k) < A 1) ∧ (0 ≤ A (660 + 3 * k + 1) ∧ A (660 + 3 * k + 1) < A 1) ∧ 1 ≤ A (660 + 3 * k + 2) ∧ A (660 + 3 * k + 2) ≤ 8
def REy (v : BX1) (A : Int → Int) : Prop := pX1_lenses v = iI (A 1) ∧ pX1_pairs v = iI (A 2) ∧ (∀ k : Int, 0 ≤ k → k < 16 → pX1_lensSide v k.toNat = iI (A (620 + 2 * k)) ∧ pX1_lensWidth v k.toNat = iI (A (620 + 2 * k + 1))) ∧
  ∀ k : Int, 0 ≤ k → k < 16 → pX1_pairA v k.toNat = iI (A (660 + 3 * k)) ∧ pX1_pairB v k.toNat = iI (A (660 + 3 * k + 1)) ∧ pX1_pairDelay v k.toNat = iI (A (660 + 3 * k + 2))
def InR (w h : Int) (A : Int → Int) : Prop := (0 ≤ A 4 ∧ A 4 ≤ 6) ∧ ∀ k : Int, 0 ≤ k → k < 6 → (0 ≤ A (720 + 24 * k) ∧ A (720 + 24 * k) < 16 * w) ∧ (0 ≤ A (720 + 24 * k + 1) ∧ A (720 + 24 * k + 1) < 16 * h) ∧ (0 ≤ A (720 + 24 * k + 2) ∧ A (720 + 24 * k + 2) < 64) ∧ (0 ≤ A (720 + 24 * k + 3) ∧ A (720 + 24 * k + 3) ≤ 20) ∧
  ∀ j : Int, 0 ≤ j → j < 20 → -8 ≤ A (720 + 24 * k + 4 + j) ∧ A (720 + 24 * k + 4 + j) ≤ 8
def RRe (v : BX5) (A : Int → Int) : Prop := pX5_count v = iI (A 4) ∧ ∀ k : Int, 0 ≤ k → k < 6 → pX5_x v k.toNat = iI (A (720 + 24 * k)) ∧ pX5_y v k.toNat = iI (A (720 + 24 * k + 1)) ∧ pX5_head v k.toNat = iI (A (720 + 24 * k + 2)) ∧ pX5_size v k.toNat = iI (A (720 + 24 * k + 3)) ∧
  ∀ j : Int, 0 ≤ j → j < 20 → pX5_turns v (k * 20 + j).toNat = iI (A (720 + 24 * k + 4 + j))
/-- what a pair compares, from a flight's takes (tk t k: the take of lens k on tick t) -/
def sPair (A : Int → Int) (tk : Int → Int → Int) (p t : Int) : Int := if t < A (660 + 3 * p + 2) then 0 else tk (t - A (660 + 3 * p + 2)) (A (660 + 3 * p)) * tk t (A (660 + 3 * p + 1)) - tk t (A (660 + 3 * p)) * tk (t - A (660 + 3 * p + 2)) (A (660 + 3 * p + 1))
def InF (A : Int → Int) : Prop := A 880 = -1 ∨ ((0 ≤ A 880 ∧ A 880 ≤ 60) ∧ (A 884 = 0 ∨ A 884 = 1) ∧ (A 885 = 0 ∨ A 885 = 1) ∧ (0 ≤ A 887 ∧ A 887 ≤ A 1) ∧ (0 ≤ A 888 ∧ A 888 ≤ A 2) ∧ (∀ p : Int, 0 ≤ p → p < A 888 → A (660 + 3 * p) < A 887 ∧ A (660 + 3 * p + 1) < A 887) ∧
  ∀ t : Int, 0 ≤ t → t < A 880 → ∀ p : Int, 0 ≤ p → p < A 888 → A (890 + 38 * t + 21 + p) = sPair A (fun t k => A (890 + 38 * t + 5 + k)) p t)
def RFl (v : BX2) (A : Int → Int) : Prop := ((pX2_begun v = iI 0 ∨ pX2_begun v = iI 1) ∧ (pX2_hit v = iI 0 ∨ pX2_hit v = iI 1) ∧ (pX2_rested v = iI 0 ∨ pX2_rested v = iI 1)) ∧
  ((A 880 = -1 ∧ pX2_begun v = iI 0 ∧ pX2_count v = iI 0) ∨ (A 880 ≠ -1 ∧ pX2_begun v = iI 1 ∧ pX2_count v = iI (A 880) ∧ pX2_x v = iI (A 881) ∧ pX2_y v = iI (A 882) ∧ pX2_head v = iI (A 883) ∧ pX2_hit v = iI (A 884) ∧ pX2_rested v = iI (A 885) ∧ pX2_over v = iI (A 886) ∧ pX2_lenses v = iI (A 887) ∧ pX2_pairs v = iI (A 888) ∧
    ∀ t : Int, 0 ≤ t → t < A 880 → (∀ j : Int, 0 ≤ j → j < 5 → pX2_rows v (t * 5 + j).toNat = iI (A (890 + 38 * t + j))) ∧ ∀ k : Int, 0 ≤ k → k < A 887 → pX2_takes v (t * 16 + k).toNat = iI (A (890 + 38 * t + 5 + k))))
def InA (w h : Int) (A : Int → Int) : Prop := InW w h A ∧ InE A ∧ InR w h A ∧ InF A ∧ 0 ≤ A 3 ∧ A 3 ≤ 8
abbrev ROT : Type := Nat → (Nat → Int32) → (Nat → Int32) → Int → Prop
def CR (RO : ROT) (v : BX8) (b : PB) (texts : Nat → Int32) (N : Int) : Prop := (∀ i : Int, 0 ≤ i → i < 8 → ∃ q, pX8_codes v i.toNat = some q ∧ q ∈ b.1) ∧ ∀ i : Int, 0 ≤ i → i < N → ∀ q, pX8_codes v i.toNat = some q → RO (b.2.1 q) (b.2.2 q) texts i
def TP (v0 : BX11) (m : BX12) : Prop := ∃ (T : Int) (Z : Int → Int), (0 ≤ T ∧ T ≤ 300) ∧ pX12_taped m = iI T ∧ pX11_tapeSize v0 = iI T ∧ AI (pX12_tape m) Z T ∧ AI (pX11_tape v0) Z T ∧ ∀ k : Int, 0 ≤ k → k < T → 0 ≤ Z k ∧ Z k ≤ 255
def FT (v0 : BX11) (v3 : BX4) (m : BX12) : Prop := (pX11_textRead v0 = iI 0 ∧ pX12_fault m = iI (-1) ∧ pX12_faultPlace m = iI (-1)) ∨ (pX11_textRead v0 = iI 1 ∧ pX12_fault m = pX4_fault v3 ∧ pX12_faultPlace m = pX4_place v3)
def Rel (RO : ROT) : RelT := fun v0 _ v2 v3 v4 v5 _ _ v8 v9 v10 v11 _ v13 v14 v15 v16 m b => ∃ (w h : Int) (A G : Int → Int),
  MW m w h A ∧ AI (pX12_image m) G 3170 ∧ InA w h A ∧ InA w h G ∧ (RWo v11 w h A ∧ REy v8 A ∧ RRe v10 A ∧ RFl v9 A) ∧ (RWo v16 w h G ∧ REy v13 G ∧ RRe v15 G ∧ RFl v14 G) ∧
  (pX8_rules v2 = iI (A 3) ∧ pX8_rules v4 = iI (G 3) ∧ G 3 ≤ A 3 ∧ CR RO v2 b (pX12_texts m) (A 3) ∧ CR RO v4 b (pX12_texts m) (G 3)) ∧ pX7_n v5 = (w * h).toNat ∧ TP v0 m ∧ FT v0 v3 m
/-- what is scratch may change -/
theorem Rel.scr {RO : ROT} {v0 : BX11} {v1 : BX3} {v2 : BX8} {v3 : BX4} {v4 : BX8} {v5 : BX7} {v6 : BX6} {v7 : BX2} {v8 : BX1} {v9 : BX2} {v10 : BX5} {v11 : BX10} {v12 : BX9} {v13 : BX1} {v14 : BX2} {v15 : BX5} {v16 : BX10} {m : BX12} {b : PB} (hR : Rel RO v0 v1 v2 v3 v4 v5 v6 v7 v8 v9 v10 v11 v12 v13 v14 v15 v16 m b) {v0' : BX11} {v5' : BX7} {v6' : BX6} {v7' : BX2} {m' : BX12} (f : FrP m m') (hn : pX7_n v5' = pX7_n v5) (h1 : pX11_tapeSize v0' = pX11_tapeSize v0) (h2 : pX11_textRead v0' = pX11_textRead v0) (h3 : pX11_tape v0' = pX11_tape v0) : Rel RO v0' v1 v2 v3 v4 v5' v6' v7' v8 v9 v10 v11 v12 v13 v14 v15 v16 m' b := by
  obtain ⟨w, h, A, G, r1, r2, r3, r4, r5, r6, r7, r8, ⟨T, Z, t1, t2, t3, t4, t5, t6⟩, r10⟩ := hR
  refine ⟨w, h, A, G, f.mw r1, by rw [f.image]; exact r2, r3, r4, r5, r6, by rw [f.texts]; exact r7, hn.trans r8, ⟨T, Z, t1, f.taped.trans t2, h1.trans t3, by rw [f.tape]; exact t4, by rw [h3]; exact t5, t6⟩, ?_⟩
  rcases r10 with ⟨e1, e2, e3⟩ | ⟨e1, e2, e3⟩
  · exact Or.inl ⟨h2.trans e1, f.fault.trans e2, f.faultPlace.trans e3⟩
  · exact Or.inr ⟨h2.trans e1, f.fault.trans e2, f.faultPlace.trans e3⟩
theorem z_isSide {a : Int} (h1 : -2147483648 ≤ a) (h2 : a < 2147483648) : f_X11_isSide (iI a) = some (bI (0 ≤ a ∧ a ≤ 63)) := sz_isSide h1 h2
theorem z_isSideM {a : Int} (h1 : -2147483648 ≤ a) (h2 : a < 2147483648) : f_X12_isSide (iI a) = some (bI (0 ≤ a ∧ a ≤ 63)) := sz_isSideM h1 h2
theorem z_isStanding {v0 : BX11} {v2 : BX8} {v : BX10} {w h : Int} {A : Int → Int} (hM : RWo v w h A) (hI : InW w h A) {x y s : Int} (x1 : -2147483648 ≤ x) (x2 : x < 2147483648) (y1 : -2147483648 ≤ y) (y2 : y < 2147483648) (s1 : -2147483648 ≤ s) (s2 : s < 2147483648) : f_X11_isStanding v0 v2 v (iI x) (iI y) (iI s) = some (bI (((0 ≤ x ∧ x < 16 * w) ∧ 0 ≤ y ∧ y < 16 * h) ∧ 0 ≤ s ∧ s ≤ 63)) := by
  unfold f_X11_isStanding
  simp (disch := omega) only [z_isPlaceC hM hI, z_isSide, bind_s, bI_0I, ite_not, iLit]
  split
  · split
    · rw [bI_t (by omega)]
      rfl
    · rw [bI_f (by omega)]
      rfl
  · rw [bI_f (by omega)]
    rfl
theorem z_isLens {m : BX12} {w h : Int} {A : Int → Int} (hM : MW m w h A) (hE : InE A) {k : Int} (h1 : -2147483648 ≤ k) (h2 : k < 2147483648) : f_X12_isLens m (iI k) = some (bI (0 ≤ k ∧ k ≤ A 1 - 1)) := by
  have h3 := hE.1
  unfold f_X12_isLens
  simp (disch := omega) only [iLit, iI_inB, gd_t, iI_cl, hM.at, iI_sub, sz_isIn, bind_s, bI_gd]
theorem z_isLensC {v : BX1} {A : Int → Int} (hV : REy v A) (hE : InE A) {k : Int} (h1 : -2147483648 ≤ k) (h2 : k < 2147483648) : f_X1_isLens v (iI k) = some (bI (0 ≤ k ∧ k ≤ A 1 - 1)) := by
  have h3 := hE.1
  unfold f_X1_isLens
  simp (disch := omega) only [iLit, hV.1, iI_sub, sz_isWithin, bind_s, bI_gd]
