-- layer 2: what is laid, what a ray takes
def WX (s : Int) : Int := if s / 16 = 0 then 16 else if s / 16 = 1 then -(2 * (s - s / 16 * 16) - 16) else if s / 16 = 2 then -16 else 2 * (s - s / 16 * 16) - 16
def WY (s : Int) : Int := if s / 16 = 0 then 2 * (s - s / 16 * 16) - 16 else if s / 16 = 1 then 16 else if s / 16 = 2 then -(2 * (s - s / 16 * 16) - 16) else -16
theorem WX_bd {s : Int} (h1 : 0 ≤ s) (h2 : s < 64) : -16 ≤ WX s ∧ WX s ≤ 16 := by
  unfold WX
  split
  · omega
  · split
    · omega
    · split <;> omega
theorem WY_bd {s : Int} (h1 : 0 ≤ s) (h2 : s < 64) : -16 ≤ WY s ∧ WY s ≤ 16 := by
  unfold WY
  split
  · omega
  · split
    · omega
    · split <;> omega
theorem wyX_n : ∀ n : Nat, n < 64 → wyX n = iI (WX (n : Int)) := by decide +kernel
theorem wyY_n : ∀ n : Nat, n < 64 → wyY n = iI (WY (n : Int)) := by decide +kernel
theorem wyX_t {s : Int} (h1 : 0 ≤ s) (h2 : s < 64) : wyX s.toNat = iI (WX s) := by
  rw [wyX_n s.toNat (by omega), Int.toNat_of_nonneg h1]
theorem wyY_t {s : Int} (h1 : 0 ≤ s) (h2 : s < 64) : wyY s.toNat = iI (WY s) := by
  rw [wyY_n s.toNat (by omega), Int.toNat_of_nonneg h1]
theorem z_wayX {s : Int} (h1 : 0 ≤ s) (h2 : s < 64) : f_X12_wayX (iI s) = some (iI (WX s)) := by
  unfold f_X12_wayX WX
  simp (disch := omega) only [iLit, iI_div, iI_mul, iI_sub, iI_neg, lt_e, iI_eq]
  split
  · rfl
  · split
    · rfl
    · split <;> rfl
theorem z_wayY {s : Int} (h1 : 0 ≤ s) (h2 : s < 64) : f_X12_wayY (iI s) = some (iI (WY s)) := by
  unfold f_X12_wayY WY
  simp (disch := omega) only [iLit, iI_div, iI_mul, iI_sub, iI_neg, lt_e, iI_eq]
  split
  · rfl
  · split
    · rfl
    · split <;> rfl
theorem z_floor16 {v : Int} (h1 : -1000000000 ≤ v) (h2 : v ≤ 1000000000) : f_X12_floor (iI v) (iI 16) = some (iI (v / 16)) := by
  unfold f_X12_floor
  by_cases h : v < 0
  · simp (disch := omega) only [iLit, iI_div, iI_sub, iI_neg, iI_eq, iI_lt, gd_t]
    rw [if_pos h]
    congr 2
    omega
  · simp (disch := omega) only [iLit, iI_lt, iI_eq, gd_t]
    rw [if_neg h, iI_div (by omega) (by omega) (by omega) (by omega)]
/-- the ray's take and far from its k-th step on -/
def sRay (w h : Int) (A : Int → Int) (t dx dy : Int) : Nat → Int → Int → Int → Int × Int
  | 0, _, _, _ => (0, 41)
  | n + 1, k, X, Y => if ¬ ((0 ≤ X + dx ∧ X + dx < 16 * w) ∧ 0 ≤ Y + dy ∧ Y + dy < 16 * h) then (0, 41) else
      if sMk w h A ((Y + dy) / 16 * w + (X + dx) / 16) t = 0 then sRay w h A t dx dy n (k + 1) (X + dx) (Y + dy) else (sMk w h A ((Y + dy) / 16 * w + (X + dx) / 16) t, k)
def sR (w h : Int) (A : Int → Int) (x y t s : Int) : Int × Int := sRay w h A t (WX s) (WY s) 40 1 x y
theorem sRay_bd {w h : Int} {A : Int → Int} (hI : InW w h A) (t dx dy : Int) : ∀ (n : Nat) (k X Y : Int), 1 ≤ k → (n : Int) + k ≤ 41 → (0 ≤ (sRay w h A t dx dy n k X Y).1 ∧ (sRay w h A t dx dy n k X Y).1 ≤ 255) ∧ 1 ≤ (sRay w h A t dx dy n k X Y).2 ∧ (sRay w h A t dx dy n k X Y).2 ≤ 41 := by
  intro n
  induction n with
  | zero =>
    intro k X Y _ _
    unfold sRay
    omega
  | succ n ih =>
    intro k X Y h1 h2
    unfold sRay
    split
    · omega
    · split
      · exact ih (k + 1) (X + dx) (Y + dy) (by omega) (by omega)
      · rename_i hp _
        have hp := Decidable.not_not.mp hp
        have hI' := hI
        obtain ⟨⟨w1, w2, w3, w4⟩, _⟩ := hI'
        have hb := pl_bd w1 w2 w3 w4 hp.1 hp.2
        have := sMk_bd hI (c := (Y + dy) / 16 * w + (X + dx) / 16) (by omega) (by omega) t
        omega
theorem sR_bd {w h : Int} {A : Int → Int} (hI : InW w h A) (x y t s : Int) : (0 ≤ (sR w h A x y t s).1 ∧ (sR w h A x y t s).1 ≤ 255) ∧ 1 ≤ (sR w h A x y t s).2 ∧ (sR w h A x y t s).2 ≤ 41 := sRay_bd hI t _ _ 40 1 x y (by omega) (by omega)
/-- lay -/
def lyI (w h : Int) (A : Int → Int) (t : Int) (B : Nat → Int32) : Prop := ∀ c : Int, 0 ≤ c → c < w * h → B c.toNat = iI (sMk w h A c t)
theorem sMark_0 {w h : Int} {A : Int → Int} {c t : Int} : ∀ n : Nat, sMark w h A c t n (A 0) = A (10 + c)
  | 0 => rfl
  | n + 1 => by
    unfold sMark
    rw [if_pos (Int.le_refl _)]
theorem FrL.mw {m r : BX12} {w h : Int} {A : Int → Int} (f : FrL m r) (hM : MW m w h A) : MW r w h A := ⟨f.w.trans hM.1, f.h.trans hM.2.1, by rw [f.a]; exact hM.2.2⟩
theorem FrL.p {m r : BX12} (f : FrL m r) : FrP m r := ⟨f.w, f.h, f.taped, f.fault, f.faultPlace, f.a, f.image, f.texts, f.tape⟩
theorem FrP.mw {m r : BX12} {w h : Int} {A : Int → Int} (f : FrP m r) (hM : MW m w h A) : MW r w h A := ⟨f.w.trans hM.1, f.h.trans hM.2.1, by rw [f.a]; exact hM.2.2⟩
theorem MW.at {m : BX12} {w h : Int} {A : Int → Int} (hM : MW m w h A) {k : Int} (h1 : 0 ≤ k) (h2 : k < 3170) : pX12_a m k.toNat = iI (A k) := hM.2.2 k h1 h2
theorem upd_same (f : Nat → Int32) (j : Nat) (x : Int32) (e : f j = x) : upd f j x = f := by
  funext i
  unfold upd
  split
  · rename_i h
    rw [h, e]
  · rfl
theorem upd_upd (f : Nat → Int32) (j : Nat) (x y : Int32) : upd (upd f j x) j y = upd f j y := by
  funext i
  unfold upd
  split <;> rfl
theorem upd_at (f : Nat → Int32) (j : Nat) (x : Int32) : upd f j x j = x := by
  unfold upd
  rw [if_pos rfl]
theorem z_lay2 {m0 : BX12} {w h : Int} {A : Int → Int} (hM0 : MW m0 w h A) (hI : InW w h A) {t : Int} (ht : 0 ≤ t) (ht2 : t ≤ 1100) : ∀ (n : Nat) (i : Int) (m : BX12), FrL m0 m → i < A 0 → -1 ≤ i → (n : Int) = i + 1 → (∀ c : Int, 0 ≤ c → c < w * h → pX12_board m c.toNat = iI (sMark w h A c t (5 - i).toNat (i + 1))) → ∀ F : Nat, n < F → Wp (f_X12_lay_b45 F (iI t, iI i, m)) (fun r => FrL m0 r ∧ lyI w h A t (pX12_board r)) := by
  intro n
  have hI' := hI
  obtain ⟨⟨w1, w2, w3, w4⟩, _, hb, hB⟩ := hI'
  have h5 := wh_bd w1 w2 w3 w4
  induction n with
  | zero =>
    intro i m fr h1 h2 h3 hV F hF
    obtain ⟨F, rfl⟩ : ∃ F', F = F' + 1 := ⟨F - 1, by omega⟩
    obtain rfl : i = -1 := by omega
    show Wp (f_X12_lay_b45B (f_X12_lay_b45 F) (iI t) (iI (-1)) m) _
    unfold f_X12_lay_b45B
    simp (disch := omega) only [iLit, iI_lt]
    rw [if_pos (by omega)]
    exact wp_some ⟨fr, hV⟩
  | succ n ih =>
    intro i m fr h1 h2 h3 hV F hF
    obtain ⟨F, rfl⟩ : ∃ F', F = F' + 1 := ⟨F - 1, by omega⟩
    show Wp (f_X12_lay_b45B (f_X12_lay_b45 F) (iI t) (iI i) m) _
    have hM := fr.mw hM0
    have hs := sBody_bd hI i t
    unfold f_X12_lay_b45B f_X12_lay_b83
    simp (disch := omega) only [iLit, iI_lt, z_bodyAt hM hI, bind_s, iI_mul, iI_add, iI_neg, iI_inB, gd_t, iI_cl, hM.at, lt_e]
    have e2 : (5 - (i + -1)).toNat = (5 - i).toNat + 1 := by omega
    rw [if_neg (by omega)]
    by_cases hc : sBody w h A i t < 0
    · rw [if_pos hc]
      refine ih (i + -1) m fr (by omega) (by omega) (by omega) (fun c c1 c2 => ?_) F (by omega)
      rw [hV c c1 c2, e2, show i + -1 + 1 = i by omega]
      conv => rhs; unfold sMark
      rw [if_neg (show ¬ A 0 ≤ i by omega), if_neg (show ¬ sBody w h A i t = c by omega)]
    · rw [if_neg hc]
      refine ih (i + -1) _ (fr.s_board _) (by omega) (by omega) (by omega) (fun c c1 c2 => ?_) F (by omega)
      rw [q12_board_board, ai_upd (by omega) c1, e2, show i + -1 + 1 = i by omega]
      conv => rhs; unfold sMark
      rw [if_neg (show ¬ A 0 ≤ i by omega)]
      by_cases he : c = sBody w h A i t
      · rw [if_pos he, if_pos he.symm]
      · rw [if_neg he, if_neg (fun e => he e.symm), hV c c1 c2]
theorem z_lay1 {m0 : BX12} {w h : Int} {A : Int → Int} (hM0 : MW m0 w h A) (hI : InW w h A) {t : Int} (ht : 0 ≤ t) (ht2 : t ≤ 1100) : ∀ (n : Nat) (i : Int) (m : BX12), FrL m0 m → 0 ≤ i → (n : Int) + i = w * h → (∀ c : Int, 0 ≤ c → c < i → pX12_board m c.toNat = iI (A (10 + c))) → ∀ F : Nat, n < F → Wp (f_X12_lay_b2 F (iI t, iI i, m)) (fun r => FrL m0 r ∧ lyI w h A t (pX12_board r)) := by
  intro n
  have hI' := hI
  obtain ⟨⟨w1, w2, w3, w4⟩, _, hb, hB⟩ := hI'
  have h5 := wh_bd w1 w2 w3 w4
  induction n with
  | zero =>
    intro i m fr h1 h2 hV F hF
    obtain ⟨F, rfl⟩ : ∃ F', F = F' + 1 := ⟨F - 1, by omega⟩
    show Wp (f_X12_lay_b2B (f_X12_lay_b2 F) (iI t) (iI i) m) _
    have hM := fr.mw hM0
    unfold f_X12_lay_b2B
    simp (disch := omega) only [iLit, hM.1, hM.2.1, iI_mul, iI_le, iI_inB, gd_t, iI_cl, hM.at, iI_sub, lt_e]
    rw [if_pos (by omega)]
    refine z_lay2 hM0 hI ht ht2 (A 0).toNat (A 0 - 1) m fr (by omega) (by omega) (by omega) (fun c c1 c2 => ?_) fU (by rw [fU_v]; omega)
    rw [hV c c1 (by omega), show A 0 - 1 + 1 = A 0 by omega, sMark_0]
  | succ n ih =>
    intro i m fr h1 h2 hV F hF
    obtain ⟨F, rfl⟩ : ∃ F', F = F' + 1 := ⟨F - 1, by omega⟩
    show Wp (f_X12_lay_b2B (f_X12_lay_b2 F) (iI t) (iI i) m) _
    have hM := fr.mw hM0
    unfold f_X12_lay_b2B
    simp (disch := omega) only [iLit, hM.1, hM.2.1, iI_mul, iI_add, iI_le, iI_inB, gd_t, iI_cl, hM.at, iI_sub, lt_e]
    rw [if_neg (by omega)]
    refine ih (i + 1) _ (fr.s_board _) (by omega) (by omega) (fun c c1 c2 => ?_) F (by omega)
    rw [q12_board_board, ai_upd (by omega) c1]
    by_cases he : c = i
    · rw [if_pos he, he]
    · rw [if_neg he, hV c c1 (by omega)]
theorem z_lay {m : BX12} {w h : Int} {A : Int → Int} (hM : MW m w h A) (hI : InW w h A) {t : Int} (ht : 0 ≤ t) (ht2 : t ≤ 1100) : Wp (f_X12_lay m (iI t)) (fun r => FrL m r ∧ lyI w h A t (pX12_board r)) := by
  have hI' := hI
  obtain ⟨⟨w1, w2, w3, w4⟩, _, hb, hB⟩ := hI'
  have h5 := wh_bd w1 w2 w3 w4
  exact z_lay1 hM hI ht ht2 (w * h).toNat 0 m (FrL.refl m) (by omega) (by omega) (fun c c1 c2 => by omega) fU (by rw [fU_v]; omega)
/-- shoot: what it writes -/
theorem z_shoot1 {m : BX12} {w h : Int} {A : Int → Int} (hM : MW m w h A) (hI : InW w h A) {t s x y : Int} (hl : lyI w h A t (pX12_board m)) (hs : 0 ≤ s) (hs2 : s < 64) : ∀ (n : Nat) (k X Y : Int), 1 ≤ k → (n : Int) + k = 41 → (-16 ≤ X ∧ X ≤ 16 * w + 16) → (-16 ≤ Y ∧ Y ≤ 16 * h + 16) → x + k * WX s = X + WX s → y + k * WY s = Y + WY s → pX12_taken m s.toNat = iI 0 → pX12_fars m s.toNat = iI 41 → ∀ F : Nat, n < F → Wp (f_X12_shoot_b18 F (iI x, iI y, iI s, iI k, m)) (fun r => FrL m r ∧ pX12_board r = pX12_board m ∧ pX12_taken r = upd (pX12_taken m) s.toNat (iI (sRay w h A t (WX s) (WY s) n k X Y).1) ∧ pX12_fars r = upd (pX12_fars m) s.toNat (iI (sRay w h A t (WX s) (WY s) n k X Y).2)) := by
  intro n
  have hI' := hI
  obtain ⟨⟨w1, w2, w3, w4⟩, _, hb, hB⟩ := hI'
  have h5 := wh_bd w1 w2 w3 w4
  have hx := WX_bd hs hs2
  have hy := WY_bd hs hs2
  induction n with
  | zero =>
    intro k X Y k1 k2 hX hY eX eY hT hF2 F hF
    obtain ⟨F, rfl⟩ : ∃ F', F = F' + 1 := ⟨F - 1, by omega⟩
    show Wp (f_X12_shoot_b18B (f_X12_shoot_b18 F) (iI x) (iI y) (iI s) (iI k) m) _
    unfold f_X12_shoot_b18B sRay
    simp (disch := omega) only [iLit, iI_lt]
    rw [if_pos (by omega)]
    exact wp_some ⟨FrL.refl m, rfl, (upd_same _ _ _ hT).symm, (upd_same _ _ _ hF2).symm⟩
  | succ n ih =>
    intro k X Y k1 k2 hX hY eX eY hT hF2 F hF
    obtain ⟨F, rfl⟩ : ∃ F', F = F' + 1 := ⟨F - 1, by omega⟩
    show Wp (f_X12_shoot_b18B (f_X12_shoot_b18 F) (iI x) (iI y) (iI s) (iI k) m) _
    unfold f_X12_shoot_b18B sRay
    simp (disch := omega) only [iLit, iI_lt, z_wayX, z_wayY, bind_s, iI_mul, iI_add, eX, eY, z_floor16, hM.1, hM.2.1, iI_sub, sz_isIn, bI_0I, ite_not]
    rw [if_neg (by omega)]
    by_cases hp : (0 ≤ X + WX s ∧ X + WX s < 16 * w) ∧ 0 ≤ Y + WY s ∧ Y + WY s < 16 * h
    · have hb := pl_bd w1 w2 w3 w4 hp.1 hp.2
      have hb2 := sMk_bd hI (c := (Y + WY s) / 16 * w + (X + WX s) / 16) (by omega) (by omega) t
      rw [if_pos (by omega), if_pos (by omega), if_pos hp]
      simp (disch := omega) only [iI_inB, gd_t, iI_cl, hl _ hb.2.1 hb.2.2.1, iI_eq, lt_e]
      by_cases hz : sMk w h A ((Y + WY s) / 16 * w + (X + WX s) / 16) t = 0
      · rw [if_pos hz, if_pos hz]
        have e1 : (k + 1) * WX s = k * WX s + WX s := by rw [Int.add_mul, Int.one_mul]
        have e2 : (k + 1) * WY s = k * WY s + WY s := by rw [Int.add_mul, Int.one_mul]
        exact ih (k + 1) (X + WX s) (Y + WY s) (by omega) (by omega) (by omega) (by omega) (by omega) (by omega) hT hF2 F (by omega)
      · rw [if_neg hz, if_neg hz]
        exact wp_some ⟨((FrL.refl m).s_taken _).s_fars _, by rw [q12_board_fars, q12_board_taken], by rw [q12_taken_fars, q12_taken_taken], by rw [q12_fars_fars, q12_fars_taken]⟩
    · rw [if_neg hp]
      by_cases h1 : 0 ≤ (X + WX s) / 16 ∧ (X + WX s) / 16 ≤ w - 1
      · rw [if_pos h1, if_neg (by omega)]
        exact wp_some ⟨FrL.refl m, rfl, (upd_same _ _ _ hT).symm, (upd_same _ _ _ hF2).symm⟩
      · rw [if_neg h1]
        exact wp_some ⟨FrL.refl m, rfl, (upd_same _ _ _ hT).symm, (upd_same _ _ _ hF2).symm⟩
theorem z_shoot {m : BX12} {w h : Int} {A : Int → Int} (hM : MW m w h A) (hI : InW w h A) {t s x y : Int} (hl : lyI w h A t (pX12_board m)) (hs : 0 ≤ s) (hs2 : s < 64) (hx : 0 ≤ x ∧ x < 16 * w) (hy : 0 ≤ y ∧ y < 16 * h) : Wp (f_X12_shoot m (iI x) (iI y) (iI s)) (fun r => FrL m r ∧ pX12_board r = pX12_board m ∧ pX12_taken r = upd (pX12_taken m) s.toNat (iI (sR w h A x y t s).1) ∧ pX12_fars r = upd (pX12_fars m) s.toNat (iI (sR w h A x y t s).2)) := by
  unfold f_X12_shoot sR
  simp (disch := omega) only [iLit, iI_inB, gd_t, iI_cl, lt_e]
  have fr := ((FrL.refl m).s_taken (upd (pX12_taken m) s.toNat (iI 0))).s_fars (upd (pX12_fars (sX12_taken m (upd (pX12_taken m) s.toNat (iI 0)))) s.toNat (iI 41))
  have g1 : pX12_board (sX12_fars (sX12_taken m (upd (pX12_taken m) s.toNat (iI 0))) (upd (pX12_fars (sX12_taken m (upd (pX12_taken m) s.toNat (iI 0)))) s.toNat (iI 41))) = pX12_board m := by rw [q12_board_fars, q12_board_taken]
  have g2 : pX12_taken (sX12_fars (sX12_taken m (upd (pX12_taken m) s.toNat (iI 0))) (upd (pX12_fars (sX12_taken m (upd (pX12_taken m) s.toNat (iI 0)))) s.toNat (iI 41))) = upd (pX12_taken m) s.toNat (iI 0) := by rw [q12_taken_fars, q12_taken_taken]
  have g3 : pX12_fars (sX12_fars (sX12_taken m (upd (pX12_taken m) s.toNat (iI 0))) (upd (pX12_fars (sX12_taken m (upd (pX12_taken m) s.toNat (iI 0)))) s.toNat (iI 41))) = upd (pX12_fars m) s.toNat (iI 41) := by rw [q12_fars_fars, q12_fars_taken]
  generalize sX12_fars (sX12_taken m (upd (pX12_taken m) s.toNat (iI 0))) (upd (pX12_fars (sX12_taken m (upd (pX12_taken m) s.toNat (iI 0)))) s.toNat (iI 41)) = m1 at fr g1 g2 g3 ⊢
  refine wp_mono (z_shoot1 (fr.mw hM) hI (by rw [g1]; exact hl) hs hs2 40 1 x y (by omega) (by omega) (by omega) (by omega) (by rw [Int.one_mul]) (by rw [Int.one_mul]) (by rw [g2, upd_at]) (by rw [g3, upd_at]) fU (by rw [fU_v]; omega)) (fun r hr => ?_)
  obtain ⟨h1, h2, h3, h4⟩ := hr
  exact ⟨fr.trans h1, h2.trans g1, by rw [h3, g2, upd_upd], by rw [h4, g3, upd_upd]⟩
/-- what all rays take -/
def tkI (w h : Int) (A : Int → Int) (x y t : Int) (T : Nat → Int32) : Prop := ∀ s : Int, 0 ≤ s → s < 64 → T s.toNat = iI (sR w h A x y t s).1
theorem z_look1 {m0 : BX12} {w h : Int} {A : Int → Int} (hM0 : MW m0 w h A) (hI : InW w h A) {t x y : Int} (hx : 0 ≤ x ∧ x < 16 * w) (hy : 0 ≤ y ∧ y < 16 * h) : ∀ (n : Nat) (s : Int) (m : BX12), FrL m0 m → lyI w h A t (pX12_board m) → 0 ≤ s → (n : Int) + s = 64 → (∀ j : Int, 0 ≤ j → j < s → pX12_taken m j.toNat = iI (sR w h A x y t j).1) → ∀ F : Nat, n < F → Wp (f_X12_look_b8 F (iI x, iI y, iI s, m)) (fun r => FrL m0 r ∧ tkI w h A x y t (pX12_taken r)) := by
  intro n
  induction n with
  | zero =>
    intro s m fr hl s1 s2 hT F hF
    obtain ⟨F, rfl⟩ : ∃ F', F = F' + 1 := ⟨F - 1, by omega⟩
    show Wp (f_X12_look_b8B (f_X12_look_b8 F) (iI x) (iI y) (iI s) m) _
    unfold f_X12_look_b8B
    simp (disch := omega) only [iLit, iI_le]
    rw [if_pos (by omega)]
    exact wp_some ⟨fr, fun j j1 j2 => hT j j1 (by omega)⟩
  | succ n ih =>
    intro s m fr hl s1 s2 hT F hF
    obtain ⟨F, rfl⟩ : ∃ F', F = F' + 1 := ⟨F - 1, by omega⟩
    show Wp (f_X12_look_b8B (f_X12_look_b8 F) (iI x) (iI y) (iI s) m) _
    unfold f_X12_look_b8B
    simp (disch := omega) only [iLit, iI_le, iI_add, lt_e]
    rw [if_neg (by omega)]
    refine wp_bind (wp_mono (z_shoot (fr.mw hM0) hI hl s1 (show s < 64 by omega) hx hy) (fun r hr => ?_))
    obtain ⟨h1, h2, h3, h4⟩ := hr
    refine ih (s + 1) r (fr.trans h1) (by rw [h2]; exact hl) (by omega) (by omega) (fun j j1 j2 => ?_) F (by omega)
    rw [h3, ai_upd (by omega) j1]
    by_cases he : j = s
    · rw [if_pos he, he]
    · rw [if_neg he, hT j j1 (by omega)]
theorem z_look {m : BX12} {w h : Int} {A : Int → Int} (hM : MW m w h A) (hI : InW w h A) {t x y : Int} (ht : 0 ≤ t) (ht2 : t ≤ 1100) (hx : 0 ≤ x ∧ x < 16 * w) (hy : 0 ≤ y ∧ y < 16 * h) : Wp (f_X12_look m (iI x) (iI y) (iI t)) (fun r => FrL m r ∧ tkI w h A x y t (pX12_taken r)) := by
  unfold f_X12_look
  refine wp_bind (wp_mono (z_lay hM hI ht ht2) (fun r hr => ?_))
  exact z_look1 hM hI hx hy 64 0 r hr.1 hr.2 (by omega) (by omega) (fun j j1 j2 => by omega) fU (by rw [fU_v]; omega)
