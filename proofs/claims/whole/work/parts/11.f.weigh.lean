-- layer 2: the class's sight; takes
/-- the class's sight on a tick, from a place: what isn't traced yet is -1 -/
def SG (v : BX7) (w h : Int) (A : Int → Int) (x y t : Int) : Prop := pX7_n v = (w * h).toNat ∧ pX7_x v = iI x ∧ pX7_y v = iI y ∧ lyI w h A t (pX7_view v) ∧ ∀ s : Int, 0 ≤ s → s < 64 → pX7_rays v s.toNat = iI (-1) ∨ pX7_rays v s.toNat = iI (sR w h A x y t s).1
theorem z_fill : ∀ (n : Nat) (i : Int) (R : Nat → Int32), 0 ≤ i → (n : Int) + i = 64 → (∀ s : Int, 0 ≤ s → s < i → R s.toNat = iI (-1)) → ∀ F : Nat, n < F → Wp (f_J7_fill_53178_b5 64 F (iI (-1), iI i, iI 64, R)) (fun r => ∀ s : Int, 0 ≤ s → s < 64 → r s.toNat = iI (-1)) := by
  intro n
  induction n with
  | zero =>
    intro i R i1 i2 hR F hF
    obtain ⟨F, rfl⟩ : ∃ F', F = F' + 1 := ⟨F - 1, by omega⟩
    show Wp (f_J7_fill_53178_b5B 64 (f_J7_fill_53178_b5 64 F) (iI (-1)) (iI i) (iI 64) R) _
    unfold f_J7_fill_53178_b5B
    simp (disch := omega) only [iI_le]
    rw [if_pos (by omega)]
    exact wp_some (fun s s1 s2 => hR s s1 (by omega))
  | succ n ih =>
    intro i R i1 i2 hR F hF
    obtain ⟨F, rfl⟩ : ∃ F', F = F' + 1 := ⟨F - 1, by omega⟩
    show Wp (f_J7_fill_53178_b5B 64 (f_J7_fill_53178_b5 64 F) (iI (-1)) (iI i) (iI 64) R) _
    unfold f_J7_fill_53178_b5B
    simp (disch := omega) only [iLit, iI_le, iI_inB, gd_t, iI_cl, iI_add, lt_e]
    rw [if_neg (by omega)]
    refine ih (i + 1) _ (by omega) (by omega) (fun s s1 s2 => ?_) F (by omega)
    rw [ai_upd (by omega) s1]
    by_cases he : s = i
    · rw [if_pos he]
    · rw [if_neg he, hR s s1 (by omega)]
theorem z_lookC1 {u : BX10} {w h : Int} {A : Int → Int} (hW : RWo u w h A) (hI : InW w h A) {x y t : Int} (ht : 0 ≤ t) (ht2 : t ≤ 1100) : ∀ (n : Nat) (i : Int) (v : BX7), pX7_n v = (w * h).toNat → pX7_x v = iI x → pX7_y v = iI y → i < A 0 → -1 ≤ i → (n : Int) = i + 1 → (∀ c : Int, 0 ≤ c → c < w * h → pX7_view v c.toNat = iI (sMark w h A c t (5 - i).toNat (i + 1))) → ∀ F : Nat, n < F → Wp (f_X7_look_b42 u F (iI t, iI i, v)) (fun r => SG r w h A x y t) := by
  intro n
  have hI' := hI
  obtain ⟨⟨w1, w2, w3, w4⟩, _, hb, hB⟩ := hI'
  have h5 := wh_bd w1 w2 w3 w4
  have hn2 : ((w * h).toNat : Int) = w * h := Int.toNat_of_nonneg (by omega)
  induction n with
  | zero =>
    intro i v hn hx hy h1 h2 h3 hV F hF
    obtain ⟨F, rfl⟩ : ∃ F', F = F' + 1 := ⟨F - 1, by omega⟩
    show Wp (f_X7_look_b42B u (f_X7_look_b42 u F) (iI t) (iI i) v) _
    unfold f_X7_look_b42B f_J7_fill_53178
    simp (disch := omega) only [iLit, iI_lt, lt_e, iI_neg]
    rw [if_pos (by omega)]
    obtain rfl : i = -1 := by omega
    refine wp_bind (wp_mono (z_fill 64 0 (pX7_rays v) (by omega) (by omega) (fun s s1 s2 => by omega) fU (by rw [fU_v]; omega)) (fun r hr => wp_some ?_))
    exact ⟨by rw [q7_n_rays]; exact hn, by rw [q7_x_rays]; exact hx, by rw [q7_y_rays]; exact hy, by rw [q7_view_rays]; exact hV, fun s s1 s2 => Or.inl (by rw [q7_rays_rays]; exact hr s s1 s2)⟩
  | succ n ih =>
    intro i v hn hx hy h1 h2 h3 hV F hF
    obtain ⟨F, rfl⟩ : ∃ F', F = F' + 1 := ⟨F - 1, by omega⟩
    show Wp (f_X7_look_b42B u (f_X7_look_b42 u F) (iI t) (iI i) v) _
    have hs := sBody_bd hI i t
    obtain ⟨r1, r2, r3, r4, r5⟩ := hW.2.2.2.2.2 i (by omega) (by omega)
    unfold f_X7_look_b42B f_X7_look_b91
    simp (disch := omega) only [iLit, iI_lt, z_bodyCell hW hI, bind_s, iI_le, hn, ofNat_toNat, iI_inB, hn2, gd_t, iI_cl, r5, lt_e, iI_add, iI_neg]
    have e2 : (5 - (i + -1)).toNat = (5 - i).toNat + 1 := by omega
    rw [if_neg (by omega)]
    by_cases hc : sBody w h A i t < 0
    · rw [if_pos hc]
      refine ih (i + -1) v hn hx hy (by omega) (by omega) (by omega) (fun c c1 c2 => ?_) F (by omega)
      rw [hV c c1 c2, e2, show i + -1 + 1 = i by omega]
      conv => rhs; unfold sMark
      rw [if_neg (show ¬ A 0 ≤ i by omega), if_neg (show ¬ sBody w h A i t = c by omega)]
    · rw [if_neg hc, if_neg (by omega)]
      refine ih (i + -1) _ (by rw [q7_n_view]; exact hn) (by rw [q7_x_view]; exact hx) (by rw [q7_y_view]; exact hy) (by omega) (by omega) (by omega) (fun c c1 c2 => ?_) F (by omega)
      rw [q7_view_view, ai_upd (by omega) c1, e2, show i + -1 + 1 = i by omega]
      conv => rhs; unfold sMark
      rw [if_neg (show ¬ A 0 ≤ i by omega)]
      by_cases he : c = sBody w h A i t
      · rw [if_pos he, if_pos he.symm]
      · rw [if_neg he, if_neg (fun e => he e.symm), hV c c1 c2]
theorem z_lookC {u : BX10} {v : BX7} {w h : Int} {A : Int → Int} (hW : RWo u w h A) (hI : InW w h A) {x y t : Int} (hn : pX7_n v = (w * h).toNat) (ht : 0 ≤ t) (ht2 : t ≤ 1100) : Wp (f_X7_look v u (iI x) (iI y) (iI t)) (fun r => SG r w h A x y t) := by
  have hI' := hI
  obtain ⟨⟨w1, w2, w3, w4⟩, _, hb, hB⟩ := hI'
  have h5 := wh_bd w1 w2 w3 w4
  unfold f_X7_look
  simp (disch := omega) only [lt_e, q7_n_y, q7_n_x, hn, ofNat_toNat, iLit, iI_lt, iI_cl, hW.1, hW.2.2.2.1, iI_sub]
  refine wp_gd (by omega) ?_
  refine z_lookC1 hW hI ht ht2 (A 0).toNat (A 0 - 1) _ (by rw [q7_n_view, q7_n_y, q7_n_x]; exact hn) (by rw [q7_x_view, q7_x_y, q7_x_x]) (by rw [q7_y_view, q7_y_y]) (by omega) (by omega) (by omega) (fun c c1 c2 => ?_) fU (by rw [fU_v]; omega)
  rw [q7_view_view, show A 0 - 1 + 1 = A 0 by omega, sMark_0]
  unfold va_cpy
  rw [if_pos (by omega), show Int.toNat 0 + (c.toNat - Int.toNat 0) = c.toNat by omega]
  exact hW.2.2.2.2.1 c c1 c2
theorem z_trace1 {u : BX10} {v : BX7} {w h : Int} {A : Int → Int} (hW : RWo u w h A) (hI : InW w h A) {x y t s : Int} (hS : SG v w h A x y t) (hs : 0 ≤ s) (hs2 : s < 64) : ∀ (n : Nat) (k X Y : Int), 1 ≤ k → (n : Int) + k = 41 → (0 ≤ X ∧ X < 16 * w) → (0 ≤ Y ∧ Y < 16 * h) → ∀ F : Nat, n < F → f_X7_trace_b51 v u F (iI s, iI (16 * w), iI (16 * h), iI X, iI Y, iI k) = some (iI ((sRay w h A t (WX s) (WY s) n k X Y).2 * 256 + (sRay w h A t (WX s) (WY s) n k X Y).1)) := by
  intro n
  have hI' := hI
  obtain ⟨⟨w1, w2, w3, w4⟩, _, hb, hB⟩ := hI'
  have h5 := wh_bd w1 w2 w3 w4
  have hn2 : ((w * h).toNat : Int) = w * h := Int.toNat_of_nonneg (by omega)
  have hx := WX_bd hs hs2
  have hy := WY_bd hs hs2
  induction n with
  | zero =>
    intro k X Y k1 k2 hX hY F hF
    obtain ⟨F, rfl⟩ : ∃ F', F = F' + 1 := ⟨F - 1, by omega⟩
    show f_X7_trace_b51B v u (f_X7_trace_b51 v u F) (iI s) (iI (16 * w)) (iI (16 * h)) (iI X) (iI Y) (iI k) = _
    unfold f_X7_trace_b51B sRay
    simp (disch := omega) only [iLit, iI_lt]
    rw [if_pos (by omega)]
    rfl
  | succ n ih =>
    intro k X Y k1 k2 hX hY F hF
    obtain ⟨F, rfl⟩ : ∃ F', F = F' + 1 := ⟨F - 1, by omega⟩
    show f_X7_trace_b51B v u (f_X7_trace_b51 v u F) (iI s) (iI (16 * w)) (iI (16 * h)) (iI X) (iI Y) (iI k) = _
    unfold f_X7_trace_b51B sRay
    simp (disch := omega) only [iLit, iI_lt, iI_inB, gd_t, lt_e, iI_cl, wyX_t, wyY_t, iI_add, iI_le]
    rw [if_neg (by omega)]
    by_cases hp : (0 ≤ X + WX s ∧ X + WX s < 16 * w) ∧ 0 ≤ Y + WY s ∧ Y + WY s < 16 * h
    · have hb := pl_bd w1 w2 w3 w4 hp.1 hp.2
      have hb2 := sMk_bd hI (c := (Y + WY s) / 16 * w + (X + WX s) / 16) (by omega) (by omega) t
      rw [if_neg (not_not_intro hp), if_neg (by omega), if_neg (by omega), if_neg (by omega), if_pos (by omega)]
      simp (disch := omega) only [iI_div, hW.2.1, iI_mul, iI_add, hS.1, iI_inB, hn2, gd_t, iI_cl, hS.2.2.2.1 _ hb.2.1 hb.2.2.1, iI_eq, iI_shl8]
      by_cases hz : sMk w h A ((Y + WY s) / 16 * w + (X + WX s) / 16) t = 0
      · rw [if_pos hz, if_pos hz]
        exact ih (k + 1) (X + WX s) (Y + WY s) (by omega) (by omega) hp.1 hp.2 F (by omega)
      · rw [if_neg hz, if_neg hz]
    · rw [if_pos hp]
      split
      · rfl
      · split
        · rfl
        · split
          · rfl
          · rw [if_neg (by omega)]
            rfl
theorem z_trace {u : BX10} {v : BX7} {w h : Int} {A : Int → Int} (hW : RWo u w h A) (hI : InW w h A) {x y t s : Int} (hS : SG v w h A x y t) (hs : 0 ≤ s) (hs2 : s < 64) (hx : 0 ≤ x ∧ x < 16 * w) (hy : 0 ≤ y ∧ y < 16 * h) : f_X7_trace v u (iI s) = some (iI ((sR w h A x y t s).2 * 256 + (sR w h A x y t s).1)) := by
  unfold f_X7_trace sR
  simp (disch := omega) only [iLit, iI_lt, iI_le, hW.2.1, hW.2.2.1, iI_mul, lt_e, hS.2.1, hS.2.2.1]
  rw [if_neg (by omega), if_pos (by omega), Int.mul_comm w 16, Int.mul_comm h 16]
  exact z_trace1 hW hI hS hs hs2 40 1 x y (by omega) (by omega) hx hy fU (by rw [fU_v]; omega)
/-- the weighed sum, from i on -/
def sSum (T : Int → Int) (side width head : Int) : Nat → Int → Int → Int
  | 0, _, a => a
  | n + 1, i, a => sSum T side width head n (i + 1) (a + T ((head + side + i) % 64) * (width + 1 - (if 0 ≤ i then i else 0 - i)))
def sTake (T : Int → Int) (side width head : Int) : Int := sSum T side width head (2 * width + 1).toNat (-width) 0 / ((width + 1) * (width + 1))
theorem term_bd {a b : Int} (h1 : 0 ≤ a) (h2 : a ≤ 255) (h3 : 0 ≤ b) (h4 : b ≤ 8) : 0 ≤ a * b ∧ a * b ≤ 2040 := by
  have e1 : 0 ≤ a * b := Int.mul_nonneg h1 h3
  have e2 : a * b ≤ 255 * b := Int.mul_le_mul_of_nonneg_right h2 h3
  omega
/-- exact bound: the sum from i on stays below 255 times what is left -/
theorem sSum_bd {T : Int → Int} (hT : ∀ s, 0 ≤ s → s < 64 → 0 ≤ T s ∧ T s ≤ 255) {side width head : Int} (hw : 0 ≤ width) (hw7 : width ≤ 7) : ∀ (n : Nat) (i a : Int), -width ≤ i → (n : Int) + i = width + 1 → 0 ≤ a → a ≤ 100000 - 2040 * n → 0 ≤ sSum T side width head n i a ∧ sSum T side width head n i a ≤ 100000 := by
  intro n
  induction n with
  | zero =>
    intro i a h1 h2 h3 h4
    unfold sSum
    omega
  | succ n ih =>
    intro i a h1 h2 h3 h4
    unfold sSum
    have hb := hT ((head + side + i) % 64) (by omega) (by omega)
    have := term_bd hb.1 hb.2 (b := width + 1 - (if 0 ≤ i then i else 0 - i)) (by split <;> omega) (by split <;> omega)
    exact ih (i + 1) _ (by omega) (by omega) (by omega) (by omega)
theorem sTake_bd {T : Int → Int} (hT : ∀ s, 0 ≤ s → s < 64 → 0 ≤ T s ∧ T s ≤ 255) {side width head : Int} (hw : 0 ≤ width) (hw7 : width ≤ 7) : 0 ≤ sTake T side width head ∧ sTake T side width head ≤ 100000 := by
  have h1 := sSum_bd hT (side := side) (head := head) hw hw7 (2 * width + 1).toNat (-width) 0 (by omega) (by omega) (by omega) (by omega)
  unfold sTake
  have h2 : 0 < (width + 1) * (width + 1) := Int.mul_pos (by omega) (by omega)
  have h3 := Int.ediv_nonneg h1.1 (Int.le_of_lt h2)
  have h4 := Int.ediv_le_self ((width + 1) * (width + 1)) h1.1
  omega
theorem sq_bd {a : Int} (h1 : 0 ≤ a) (h2 : a ≤ 7) : 0 < (a + 1) * (a + 1) ∧ (a + 1) * (a + 1) ≤ 64 := by
  have e1 : 0 < (a + 1) * (a + 1) := Int.mul_pos (by omega) (by omega)
  have e2 : (a + 1) * (a + 1) ≤ 8 * (a + 1) := Int.mul_le_mul_of_nonneg_right (by omega) (by omega)
  omega
theorem z_abs {v : Int} (h1 : -1000000000 ≤ v) (h2 : v ≤ 1000000000) : f_X12_abs (iI v) = some (iI (if 0 ≤ v then v else 0 - v)) := by
  unfold f_X12_abs
  simp (disch := omega) only [iLit, iI_le, iI_neg]
  split
  · rfl
  · congr 2
    omega
theorem z_takeOf1 {m : BX12} {T : Int → Int} (hm : ∀ s : Int, 0 ≤ s → s < 64 → pX12_taken m s.toNat = iI (T s)) (hT : ∀ s, 0 ≤ s → s < 64 → 0 ≤ T s ∧ T s ≤ 255) {side width head : Int} (hs : 0 ≤ side) (hs2 : side < 64) (hh : 0 ≤ head) (hh2 : head < 64) (hw : 0 ≤ width) (hw7 : width ≤ 7) : ∀ (n : Nat) (i a : Int), -width ≤ i → (n : Int) + i = width + 1 → 0 ≤ a → a ≤ 100000 - 2040 * n → ∀ F : Nat, n < F → f_X12_takeOf_b7 m F (iI side, iI width, iI head, iI a, iI i) = some (iI (sSum T side width head n i a / ((width + 1) * (width + 1)))) := by
  intro n
  have hq := sq_bd hw hw7
  induction n with
  | zero =>
    intro i a h1 h2 h3 h4 F hF
    obtain ⟨F, rfl⟩ : ∃ F', F = F' + 1 := ⟨F - 1, by omega⟩
    show f_X12_takeOf_b7B m (f_X12_takeOf_b7 m F) (iI side) (iI width) (iI head) (iI a) (iI i) = _
    unfold f_X12_takeOf_b7B sSum
    simp (disch := omega) only [iLit, iI_lt, iI_add, iI_mul, iI_eq, gd_t, iI_div]
    rw [if_pos (by omega)]
  | succ n ih =>
    intro i a h1 h2 h3 h4 F hF
    obtain ⟨F, rfl⟩ : ∃ F', F = F' + 1 := ⟨F - 1, by omega⟩
    show f_X12_takeOf_b7B m (f_X12_takeOf_b7 m F) (iI side) (iI width) (iI head) (iI a) (iI i) = _
    have e1 : head + side + i + 64 - (head + side + i + 64) / 64 * 64 = (head + side + i) % 64 := by omega
    have hb := hT ((head + side + i) % 64) (by omega) (by omega)
    have ht := term_bd hb.1 hb.2 (b := width + 1 - (if 0 ≤ i then i else 0 - i)) (by split <;> omega) (by split <;> omega)
    unfold f_X12_takeOf_b7B sSum
    simp (disch := omega) only [iLit, iI_lt, iI_add, iI_mul, iI_sub, iI_div, z_abs, bind_s, e1, iI_inB, gd_t, iI_cl, hm, lt_e]
    rw [if_neg (by omega), Int.mul_comm (width + 1 - (if 0 ≤ i then i else 0 - i))]
    exact ih (i + 1) _ (by omega) (by omega) (by omega) (by omega) F (by omega)
theorem z_takeOf {m : BX12} {T : Int → Int} (hm : ∀ s : Int, 0 ≤ s → s < 64 → pX12_taken m s.toNat = iI (T s)) (hT : ∀ s, 0 ≤ s → s < 64 → 0 ≤ T s ∧ T s ≤ 255) {side width head : Int} (hs : 0 ≤ side) (hs2 : side < 64) (hh : 0 ≤ head) (hh2 : head < 64) (hw : 0 ≤ width) (hw7 : width ≤ 7) : f_X12_takeOf m (iI side) (iI width) (iI head) = some (iI (sTake T side width head)) := by
  unfold f_X12_takeOf sTake
  simp only [iI_neg, lt_e, iLit]
  exact z_takeOf1 hm hT hs hs2 hh hh2 hw hw7 (2 * width + 1).toNat (-width) 0 (by omega) (by omega) (by omega) (by omega) fU (by rw [fU_v]; omega)
def sT (w h : Int) (A : Int → Int) (x y t : Int) : Int → Int := fun s => (sR w h A x y t s).1
theorem sT_bd {w h : Int} {A : Int → Int} (hI : InW w h A) (x y t : Int) : ∀ s, 0 ≤ s → s < 64 → 0 ≤ sT w h A x y t s ∧ sT w h A x y t s ≤ 255 := fun s _ _ => (sR_bd hI x y t s).1
theorem z_weigh1 {u : BX10} {w h : Int} {A : Int → Int} (hW : RWo u w h A) (hI : InW w h A) {x y t : Int} (hx : 0 ≤ x ∧ x < 16 * w) (hy : 0 ≤ y ∧ y < 16 * h) {side width head : Int} (hs : 0 ≤ side) (hs2 : side < 64) (hh : 0 ≤ head) (hh2 : head < 64) (hw : 0 ≤ width) (hw7 : width ≤ 7) : ∀ (n : Nat) (i a : Int) (v : BX7), SG v w h A x y t → -width ≤ i → (n : Int) + i = width + 1 → 0 ≤ a → a ≤ 100000 - 2040 * n → ∀ F : Nat, n < F → Wp (f_X7_weigh_b7 u F (iI side, iI width, iI head, iI a, iI i, v)) (fun r => r.1 = iI (sSum (sT w h A x y t) side width head n i a / ((width + 1) * (width + 1))) ∧ SG r.2 w h A x y t) := by
  intro n
  have hq := sq_bd hw hw7
  induction n with
  | zero =>
    intro i a v hS h1 h2 h3 h4 F hF
    obtain ⟨F, rfl⟩ : ∃ F', F = F' + 1 := ⟨F - 1, by omega⟩
    show Wp (f_X7_weigh_b7B u (f_X7_weigh_b7 u F) (iI side) (iI width) (iI head) (iI a) (iI i) v) _
    unfold f_X7_weigh_b7B f_X1_allWeights sSum
    simp (disch := omega) only [iLit, iI_lt, iI_add, iI_mul, bind_s, iI_le, iI_eq, gd_t, iI_div]
    rw [if_pos (by omega), if_neg (by omega)]
    exact wp_some ⟨rfl, hS⟩
  | succ n ih =>
    intro i a v hS h1 h2 h3 h4 F hF
    obtain ⟨F, rfl⟩ : ∃ F', F = F' + 1 := ⟨F - 1, by omega⟩
    show Wp (f_X7_weigh_b7B u (f_X7_weigh_b7 u F) (iI side) (iI width) (iI head) (iI a) (iI i) v) _
    have hb := sT_bd hI x y t ((head + side + i) % 64) (by omega) (by omega)
    have hb2 := sR_bd hI x y t ((head + side + i) % 64)
    have ht := term_bd hb.1 hb.2 (b := width + 1 - (if 0 ≤ i then i else 0 - i)) (by split <;> omega) (by split <;> omega)
    unfold f_X7_weigh_b7B f_X7_weigh_b52 sSum
    simp (disch := omega) only [iLit, iI_lt, iI_add, iI_and63, lt_e, iI_inB, gd_t, iI_cl, iI_le]
    rw [if_neg (by omega)]
    have go : ∀ v2 : BX7, SG v2 w h A x y t → pX7_rays v2 ((head + side + i) % 64).toNat = iI (sT w h A x y t ((head + side + i) % 64)) → Wp (f_X7_weigh_b7 u F (iI side, iI width, iI head, iI a + pX7_rays v2 ((head + side + i) % 64).toNat * (iI (width + 1) - (if 0 ≤ i then iI i else iI 0 - iI i)), iI (i + 1), v2)) (fun r => r.1 = iI (sSum (sT w h A x y t) side width head n (i + 1) (a + sT w h A x y t ((head + side + i) % 64) * (width + 1 - (if 0 ≤ i then i else 0 - i))) / ((width + 1) * (width + 1))) ∧ SG r.2 w h A x y t) := by
      intro v2 hS2 hr
      have e3 : (if 0 ≤ i then iI i else iI 0 - iI i) = iI (if 0 ≤ i then i else 0 - i) := by
        split
        · rfl
        · rw [iI_sub]
      rw [hr, e3, iI_sub, iI_mul, iI_add]
      exact ih (i + 1) _ v2 hS2 (by omega) (by omega) (by omega) (by omega) F (by omega)
    by_cases hr : pX7_rays v ((head + side + i) % 64).toNat = -iI 1
    · rw [if_pos hr, z_trace hW hI hS (by omega) (by omega) hx hy, bind_s, iI_and255]
      refine go _ ?_ ?_
      · refine ⟨by rw [q7_n_rays]; exact hS.1, by rw [q7_x_rays]; exact hS.2.1, by rw [q7_y_rays]; exact hS.2.2.1, by rw [q7_view_rays]; exact hS.2.2.2.1, fun s s1 s2 => ?_⟩
        rw [q7_rays_rays, ai_upd (by omega) s1]
        by_cases he : s = (head + side + i) % 64
        · rw [if_pos he]
          right
          congr 1
          rw [he]
          omega
        · rw [if_neg he]
          exact hS.2.2.2.2 s s1 s2
      · rw [q7_rays_rays, upd_at]
        congr 1
        show _ = (sR w h A x y t ((head + side + i) % 64)).1
        omega
    · rw [if_neg hr]
      refine go v hS ?_
      rcases hS.2.2.2.2 ((head + side + i) % 64) (by omega) (by omega) with e | e
      · exact absurd e (by rw [iI_neg] at hr; exact hr)
      · exact e
theorem z_weigh {u : BX10} {v : BX7} {w h : Int} {A : Int → Int} (hW : RWo u w h A) (hI : InW w h A) {x y t : Int} (hS : SG v w h A x y t) (hx : 0 ≤ x ∧ x < 16 * w) (hy : 0 ≤ y ∧ y < 16 * h) {side width head : Int} (hs : 0 ≤ side) (hs2 : side < 64) (hh : 0 ≤ head) (hh2 : head < 64) (hw : 0 ≤ width) (hw7 : width ≤ 7) : Wp (f_X7_weigh v u (iI side) (iI width) (iI head)) (fun r => r.1 = iI (sTake (sT w h A x y t) side width head) ∧ SG r.2 w h A x y t) := by
  unfold f_X7_weigh sTake
  simp only [iI_neg, lt_e, iLit]
  exact z_weigh1 hW hI hx hy hs hs2 hh hh2 hw hw7 (2 * width + 1).toNat (-width) 0 v hS (by omega) (by omega) (by omega) (by omega) fU (by rw [fU_v]; omega)
