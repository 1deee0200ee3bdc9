-- layer 2: same
def sTa (w h : Int) (A : Int → Int) (x y head : Int) (k : Int) : Int := sTake (sT w h A x y 0) (A (620 + 2 * k)) (A (620 + 2 * k + 1)) head
def sSm (P Q : Int → Int) : Nat → Int → Int
  | 0, _ => 1
  | n + 1, k => if P k = Q k then sSm P Q n (k + 1) else 0
theorem z_fillTakes {v0 : BX11} {v2 : BX8} {e : BX1} {u : BX10} {w h : Int} {A : Int → Int} (hV : REy e A) (hE : InE A) (hW : RWo u w h A) (hI : InW w h A) {x y head : Int} (hx : 0 ≤ x ∧ x < 16 * w) (hy : 0 ≤ y ∧ y < 16 * h) (hh : 0 ≤ head) (hh2 : head < 64) : ∀ (n : Nat) (k : Int) (f : Nat → Int32) (v : BX7), SG v w h A x y 0 → 0 ≤ k → (n : Int) + k = A 1 → (∀ j : Int, 0 ≤ j → j < k → f j.toNat = iI (sTa w h A x y head j)) → ∀ F : Nat, n < F → Wp (f_X11_fillTakes_b11 16 v0 v2 e u F (iI head, iI k, f, v)) (fun r => (∀ j : Int, 0 ≤ j → j < A 1 → r.1 j.toNat = iI (sTa w h A x y head j)) ∧ SG r.2 w h A x y 0) := by
  intro n
  have h3 := hE.1
  induction n with
  | zero =>
    intro k f v hS k1 k2 hf F hF
    obtain ⟨F, rfl⟩ : ∃ F', F = F' + 1 := ⟨F - 1, by omega⟩
    show Wp (f_X11_fillTakes_b11B 16 v0 v2 e u (f_X11_fillTakes_b11 16 v0 v2 e u F) (iI head) (iI k) f v) _
    unfold f_X11_fillTakes_b11B
    simp (disch := omega) only [hV.1, iI_le]
    rw [if_pos (by omega)]
    exact wp_some ⟨fun j j1 j2 => hf j j1 (by omega), hS⟩
  | succ n ih =>
    intro k f v hS k1 k2 hf F hF
    obtain ⟨F, rfl⟩ : ∃ F', F = F' + 1 := ⟨F - 1, by omega⟩
    show Wp (f_X11_fillTakes_b11B 16 v0 v2 e u (f_X11_fillTakes_b11 16 v0 v2 e u F) (iI head) (iI k) f v) _
    have hk := hE.2.2.1 k k1 (by omega)
    have hkc := hV.2.2.1 k k1 (by omega)
    unfold f_X11_fillTakes_b11B
    simp (disch := omega) only [iLit, hV.1, iI_le, show Int32.ofNat 16 = iI 16 from rfl, iI_inB, gd_t, iI_cl, hkc.1, hkc.2, lt_e, iI_add]
    rw [if_neg (by omega), if_neg (by omega)]
    refine wp_bind (wp_mono (z_weigh hW hI hS hx hy hk.1.1 hk.1.2 hh hh2 hk.2.1 hk.2.2) (fun r hr => ?_))
    refine ih (k + 1) _ r.2 hr.2 (by omega) (by omega) (fun j j1 j2 => ?_) F (by omega)
    rw [ai_upd k1 j1]
    by_cases he : j = k
    · rw [if_pos he, hr.1, he]
      rfl
    · rw [if_neg he, hf j j1 (by omega)]
theorem z_hasTakes {v0 : BX11} {v2 : BX8} {e : BX1} {u : BX10} {w h : Int} {A P : Int → Int} (hV : REy e A) (hE : InE A) (hW : RWo u w h A) (hI : InW w h A) {x y head : Int} (hx : 0 ≤ x ∧ x < 16 * w) (hy : 0 ≤ y ∧ y < 16 * h) (hh : 0 ≤ head) (hh2 : head < 64) {f : Nat → Int32} (hf : ∀ j : Int, 0 ≤ j → j < A 1 → f j.toNat = iI (P j)) (hP : ∀ j : Int, 0 ≤ j → j < A 1 → 0 ≤ P j ∧ P j ≤ 255) : ∀ (n : Nat) (k : Int) (v : BX7), SG v w h A x y 0 → 0 ≤ k → (n : Int) + k = A 1 → ∀ F : Nat, n < F → Wp (f_X11_hasTakes_b11 16 f v0 v2 e u F (iI head, iI k, v)) (fun r => r.1 = iI (sSm P (sTa w h A x y head) n k) ∧ SG r.2 w h A x y 0) := by
  intro n
  have h3 := hE.1
  induction n with
  | zero =>
    intro k v hS k1 k2 F hF
    obtain ⟨F, rfl⟩ : ∃ F', F = F' + 1 := ⟨F - 1, by omega⟩
    show Wp (f_X11_hasTakes_b11B 16 f v0 v2 e u (f_X11_hasTakes_b11 16 f v0 v2 e u F) (iI head) (iI k) v) _
    unfold f_X11_hasTakes_b11B sSm
    simp (disch := omega) only [hV.1, iI_le]
    rw [if_pos (by omega)]
    exact wp_some ⟨rfl, hS⟩
  | succ n ih =>
    intro k v hS k1 k2 F hF
    obtain ⟨F, rfl⟩ : ∃ F', F = F' + 1 := ⟨F - 1, by omega⟩
    show Wp (f_X11_hasTakes_b11B 16 f v0 v2 e u (f_X11_hasTakes_b11 16 f v0 v2 e u F) (iI head) (iI k) v) _
    have hk := hE.2.2.1 k k1 (by omega)
    have hkc := hV.2.2.1 k k1 (by omega)
    have ht := sTake_255 (sT_bd hI x y 0) (side := A (620 + 2 * k)) (head := head) hk.2.1 hk.2.2
    have hp := hP k k1 (by omega)
    unfold f_X11_hasTakes_b11B sSm
    simp (disch := omega) only [iLit, hV.1, iI_le, show Int32.ofNat 16 = iI 16 from rfl, iI_inB, gd_t, iI_cl, hkc.1, hkc.2, lt_e, iI_add]
    rw [if_neg (by omega), if_neg (by omega)]
    refine wp_bind (wp_mono (z_weigh hW hI hS hx hy hk.1.1 hk.1.2 hh hh2 hk.2.1 hk.2.2) (fun r hr => ?_))
    rw [hr.1, hf k k1 (by omega)]
    simp (disch := omega) only [iI_eq]
    by_cases he : P k = sTake (sT w h A x y 0) (A (620 + 2 * k)) (A (620 + 2 * k + 1)) head
    · rw [if_pos he, if_pos (show P k = sTa w h A x y head k from he)]
      exact ih (k + 1) r.2 hr.2 (by omega) (by omega) F (by omega)
    · rw [if_neg he, if_neg (show ¬ P k = sTa w h A x y head k from he)]
      exact wp_some ⟨rfl, hr.2⟩
theorem z_same208 {m : BX12} {w h : Int} {A P : Int → Int} (hM : MW m w h A) (hE : InE A) (hI : InW w h A) {x y head b was : Int} (hm : tkI w h A x y 0 (pX12_taken m)) (hh : 0 ≤ head) (hh2 : head < 64) (hb : 0 ≤ b) (hb2 : b < 6) (hf : ∀ j : Int, 0 ≤ j → j < A 1 → pX12_before m j.toNat = iI (P j)) (hP : ∀ j : Int, 0 ≤ j → j < A 1 → 0 ≤ P j ∧ P j ≤ 255) : ∀ (n : Nat) (k g : Int), (g = 0 ∨ g = 1) → 0 ≤ k → (n : Int) + k = A 1 → ∀ F : Nat, n < F → f_X12_same_b208 F (iI b, iI head, iI was, iI g, iI k, m) = some (iI (if g = 0 then 0 else sSm P (sTa w h A x y head) n k), sX12_a m (upd (pX12_a m) (590 + 4 * b).toNat (iI was))) := by
  intro n
  have h3 := hE.1
  induction n with
  | zero =>
    intro k g hg k1 k2 F hF
    obtain ⟨F, rfl⟩ : ∃ F', F = F' + 1 := ⟨F - 1, by omega⟩
    show f_X12_same_b208B (f_X12_same_b208 F) (iI b) (iI head) (iI was) (iI g) (iI k) m = _
    unfold f_X12_same_b208B sSm
    simp (disch := omega) only [iLit, iI_inB, gd_t, iI_cl, hM.at, iI_le, iI_mul, iI_add, lt_e, iI_eq]
    rw [if_pos (by omega)]
    split <;> rfl
  | succ n ih =>
    intro k g hg k1 k2 F hF
    obtain ⟨F, rfl⟩ : ∃ F', F = F' + 1 := ⟨F - 1, by omega⟩
    show f_X12_same_b208B (f_X12_same_b208 F) (iI b) (iI head) (iI was) (iI g) (iI k) m = _
    have hk := hE.2.2.1 k k1 (by omega)
    have ht := sTake_255 (sT_bd hI x y 0) (side := A (620 + 2 * k)) (head := head) hk.2.1 hk.2.2
    have hp := hP k k1 (by omega)
    unfold f_X12_same_b208B f_X12_same_b247 f_X12_same_b246 f_X12_same_b247 sSm
    simp (disch := omega) only [iLit, iI_inB, gd_t, iI_cl, hM.at, iI_le, iI_mul, iI_add, lt_e, iI_eq, z_lensTake (T := sT w h A x y 0) hM hE hm (sT_bd hI x y 0), bind_s, hf]
    rw [if_neg (by omega)]
    by_cases hg0 : g = 0
    · rw [if_pos hg0, if_pos hg0, ih (k + 1) 0 (Or.inl rfl) (by omega) (by omega) F (by omega), if_pos rfl]
    · rw [if_neg hg0, if_neg hg0]
      by_cases he : P k = sTa w h A x y head k
      · rw [if_pos (show sTake (sT w h A x y 0) (A (620 + 2 * k)) (A (620 + 2 * k + 1)) head = P k from he.symm), if_pos he, ih (k + 1) 1 (Or.inr rfl) (by omega) (by omega) F (by omega), if_neg (by omega)]
      · rw [if_neg (show ¬ sTake (sT w h A x y 0) (A (620 + 2 * k)) (A (620 + 2 * k + 1)) head = P k from fun e => he e.symm), if_neg he, ih (k + 1) 0 (Or.inl rfl) (by omega) (by omega) F (by omega), if_pos rfl]
theorem cell_xy {x y w h : Int} (h1 : 0 ≤ x) (h2 : x < w) (hw : 0 < w) : (y * w + x) / w = y ∧ y * w + x - (y * w + x) / w * w = x := by
  have e1 : (y * w + x) / w = y := by
    rw [Int.add_comm, Int.add_mul_ediv_right _ _ (by omega), Int.ediv_eq_zero_of_lt h1 h2, Int.zero_add]
  rw [e1]
  omega
theorem InE.cg {A B : Int → Int} (hE : InE A) (h : ∀ k : Int, (k = 1 ∨ k = 2 ∨ 620 ≤ k ∧ k < 708) → B k = A k) : InE B := by
  obtain ⟨h1, h2, h3, h4⟩ := hE
  unfold InE
  rw [h 1 (by omega), h 2 (by omega)]
  refine ⟨h1, h2, fun k k1 k2 => ?_, fun k k1 k2 => ?_⟩
  · rw [h _ (by omega), h _ (by omega)]
    exact h3 k k1 k2
  · rw [h _ (by omega), h _ (by omega), h _ (by omega)]
    exact h4 k k1 k2
theorem REy.cg {v : BX1} {A B : Int → Int} (hE : REy v A) (h : ∀ k : Int, (k = 1 ∨ k = 2 ∨ 620 ≤ k ∧ k < 708) → B k = A k) : REy v B := by
  obtain ⟨h1, h2, h3, h4⟩ := hE
  unfold REy
  rw [h 1 (by omega), h 2 (by omega)]
  refine ⟨h1, h2, fun k k1 k2 => ?_, fun k k1 k2 => ?_⟩
  · rw [h _ (by omega), h _ (by omega)]
    exact h3 k k1 k2
  · rw [h _ (by omega), h _ (by omega), h _ (by omega)]
    exact h4 k k1 k2
theorem z_same139 {m0 : BX12} {w h : Int} {A : Int → Int} (hM0 : MW m0 w h A) (hE : InE A) (hI : InW w h A) {x y head b was cx cy : Int} (hx : 0 ≤ x ∧ x < 16 * w) (hy : 0 ≤ y ∧ y < 16 * h) (hh : 0 ≤ head) (hh2 : head < 64) (hb : 0 ≤ b) (hb2 : b < 6) (hI2 : InW w h (up A (590 + 4 * b) (cy * w + cx))) (hwas : was = A (590 + 4 * b)) : ∀ (n : Nat) (k : Int) (m : BX12), FrP m0 m → tkI w h A x y 0 (pX12_taken m) → (∀ j : Int, 0 ≤ j → j < k → pX12_before m j.toNat = iI (sTa w h A x y head j)) → 0 ≤ k → (n : Int) + k = A 1 → ∀ F : Nat, n < F → Wp (f_X12_same_b139 F (iI b, iI x, iI y, iI head, iI was, iI cx, iI cy, iI k, m)) (fun r => r.1 = iI (sSm (sTa w h A x y head) (sTa w h (up A (590 + 4 * b) (cy * w + cx)) x y head) (A 1).toNat 0) ∧ FrP m0 r.2) := by
  intro n
  have h3 := hE.1
  induction n with
  | zero =>
    intro k m fr hm hf k1 k2 F hF
    obtain ⟨F, rfl⟩ : ∃ F', F = F' + 1 := ⟨F - 1, by omega⟩
    show Wp (f_X12_same_b139B (f_X12_same_b139 F) (iI b) (iI x) (iI y) (iI head) (iI was) (iI cx) (iI cy) (iI k) m) _
    have hM := fr.mw hM0
    unfold f_X12_same_b139B
    simp (disch := omega) only [iLit, iI_inB, gd_t, iI_cl, hM.at, iI_le, iI_mul, iI_add, lt_e, hM.1]
    rw [if_pos (by omega)]
    have hM2 := hM.set (k := 590 + 4 * b) (cy * w + cx) (by omega)
    have hE2 : InE (up A (590 + 4 * b) (cy * w + cx)) := hE.cg (fun k hk => up_n (by omega))
    refine wp_bind (wp_mono (z_look hM2 hI2 (t := 0) (by omega) (by omega) hx hy) (fun r hr => ?_))
    have e1 : up A (590 + 4 * b) (cy * w + cx) 1 = A 1 := up_n (by omega)
    have hP : ∀ j : Int, 0 ≤ j → j < up A (590 + 4 * b) (cy * w + cx) 1 → 0 ≤ sTa w h A x y head j ∧ sTa w h A x y head j ≤ 255 := by
      intro j j1 j2
      rw [e1] at j2
      have hk := hE.2.2.1 j j1 (by omega)
      exact sTake_255 (sT_bd hI x y 0) hk.2.1 hk.2.2
    rw [z_same208 (P := sTa w h A x y head) (hr.1.mw hM2) hE2 hI2 hr.2 hh hh2 hb hb2 (fun j j1 j2 => by rw [hr.1.before, q12_before_a]; exact hf j j1 (by omega)) hP (A 1).toNat 0 1 (Or.inr rfl) (by omega) (by omega) fU (by rw [fU_v]; omega)]
    refine wp_some ⟨rfl, ?_⟩
    have ea : pX12_a (sX12_a r (upd (pX12_a r) (590 + 4 * b).toNat (iI was))) = pX12_a m := by
      rw [q12_a_a, hr.1.a, q12_a_a, upd_upd, hwas, upd_same _ _ _ (hM.at (by omega) (by omega))]
    exact fr.trans ⟨by rw [q12_w_a, hr.1.w, q12_w_a], by rw [q12_h_a, hr.1.h, q12_h_a], by rw [q12_taped_a, hr.1.taped, q12_taped_a], by rw [q12_fault_a, hr.1.fault, q12_fault_a], by rw [q12_faultPlace_a, hr.1.faultPlace, q12_faultPlace_a], ea, by rw [q12_image_a, hr.1.image, q12_image_a], by rw [q12_texts_a, hr.1.texts, q12_texts_a], by rw [q12_tape_a, hr.1.tape, q12_tape_a]⟩
  | succ n ih =>
    intro k m fr hm hf k1 k2 F hF
    obtain ⟨F, rfl⟩ : ∃ F', F = F' + 1 := ⟨F - 1, by omega⟩
    show Wp (f_X12_same_b139B (f_X12_same_b139 F) (iI b) (iI x) (iI y) (iI head) (iI was) (iI cx) (iI cy) (iI k) m) _
    have hM := fr.mw hM0
    unfold f_X12_same_b139B
    simp (disch := omega) only [iLit, iI_inB, gd_t, iI_cl, hM.at, iI_le, iI_mul, iI_add, lt_e, hM.1, z_lensTake (T := sT w h A x y 0) hM hE hm (sT_bd hI x y 0), bind_s]
    rw [if_neg (by omega)]
    refine ih (k + 1) _ (fr.s_before _) (by rw [q12_taken_before]; exact hm) (fun j j1 j2 => ?_) (by omega) (by omega) F (by omega)
    rw [q12_before_before, ai_upd k1 j1]
    by_cases he : j = k
    · rw [if_pos he, he]
      rfl
    · rw [if_neg he, hf j j1 (by omega)]
theorem InW.mv {w h : Int} {A : Int → Int} (hI : InW w h A) {b c : Int} (hb : 0 ≤ b) (hb2 : b < 6) (hc : 0 ≤ c) (hc2 : c < w * h) : InW w h (up A (590 + 4 * b) c) := by
  obtain ⟨h1, h2, h3, h4⟩ := hI
  refine ⟨h1, fun k k1 k2 => by rw [up_n (by omega)]; exact h2 k k1 k2, by rw [up_n (by omega)]; exact h3, fun k k1 k2 => ?_⟩
  have h5 := h4 k k1 k2
  rw [up_n (show 590 + 4 * k + 1 ≠ 590 + 4 * b by omega), up_n (show 590 + 4 * k + 2 ≠ 590 + 4 * b by omega), up_n (show 590 + 4 * k + 3 ≠ 590 + 4 * b by omega), up_n (show (0 : Int) ≠ 590 + 4 * b by omega)]
  refine ⟨?_, h5.2⟩
  by_cases he : k = b
  · rw [up_e (by omega)]
    exact ⟨hc, hc2⟩
  · rw [up_n (by omega)]
    exact h5.1
theorem z_isBody {v : BX10} {w h : Int} {A : Int → Int} (hW : RWo v w h A) (hI : InW w h A) {k : Int} (h1 : -2147483648 ≤ k) (h2 : k < 2147483648) : f_X10_isBody v (iI k) = some (bI (0 ≤ k ∧ k ≤ A 0 - 1)) := by
  have h3 := hI.2.2.1
  unfold f_X10_isBody
  simp (disch := omega) only [iLit, hW.2.2.2.1, iI_sub, sz_isWithin, bind_s, bI_gd]
theorem o_same (RO : ROT) : Op_same (Rel RO) := by
  intro v0 v1 v2 v3 v4 v5 v6 v7 v8 v9 v10 v11 v12 v13 v14 v15 v16 v17 v18 hR p0 p1 p2 p3 p4 p5
  have hR' := hR
  obtain ⟨w, h, A, G, hM, rG, hA, hG, ⟨hW, hV, hRe, hFl⟩, r6, r7, hn, hTP, hFT⟩ := hR'
  have hI := hA.1
  have hE := hA.2.1
  have hI' := hI
  obtain ⟨⟨w1, w2, w3, w4⟩, _, hb0, hB⟩ := hI'
  have h5 := wh_bd w1 w2 w3 w4
  obtain ⟨b, b1, b2, rfl⟩ := iI_of p0
  obtain ⟨mx, mx1, mx2, rfl⟩ := iI_of p1
  obtain ⟨my, my1, my2, rfl⟩ := iI_of p2
  obtain ⟨x, x1, x2, rfl⟩ := iI_of p3
  obtain ⟨y, y1, y2, rfl⟩ := iI_of p4
  obtain ⟨s, s1, s2, rfl⟩ := iI_of p5
  have hA1 := hE.1
  unfold f_X11_same f_X12_same
  rw [z_isBody hW hI b1 b2, z_isStanding hW hI x1 x2 y1 y2 s1 s2, bind_s, bind_s]
  simp (maxSteps := 4000000) (disch := omega) only [z_isPlace hM hI, z_isSideM, bind_s, bI_0I, ite_not, iLit, iI_inB, gd_t, iI_cl, hM.at, iI_sub, sz_isIn]
  by_cases hb : 0 ≤ b ∧ b ≤ A 0 - 1
  · by_cases hp : (0 ≤ x ∧ x < 16 * w) ∧ 0 ≤ y ∧ y < 16 * h
    · by_cases hs : 0 ≤ s ∧ s ≤ 63
      · rw [if_pos hb, if_pos hb, if_pos ⟨hp, hs⟩, if_pos hp, if_pos hs]
        obtain ⟨c1, c2, c3, c4, c5⟩ := hB b hb.1 (by omega)
        obtain ⟨d1, d2, d3, d4, d5⟩ := hW.2.2.2.2.2 b hb.1 (by omega)
        have hxy := xy_bd w1 w2 w3 w4 c1.1 c1.2
        have e590 : iI 590 + iI 4 * iI b = iI (590 + 4 * b) := by rw [iI_mul, iI_add]
        simp (maxSteps := 4000000) (disch := omega) only [e590, iI_inB, gd_t, iI_cl, hM.at, hM.1, hM.2.1, d1, d2, hW.2.1, hW.2.2.1, iI_eq, iI_div, iI_mul, iI_sub, iI_add, iI_neg, sz_isWithin, sz_isIn, bI_0I, ite_not, bind_s, lt_e]
        by_cases hmx : -(A (590 + 4 * b) - A (590 + 4 * b) / w * w) ≤ mx ∧ mx ≤ w - 1 - (A (590 + 4 * b) - A (590 + 4 * b) / w * w)
        · by_cases hmy : -(A (590 + 4 * b) / w) ≤ my ∧ my ≤ h - 1 - A (590 + 4 * b) / w
          · rw [if_pos hmx, if_pos hmy, if_pos (show -23 ≤ mx ∧ mx ≤ 23 by omega), if_pos (show -23 ≤ my ∧ my ≤ 23 by omega)]
            rw [if_pos (by omega), if_pos (by omega)]
            generalize hX0 : A (590 + 4 * b) - A (590 + 4 * b) / w * w = X0 at *
            generalize hY0 : A (590 + 4 * b) / w = Y0 at *
            have hcell := cell_bd (x := X0 + mx) (y := Y0 + my) (w := w) (h := h) (by omega) (by omega) (by omega) (by omega)
            have hI2 := hI.mv (c := (Y0 + my) * w + (X0 + mx)) hb.1 (show b < 6 by omega) hcell.2.1 hcell.2.2
            have hcx := cell_xy (x := X0 + mx) (y := Y0 + my) (w := w) (h := h) (by omega) (by omega) (by omega)
            obtain ⟨r13, e13, hS⟩ := z_lookC (v := v5) (x := x) (y := y) hW hI hn (t := 0) (by omega) (by omega)
            obtain ⟨r14, e14, hf14, hS14⟩ := z_fillTakes (v0 := v0) (v2 := v2) hV hE hW hI hp.1 hp.2 hs.1 (show s < 64 by omega) (A 1).toNat 0 (pX11_firstTakes v0) r13 hS (by omega) (by omega) (fun j j1 j2 => by omega) fU (by rw [fU_v]; omega)
            obtain ⟨q13, f13, hL⟩ := z_look hM hI (t := 0) (by omega) (by omega) hp.1 hp.2
            obtain ⟨q14, f14, g14, gF⟩ := z_same139 (m0 := v17) hM hE hI (cx := X0 + mx) (cy := Y0 + my) hp.1 hp.2 hs.1 (show s < 64 by omega) hb.1 (show b < 6 by omega) hI2 rfl (A 1).toNat 0 q13 hL.1.p hL.2 (fun j j1 j2 => by omega) (by omega) (by omega) fU (by rw [fU_v]; omega)
            have hW2 : RWo (sX10_bodyY (sX10_bodyX v11 (upd (pX10_bodyX v11) b.toNat (iI (X0 + mx)))) (upd (pX10_bodyY (sX10_bodyX v11 (upd (pX10_bodyX v11) b.toNat (iI (X0 + mx))))) b.toNat (iI (Y0 + my)))) w h (up A (590 + 4 * b) ((Y0 + my) * w + (X0 + mx))) := by
              obtain ⟨k1, k2, k3, k4, k5, k6⟩ := hW
              refine ⟨by rw [q10_n_bodyY, q10_n_bodyX]; exact k1, by rw [q10_w_bodyY, q10_w_bodyX]; exact k2, by rw [q10_h_bodyY, q10_h_bodyX]; exact k3, by rw [q10_bodies_bodyY, q10_bodies_bodyX, up_n (by omega)]; exact k4, fun k z1 z2 => by rw [q10_own_bodyY, q10_own_bodyX, up_n (by omega)]; exact k5 k z1 z2, fun k z1 z2 => ?_⟩
              rw [q10_bodyX_bodyY, q10_bodyX_bodyX, q10_bodyY_bodyY, q10_bodyY_bodyX, q10_bodyWayX_bodyY, q10_bodyWayX_bodyX, q10_bodyWayY_bodyY, q10_bodyWayY_bodyX, q10_bodyMark_bodyY, q10_bodyMark_bodyX, ai_upd hb.1 z1, ai_upd hb.1 z1, up_n (show 590 + 4 * k + 1 ≠ 590 + 4 * b by omega), up_n (show 590 + 4 * k + 2 ≠ 590 + 4 * b by omega), up_n (show 590 + 4 * k + 3 ≠ 590 + 4 * b by omega)]
              have k7 := k6 k z1 z2
              by_cases he : k = b
              · rw [if_pos he, if_pos he, up_e (by omega), hcx.2, hcx.1]
                exact ⟨rfl, rfl, k7.2.2⟩
              · rw [if_neg he, if_neg he, up_n (by omega)]
                exact k7
            have hE2 : InE (up A (590 + 4 * b) ((Y0 + my) * w + (X0 + mx))) := hE.cg (fun k hk => up_n (by omega))
            have hV2 : REy v8 (up A (590 + 4 * b) ((Y0 + my) * w + (X0 + mx))) := hV.cg (fun k hk => up_n (by omega))
            have e1 : up A (590 + 4 * b) ((Y0 + my) * w + (X0 + mx)) 1 = A 1 := up_n (by omega)
            obtain ⟨r21, e21, hS21⟩ := z_lookC (v := r14.2) (x := x) (y := y) hW2 hI2 hS14.1 (t := 0) (by omega) (by omega)
            obtain ⟨r22, e22, g22, hS22⟩ := z_hasTakes (v0 := sX11_firstTakes v0 r14.1) (v2 := v2) (P := sTa w h A x y s) (f := pX11_firstTakes (sX11_firstTakes v0 r14.1)) hV2 hE2 hW2 hI2 hp.1 hp.2 hs.1 (show s < 64 by omega) (fun j j1 j2 => by rw [q11_firstTakes_firstTakes]; exact hf14 j j1 (by omega)) (fun j j1 j2 => by
              have hk := hE.2.2.1 j j1 (by omega)
              exact sTake_255 (sT_bd hI x y 0) hk.2.1 hk.2.2) (A 1).toNat 0 r21 hS21 (by omega) (by omega) fU (by rw [fU_v]; omega)
            unfold f_X11_fillTakes f_X11_hasTakes
            simp only [iLit]
            rw [e13, f13, bind_s, bind_s, e14, bind_s, f14, e21, bind_s, e22, bind_s]
            have hW3 : RWo (sX10_bodyY (sX10_bodyX (sX10_bodyY (sX10_bodyX v11 (upd (pX10_bodyX v11) b.toNat (iI (X0 + mx)))) (upd (pX10_bodyY (sX10_bodyX v11 (upd (pX10_bodyX v11) b.toNat (iI (X0 + mx))))) b.toNat (iI (Y0 + my)))) (upd (pX10_bodyX (sX10_bodyY (sX10_bodyX v11 (upd (pX10_bodyX v11) b.toNat (iI (X0 + mx)))) (upd (pX10_bodyY (sX10_bodyX v11 (upd (pX10_bodyX v11) b.toNat (iI (X0 + mx))))) b.toNat (iI (Y0 + my))))) b.toNat (iI X0))) (upd (pX10_bodyY (sX10_bodyX (sX10_bodyY (sX10_bodyX v11 (upd (pX10_bodyX v11) b.toNat (iI (X0 + mx)))) (upd (pX10_bodyY (sX10_bodyX v11 (upd (pX10_bodyX v11) b.toNat (iI (X0 + mx))))) b.toNat (iI (Y0 + my)))) (upd (pX10_bodyX (sX10_bodyY (sX10_bodyX v11 (upd (pX10_bodyX v11) b.toNat (iI (X0 + mx)))) (upd (pX10_bodyY (sX10_bodyX v11 (upd (pX10_bodyX v11) b.toNat (iI (X0 + mx))))) b.toNat (iI (Y0 + my))))) b.toNat (iI X0)))) b.toNat (iI Y0))) w h A := by
              generalize sX10_bodyY (sX10_bodyX v11 (upd (pX10_bodyX v11) b.toNat (iI (X0 + mx)))) (upd (pX10_bodyY (sX10_bodyX v11 (upd (pX10_bodyX v11) b.toNat (iI (X0 + mx))))) b.toNat (iI (Y0 + my))) = v at hW2 ⊢
              obtain ⟨k1, k2, k3, k4, k5, k6⟩ := hW2
              refine ⟨by rw [q10_n_bodyY, q10_n_bodyX]; exact k1, by rw [q10_w_bodyY, q10_w_bodyX]; exact k2, by rw [q10_h_bodyY, q10_h_bodyX]; exact k3, by rw [q10_bodies_bodyY, q10_bodies_bodyX]; rw [up_n (by omega)] at k4; exact k4, fun k z1 z2 => by
                have k5' := k5 k z1 z2
                rw [up_n (by omega)] at k5'
                rw [q10_own_bodyY, q10_own_bodyX]
                exact k5', fun k z1 z2 => ?_⟩
              have k7 := k6 k z1 z2
              rw [up_n (show 590 + 4 * k + 1 ≠ 590 + 4 * b by omega), up_n (show 590 + 4 * k + 2 ≠ 590 + 4 * b by omega), up_n (show 590 + 4 * k + 3 ≠ 590 + 4 * b by omega)] at k7
              rw [q10_bodyX_bodyY, q10_bodyX_bodyX, q10_bodyY_bodyY, q10_bodyY_bodyX, q10_bodyWayX_bodyY, q10_bodyWayX_bodyX, q10_bodyWayY_bodyY, q10_bodyWayY_bodyX, q10_bodyMark_bodyY, q10_bodyMark_bodyX, ai_upd hb.1 z1, ai_upd hb.1 z1]
              by_cases he : k = b
              · subst he
                rw [if_pos rfl, if_pos rfl, hY0, hX0]
                exact ⟨rfl, rfl, k7.2.2⟩
              · rw [if_neg he, if_neg he]
                rw [up_n (show 590 + 4 * k ≠ 590 + 4 * b by omega)] at k7
                exact k7
            have hfin : ∀ v : BX10, RWo v w h A → Rel RO (sX11_firstTakes v0 r14.1) v1 v2 v3 v4 r22.2 v6 v7 v8 v9 v10 v v12 v13 v14 v15 v16 q14.2 v18 := by
              intro v hv
              have hR2 : Rel RO v0 v1 v2 v3 v4 v5 v6 v7 v8 v9 v10 v v12 v13 v14 v15 v16 v17 v18 := ⟨w, h, A, G, hM, rG, hA, hG, ⟨hv, hV, hRe, hFl⟩, r6, r7, hn, hTP, hFT⟩
              exact hR2.scr gF (hS22.1.trans hn.symm) (q11_tapeSize_firstTakes _ _) (q11_textRead_firstTakes _ _) (q11_tape_firstTakes _ _)
            have hsm : iI (sSm (sTa w h A x y s) (sTa w h (up A (590 + 4 * b) ((Y0 + my) * w + (X0 + mx))) x y s) (A 1).toNat 0) = r22.1 := g22.symm
            have h01 : ∀ (P Q : Int → Int) (n : Nat) (k : Int), sSm P Q n k = 0 ∨ sSm P Q n k = 1 := by
              intro P Q n
              induction n with
              | zero => exact fun k => Or.inr rfl
              | succ n ih =>
                intro k
                unfold sSm
                split
                · exact ih (k + 1)
                · exact Or.inl rfl
            rw [g22]
            have e14' : q14 = (iI (sSm (sTa w h A x y s) (sTa w h (up A (590 + 4 * b) ((Y0 + my) * w + (X0 + mx))) x y s) (A 1).toNat 0), q14.2) := Prod.ext g14 rfl
            rw [e14']
            rcases h01 (sTa w h A x y s) (sTa w h (up A (590 + 4 * b) ((Y0 + my) * w + (X0 + mx))) x y s) (A 1).toNat 0 with e0 | e0
            · rw [e0, if_pos rfl]
              exact ⟨_, _, _, rfl, rfl, hfin _ hW3⟩
            · rw [e0, if_neg (by decide)]
              exact ⟨_, _, _, rfl, rfl, hfin _ hW3⟩
          · rw [if_pos hmx, if_neg hmy]
            refine ⟨_, _, _, rfl, ?_, hR⟩
            split
            · split
              · rename_i q1 q2
                split
                · rw [if_neg (by omega)]
                · rfl
              · rfl
            · rfl
        · rw [if_neg hmx]
          refine ⟨_, _, _, rfl, ?_, hR⟩
          split
          · split
            · rename_i q1 q2
              rw [if_neg (by omega)]
            · rfl
          · rfl
      · rw [if_pos hb, if_pos hb, if_neg (by omega), if_pos hp, if_neg hs]
        exact ⟨_, _, _, rfl, rfl, hR⟩
    · rw [if_pos hb, if_pos hb, if_neg (fun e => hp e.1), if_neg hp]
      exact ⟨_, _, _, rfl, rfl, hR⟩
  · rw [if_neg hb, if_neg hb]
    exact ⟨_, _, _, rfl, rfl, hR⟩
