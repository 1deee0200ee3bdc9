-- layer 2: width, same
def sWd (T : Int → Int) (one other head : Int) : Nat → Int → Int → Int → Int
  | 0, _, b, _ => b
  | n + 1, k, b, d => if d < (if 0 ≤ sTake T one k head - sTake T other k head then sTake T one k head - sTake T other k head else 0 - (sTake T one k head - sTake T other k head)) then
      sWd T one other head n (k + 1) k (if 0 ≤ sTake T one k head - sTake T other k head then sTake T one k head - sTake T other k head else 0 - (sTake T one k head - sTake T other k head)) else sWd T one other head n (k + 1) b d
theorem z_width1 {m : BX12} {T : Int → Int} (hm : ∀ s : Int, 0 ≤ s → s < 64 → pX12_taken m s.toNat = iI (T s)) (hT : ∀ s, 0 ≤ s → s < 64 → 0 ≤ T s ∧ T s ≤ 255) {one other head : Int} (h1 : 0 ≤ one) (h2 : one < 64) (g1 : 0 ≤ other) (g2 : other < 64) (hh : 0 ≤ head) (hh2 : head < 64) : ∀ (n : Nat) (k b d : Int), 0 ≤ k → (n : Int) + k = 8 → (-1 ≤ b ∧ b ≤ 7) → (-1 ≤ d ∧ d ≤ 255) → ∀ F : Nat, n < F → f_X12_width_b51 F (iI one, iI other, iI head, iI b, iI d, iI k, m) = some (iI (sWd T one other head n k b d), m) := by
  intro n
  induction n with
  | zero =>
    intro k b d k1 k2 hb hd F hF
    obtain ⟨F, rfl⟩ : ∃ F', F = F' + 1 := ⟨F - 1, by omega⟩
    show f_X12_width_b51B (f_X12_width_b51 F) (iI one) (iI other) (iI head) (iI b) (iI d) (iI k) m = _
    unfold f_X12_width_b51B sWd
    simp (disch := omega) only [iLit, iI_le]
    rw [if_pos (by omega)]
  | succ n ih =>
    intro k b d k1 k2 hb hd F hF
    obtain ⟨F, rfl⟩ : ∃ F', F = F' + 1 := ⟨F - 1, by omega⟩
    show f_X12_width_b51B (f_X12_width_b51 F) (iI one) (iI other) (iI head) (iI b) (iI d) (iI k) m = _
    have ht := sTake_255 hT (side := one) (head := head) k1 (show k ≤ 7 by omega)
    have hu := sTake_255 hT (side := other) (head := head) k1 (show k ≤ 7 by omega)
    unfold f_X12_width_b51B f_X12_width_b100 sWd
    simp (disch := omega) only [iLit, iI_le, z_takeOf hm hT, bind_s, iI_sub, z_abs, iI_add, lt_e]
    have he : 0 ≤ (if 0 ≤ sTake T one k head - sTake T other k head then sTake T one k head - sTake T other k head else 0 - (sTake T one k head - sTake T other k head)) ∧ (if 0 ≤ sTake T one k head - sTake T other k head then sTake T one k head - sTake T other k head else 0 - (sTake T one k head - sTake T other k head)) ≤ 255 := by split <;> omega
    generalize (if 0 ≤ sTake T one k head - sTake T other k head then sTake T one k head - sTake T other k head else 0 - (sTake T one k head - sTake T other k head)) = e at he ⊢
    simp (disch := omega) only [iI_lt]
    rw [if_neg (by omega)]
    by_cases hc : d < e
    · rw [if_pos hc, if_pos hc]
      exact ih (k + 1) _ _ (by omega) (by omega) (by omega) (by omega) F (by omega)
    · rw [if_neg hc, if_neg hc]
      exact ih (k + 1) _ _ (by omega) (by omega) (by omega) (by omega) F (by omega)
theorem z_width2 {v0 : BX11} {v1 : BX8} {u : BX10} {w h : Int} {A : Int → Int} (hW : RWo u w h A) (hI : InW w h A) {x y t : Int} (hx : 0 ≤ x ∧ x < 16 * w) (hy : 0 ≤ y ∧ y < 16 * h) {one other head : Int} (h1 : 0 ≤ one) (h2 : one < 64) (g1 : 0 ≤ other) (g2 : other < 64) (hh : 0 ≤ head) (hh2 : head < 64) : ∀ (n : Nat) (k b d : Int) (v : BX7), SG v w h A x y t → 0 ≤ k → (n : Int) + k = 8 → (-1 ≤ b ∧ b ≤ 7) → (-1 ≤ d ∧ d ≤ 255) → ∀ F : Nat, n < F → Wp (f_X11_width_b48 v0 v1 u F (iI one, iI other, iI head, iI b, iI d, iI k, v)) (fun r => r.1 = iI (sWd (sT w h A x y t) one other head n k b d) ∧ SG r.2 w h A x y t) := by
  intro n
  have hT := sT_bd hI x y t
  induction n with
  | zero =>
    intro k b d v hS k1 k2 hb hd F hF
    obtain ⟨F, rfl⟩ : ∃ F', F = F' + 1 := ⟨F - 1, by omega⟩
    show Wp (f_X11_width_b48B v0 v1 u (f_X11_width_b48 v0 v1 u F) (iI one) (iI other) (iI head) (iI b) (iI d) (iI k) v) _
    unfold f_X11_width_b48B sWd
    simp (disch := omega) only [iLit, iI_lt]
    rw [if_pos (by omega)]
    exact wp_some ⟨rfl, hS⟩
  | succ n ih =>
    intro k b d v hS k1 k2 hb hd F hF
    obtain ⟨F, rfl⟩ : ∃ F', F = F' + 1 := ⟨F - 1, by omega⟩
    show Wp (f_X11_width_b48B v0 v1 u (f_X11_width_b48 v0 v1 u F) (iI one) (iI other) (iI head) (iI b) (iI d) (iI k) v) _
    have ht := sTake_255 hT (side := one) (head := head) k1 (show k ≤ 7 by omega)
    have hu := sTake_255 hT (side := other) (head := head) k1 (show k ≤ 7 by omega)
    unfold f_X11_width_b48B f_X11_width_b100 sWd
    simp (disch := omega) only [iLit, iI_lt, iI_add, lt_e]
    rw [if_neg (by omega)]
    refine wp_bind (wp_mono (z_weigh hW hI hS hx hy h1 h2 hh hh2 k1 (show k ≤ 7 by omega)) (fun r hr => ?_))
    refine wp_bind (wp_mono (z_weigh hW hI hr.2 hx hy g1 g2 hh hh2 k1 (show k ≤ 7 by omega)) (fun q hq => ?_))
    rw [hr.1, hq.1]
    simp (disch := omega) only [iI_sub, iI_le]
    have e1 : (if 0 ≤ sTake (sT w h A x y t) one k head - sTake (sT w h A x y t) other k head then iI (sTake (sT w h A x y t) one k head - sTake (sT w h A x y t) other k head) else iI (0 - (sTake (sT w h A x y t) one k head - sTake (sT w h A x y t) other k head))) = iI (if 0 ≤ sTake (sT w h A x y t) one k head - sTake (sT w h A x y t) other k head then sTake (sT w h A x y t) one k head - sTake (sT w h A x y t) other k head else 0 - (sTake (sT w h A x y t) one k head - sTake (sT w h A x y t) other k head)) := by split <;> rfl
    rw [e1]
    have he : 0 ≤ (if 0 ≤ sTake (sT w h A x y t) one k head - sTake (sT w h A x y t) other k head then sTake (sT w h A x y t) one k head - sTake (sT w h A x y t) other k head else 0 - (sTake (sT w h A x y t) one k head - sTake (sT w h A x y t) other k head)) ∧ (if 0 ≤ sTake (sT w h A x y t) one k head - sTake (sT w h A x y t) other k head then sTake (sT w h A x y t) one k head - sTake (sT w h A x y t) other k head else 0 - (sTake (sT w h A x y t) one k head - sTake (sT w h A x y t) other k head)) ≤ 255 := by split <;> omega
    generalize (if 0 ≤ sTake (sT w h A x y t) one k head - sTake (sT w h A x y t) other k head then sTake (sT w h A x y t) one k head - sTake (sT w h A x y t) other k head else 0 - (sTake (sT w h A x y t) one k head - sTake (sT w h A x y t) other k head)) = e at he ⊢
    simp (disch := omega) only [iI_le]
    by_cases hc : d < e
    · rw [if_neg (Int.not_le.mpr hc), if_pos hc]
      exact ih (k + 1) _ _ q.2 hq.2 (by omega) (by omega) (by omega) (by omega) F (by omega)
    · rw [if_pos (Int.not_lt.mp hc), if_neg hc]
      exact ih (k + 1) _ _ q.2 hq.2 (by omega) (by omega) (by omega) (by omega) F (by omega)
theorem o_width (RO : ROT) : Op_width (Rel RO) := by
  intro v0 v1 v2 v3 v4 v5 v6 v7 v8 v9 v10 v11 v12 v13 v14 v15 v16 v17 v18 hR p0 p1 p2 p3 p4
  have hR' := hR
  obtain ⟨w, h, A, G, hM, _, hA, _, ⟨hW, hE, _⟩, _, _, hn, _⟩ := hR'
  obtain ⟨k, k1, k2, rfl⟩ := iI_of p0
  obtain ⟨j, j1, j2, rfl⟩ := iI_of p1
  obtain ⟨x, x1, x2, rfl⟩ := iI_of p2
  obtain ⟨y, y1, y2, rfl⟩ := iI_of p3
  obtain ⟨s, s1, s2, rfl⟩ := iI_of p4
  unfold f_X11_width f_X12_width
  simp (disch := omega) only [z_isPlace hM hA.1, z_isStanding hW hA.1, z_isSide, z_isSideM, bind_s, bI_0I, ite_not, iLit, lt_e, iI_neg]
  by_cases hk : 0 ≤ k ∧ k ≤ 63
  · by_cases hj : 0 ≤ j ∧ j ≤ 63
    · by_cases hp : (0 ≤ x ∧ x < 16 * w) ∧ 0 ≤ y ∧ y < 16 * h
      · by_cases hs : 0 ≤ s ∧ s ≤ 63
        · rw [if_pos hk, if_pos hk, if_pos hj, if_pos hj, if_pos ⟨hp, hs⟩, if_pos hp, if_pos hs]
          obtain ⟨r7, e7, hS⟩ := z_lookC (v := v5) (x := x) (y := y) hW hA.1 hn (t := 0) (by omega) (by omega)
          obtain ⟨q7, f7, hL⟩ := z_look hM hA.1 (t := 0) (by omega) (by omega) hp.1 hp.2
          obtain ⟨r8, e8, hr8⟩ := z_width2 (v0 := v0) (v1 := v2) hW hA.1 hp.1 hp.2 hk.1 (show k < 64 by omega) hj.1 (show j < 64 by omega) hs.1 (show s < 64 by omega) 8 0 (-1) (-1) r7 hS (by omega) (by omega) (by omega) (by omega) fU (by rw [fU_v]; omega)
          rw [e7, f7, bind_s, bind_s, e8, z_width1 hL.2 (sT_bd hA.1 x y 0) hk.1 (show k < 64 by omega) hj.1 (show j < 64 by omega) hs.1 (show s < 64 by omega) 8 0 0 (-1) (by omega) (by omega) (by omega) (by omega) fU (by rw [fU_v]; omega)]
          have hd : 0 ≤ (if 0 ≤ sTake (sT w h A x y 0) k 0 s - sTake (sT w h A x y 0) j 0 s then sTake (sT w h A x y 0) k 0 s - sTake (sT w h A x y 0) j 0 s else 0 - (sTake (sT w h A x y 0) k 0 s - sTake (sT w h A x y 0) j 0 s)) := by split <;> omega
          have e0 : sWd (sT w h A x y 0) k j s 8 0 (-1) (-1) = sWd (sT w h A x y 0) k j s 8 0 0 (-1) := by
            unfold sWd
            rw [if_pos (show -1 < (if 0 ≤ sTake (sT w h A x y 0) k 0 s - sTake (sT w h A x y 0) j 0 s then sTake (sT w h A x y 0) k 0 s - sTake (sT w h A x y 0) j 0 s else 0 - (sTake (sT w h A x y 0) k 0 s - sTake (sT w h A x y 0) j 0 s)) by omega), if_pos (show -1 < (if 0 ≤ sTake (sT w h A x y 0) k 0 s - sTake (sT w h A x y 0) j 0 s then sTake (sT w h A x y 0) k 0 s - sTake (sT w h A x y 0) j 0 s else 0 - (sTake (sT w h A x y 0) k 0 s - sTake (sT w h A x y 0) j 0 s)) by omega)]
          rw [e0] at hr8
          exact ⟨_, _, _, congrArg some (Prod.ext hr8.1 rfl), rfl, hR.scr hL.1.p (hr8.2.1.trans hn.symm) rfl rfl rfl⟩
        · rw [if_pos hk, if_pos hk, if_pos hj, if_pos hj, if_neg (by omega), if_pos hp, if_neg hs]
          exact ⟨_, _, _, rfl, rfl, hR⟩
      · rw [if_pos hk, if_pos hk, if_pos hj, if_pos hj, if_neg (fun e => hp e.1), if_neg hp]
        exact ⟨_, _, _, rfl, rfl, hR⟩
    · rw [if_pos hk, if_pos hk, if_neg hj, if_neg hj]
      exact ⟨_, _, _, rfl, rfl, hR⟩
  · rw [if_neg hk, if_neg hk]
    exact ⟨_, _, _, rfl, rfl, hR⟩
