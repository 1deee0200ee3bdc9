-- layer 2: parts
theorem up_nn {f : Nat → Int32} {i j : Int} {x : Int32} (h1 : 0 ≤ i) (h2 : 0 ≤ j) : upd f i.toNat x j.toNat = if j = i then x else f j.toNat := ai_upd h1 h2
theorem z_keptP {ey : BX1} {u : BX10} {v3 : BX8} {re : BX5} {b : PB} {w h : Int} {A : Int → Int} {y wh : Int32} (hI : InW w h A) (hE : InE A) (hIR : InR w h A) (hW : RWo u w h A) (hV : REy ey A) (hRe : RRe re A) (h3 : 0 ≤ A 3 ∧ A 3 ≤ 8) (hv : pX8_rules v3 = iI (A 3)) : ∀ (k : Nat) (i : Int) (S : Nat) (c : BX6) (sg : BX7) (tr : BX2) (m : BX12), 0 ≤ i → (k : Int) + i = A 3 → S < 2 ^ i.toNat → MW m w h A → CR RO v3 b (pX12_texts m) (A 3) → pX6_bound c = iI 1000000 → pX7_n sg = (w * h).toNat → (∀ j : Int, 0 ≤ j → j < i → pX12_keeps m j.toNat = nI (S / 2 ^ j.toNat % 2)) → ∀ F G, k < F → k < G → ∃ (S' : Nat) (c' : BX6) (sg' : BX7) (tr' : BX2) (m' : BX12), f_X3_keptRules_b4 () v3 ey re u b F (nI S, iI i, c, sg, tr) = some (nI S', c', sg', tr') ∧ f_X12_parts_b27 G (y, wh, iI i, m) = f_X12_parts_b72 fU (y, wh, 1, -1, -1, 0, sX12_bound m' 1000000) ∧ S' < 2 ^ 8 ∧ pX6_bound c' = iI 1000000 ∧ pX7_n sg' = (w * h).toNat ∧ FrP m m' ∧ ∀ j : Int, 0 ≤ j → j < A 3 → pX12_keeps m' j.toNat = nI (S' / 2 ^ j.toNat % 2) := by
  intro k
  induction k with
  | zero =>
    intro i S c sg tr m i1 i2 hS hM hC hb hn hkp F G hF hG
    obtain ⟨F, rfl⟩ : ∃ F', F = F' + 1 := ⟨F - 1, by omega⟩
    obtain ⟨G, rfl⟩ : ∃ F', G = F' + 1 := ⟨G - 1, by omega⟩
    refine ⟨S, c, sg, tr, m, ?_, ?_, Nat.lt_of_lt_of_le hS (Nat.pow_le_pow_right (by omega) (by omega)), hb, hn, FrP.refl m, fun j j1 j2 => hkp j j1 (by omega)⟩
    · show f_X3_keptRules_b4B () v3 ey re u b (f_X3_keptRules_b4 () v3 ey re u b F) (nI S) (iI i) c sg tr = _
      unfold f_X3_keptRules_b4B
      rw [hv, if_pos (by rw [iI_le (by omega) (by omega) (by omega) (by omega)]; omega)]
    · show f_X12_parts_b27B (f_X12_parts_b27 G) y wh (iI i) m = _
      unfold f_X12_parts_b27B
      rw [gd_t (by decide), show (Int32.toNatClampNeg 3) = Int.toNat 3 from rfl, hM.at (by omega) (by omega), if_pos (by rw [iI_le (by omega) (by omega) (by omega) (by omega)]; omega), lt_e, lt_e, lt_e]
  | succ k ih =>
    intro i S c sg tr m i1 i2 hS hM hC hb hn hkp F G hF hG
    obtain ⟨F, rfl⟩ : ∃ F', F = F' + 1 := ⟨F - 1, by omega⟩
    obtain ⟨G, rfl⟩ : ∃ F', G = F' + 1 := ⟨G - 1, by omega⟩
    obtain ⟨kp, c1, sg1, tr1, m1, k1, k2, k3, k4, k5, k6, k7, _⟩ := z_keeps (tr := tr) (c := c) (sg := sg) (r := i) hI hE hIR hW hV hRe h3 hv (by omega) hM hC hb hn
    have hi1 : iI i + (1 : Int32) = iI (i + 1) := by rw [show (1 : Int32) = iI 1 from rfl, iI_add]
    have hcls : f_X3_keptRules_b4 () v3 ey re u b (F + 1) (nI S, iI i, c, sg, tr) = (if (iI kp : Int32) = 0 then f_X3_keptRules_b4 () v3 ey re u b F (nI S, iI (i + 1), c1, sg1, tr1) else f_X3_keptRules_b4 () v3 ey re u b F (nI (S ||| 2 ^ i.toNat), iI (i + 1), c1, sg1, tr1)) := by
      show f_X3_keptRules_b4B () v3 ey re u b (f_X3_keptRules_b4 () v3 ey re u b F) (nI S) (iI i) c sg tr = _
      unfold f_X3_keptRules_b4B f_X3_keptRules_b29
      rw [hv, if_neg (by rw [iI_le (by omega) (by omega) (by omega) (by omega)]; omega), k1, bind_s]
      simp only [lt_e]
      rw [hi1, show nI S ||| (1 : Int32) <<< (iI i &&& 31) = nI (S ||| 2 ^ i.toNat) by rw [iI_nI i1]; exact bit_put (by omega)]
    have vn : vp_nar .boolean (iI kp) = iI kp := by rcases k3 with e | e <;> rw [e] <;> rfl
    have href : f_X12_parts_b27 (G + 1) (y, wh, iI i, m) = f_X12_parts_b27 G (y, wh, iI (i + 1), sX12_keeps m1 (upd (pX12_keeps m1) i.toNat (iI kp))) := by
      show f_X12_parts_b27B (f_X12_parts_b27 G) y wh (iI i) m = _
      unfold f_X12_parts_b27B
      rw [gd_t (by decide), show (Int32.toNatClampNeg 3) = Int.toNat 3 from rfl, hM.at (by omega) (by omega), if_neg (by rw [iI_le (by omega) (by omega) (by omega) (by omega)]; omega), k2, bind_s]
      dsimp only
      rw [gd_t (by rw [iI_inB (by omega) (by omega)]; omega), lt_e, lt_e, hi1, iI_cl i1 (by omega), vn]
    rw [hcls, href]
    have fk : FrP m (sX12_keeps m1 (upd (pX12_keeps m1) i.toNat (iI kp))) := k6.s_keeps _
    rcases k3 with e | e
    · subst e
      rw [if_pos (show iI 0 = (0 : Int32) from rfl)]
      obtain ⟨S', c', sg', tr', m', a1, a2, a3, a4, a5, a6, a7⟩ := ih (i + 1) S c1 sg1 tr1 _ (by omega) (by omega) (Nat.lt_of_lt_of_le hS (Nat.pow_le_pow_right (by omega) (by omega))) (fk.mw hM) (by rw [fk.texts]; exact hC) k4 k5 (fun j j1 j2 => by
        rw [q12_keeps_keeps, up_nn i1 j1]
        by_cases he : j = i
        · rw [if_pos he, he, Nat.div_eq_of_lt hS]
          rfl
        · rw [if_neg he, k7]
          exact hkp j j1 (by omega)) F G (by omega) (by omega)
      exact ⟨S', c', sg', tr', m', a1, a2, a3, a4, a5, fk.trans a6, a7⟩
    · subst e
      rw [if_neg (show ¬ iI 1 = (0 : Int32) by decide)]
      obtain ⟨S', c', sg', tr', m', a1, a2, a3, a4, a5, a6, a7⟩ := ih (i + 1) (S ||| 2 ^ i.toNat) c1 sg1 tr1 _ (by omega) (by omega) (by rw [show (i + 1).toNat = i.toNat + 1 by omega]; exact or_lt hS) (fk.mw hM) (by rw [fk.texts]; exact hC) k4 k5 (fun j j1 j2 => by
        rw [q12_keeps_keeps, up_nn i1 j1]
        have hor : (S ||| 2 ^ i.toNat) / 2 ^ j.toNat % 2 = if j = i then 1 else S / 2 ^ j.toNat % 2 := by
          have t1 : ∀ z : Nat, z / 2 ^ j.toNat % 2 = (z.testBit j.toNat).toNat := fun z => (Nat.toNat_testBit z j.toNat).symm
          rw [t1, t1, Nat.testBit_or, Nat.testBit_two_pow]
          by_cases he : j = i
          · rw [if_pos he, he]
            simp
          · rw [if_neg he]
            have hne : ¬ i.toNat = j.toNat := by omega
            simp [hne]
        rw [hor]
        by_cases he : j = i
        · rw [if_pos he, if_pos he]
          rfl
        · rw [if_neg he, if_neg he, k7]
          exact hkp j j1 (by omega)) F G (by omega) (by omega)
      exact ⟨S', c', sg', tr', m', a1, a2, a3, a4, a5, fk.trans a6, a7⟩
theorem o_parts : Op_parts (Rel RO) := by
  intro v0 v1 v2 v3 v4 v5 v6 v7 v8 v9 v10 v11 v12 v13 v14 v15 v16 v17 v18 hR p0 p1
  have hR' := hR
  obtain ⟨w, h, A, G, hM, rG, hA, hG, ⟨hW, hV, hRe, hFl⟩, r6, ⟨e1, e2, e3, e4, e5⟩, hn, hTP, hFT⟩ := hR'
  have hI := hA.1
  have hE := hA.2.1
  have h3 := hA.2.2.2.2
  have hw4 := hI.1
  obtain ⟨y, y1, y2, rfl⟩ := iI_of p0
  obtain ⟨wh, wh1, wh2, rfl⟩ := iI_of p1
  have hbc : pX6_bound (sX6_bound v6 1000000) = iI 1000000 := by rw [q6_bound_bound]; rfl
  unfold f_X11_parts f_X12_parts
  rw [hW.2.2.1, hM.2.1, show (1 : Int32) = iI 1 from rfl, show (0 : Int32) = iI 0 from rfl, show (2 : Int32) = iI 2 from rfl, iI_sub, sz_isWithin y1 y2 (by omega) (by omega) (by omega) (by omega), sz_isWithin wh1 wh2 (by omega) (by omega) (by omega) (by omega), sz_isIn y1 y2 (by omega) (by omega) (by omega) (by omega), sz_isIn wh1 wh2 (by omega) (by omega) (by omega) (by omega)]
  simp only [bind_s, bI_0I, ite_not]
  by_cases hy : 0 ≤ y ∧ y ≤ h - 1
  case neg =>
    rw [if_neg hy, if_neg hy]
    exact ⟨_, _, _, rfl, rfl, hR⟩
  by_cases hwh : 0 ≤ wh ∧ wh ≤ 2
  case neg =>
    rw [if_pos hy, if_pos hy, if_neg hwh, if_neg hwh]
    exact ⟨_, _, _, rfl, rfl, hR⟩
  rw [if_pos hy, if_pos hy, if_pos hwh, if_pos hwh]
  obtain ⟨S, c1, sg1, tr1, m1, a1, a2, a3, a4, a5, a6, a7⟩ := z_keptP (b := v18) (y := iI y) (wh := iI wh) hI hE hA.2.2.1 hW hV hRe h3 e1 (A 3).toNat 0 0 (sX6_bound v6 1000000) v5 v7 v17 (by omega) (by omega) (by decide) hM e4 hbc hn (fun j j1 j2 => by omega) fU fU (by rw [fU_v]; omega) (by rw [fU_v]; omega)
  have a1' : f_X3_keptRules v1 (sX6_bound v6 1000000) v5 v2 v7 v8 v10 v11 v18 = some (nI S, c1, sg1, tr1) := a1
  unfold f_X3_bindTo
  rw [a2, lt_e, bind_s, a1', bind_s]
  simp only [lt_e]
  have ey' : iI y * (16 : Int32) + 8 = iI (16 * y + 8) := by rw [show (16 : Int32) = iI 16 from rfl, show (8 : Int32) = iI 8 from rfl, iI_mul, iI_add, Int.mul_comm]
  rw [ey']
  have fb : FrP v17 (sX12_bound m1 1000000) := a6.s_bound _
  have hMb := fb.mw hM
  have hTb : CR RO v2 v18 (pX12_texts (sX12_bound m1 1000000)) (A 3) := by rw [fb.texts]; exact e4
  have hkb : ∀ j : Int, 0 ≤ j → j < A 3 → pX12_keeps (sX12_bound m1 1000000) j.toNat = nI (S / 2 ^ j.toNat % 2) := by rw [q12_keeps_bound]; exact a7
  have hbb : pX12_bound (sX12_bound m1 1000000) = lI 1000000 := by rw [q12_bound_bound]; rfl
  have bc17 : ∀ T : Nat, T < 2 ^ 17 → bcN T ≤ 63 := by
    intro T _
    unfold bcN
    exact Nat.and_le_right
  -- one column
  have inner : ∀ (xi : Int), 0 ≤ xi → xi < w → ∀ (J1 : (Int32 × Int32 × Int32 × Int32 × Int32 × Int32 × Int32 × BX7 × BX6 × BX2) → Option (Int32 × BX7 × BX6 × BX2)) (J2 : (Int32 × Int32 × Int32 × Int32 × Int32 × Int32 × BX12) → Option (Int32 × BX12)), (∀ (mo bx bh : Int) (c : BX6) (sg : BX7) (tr : BX2) (m : BX12), (0 ≤ mo ∧ mo ≤ 63) → (-1 ≤ bx ∧ bx ≤ 400) → (-1 ≤ bh ∧ bh ≤ 64) → FrR (sX12_bound m1 1000000) m → pX6_bound c = iI 1000000 → pX7_n sg = (w * h).toNat → ∃ (rr : Int32) (sg' : BX7) (c' : BX6) (tr' : BX2) (m' : BX12), J1 (iI wh, nI S, iI mo, iI bx, iI bh, iI (16 * y + 8), iI (16 * (xi + 1) + 8), sg, c, tr) = some (rr, sg', c', tr') ∧ J2 (iI y, iI wh, iI mo, iI bx, iI bh, iI (xi + 1), m) = some (rr, m') ∧ FrR (sX12_bound m1 1000000) m' ∧ pX7_n sg' = (w * h).toNat) →
      ∀ (k : Nat) (hd mo bx bh : Int) (c : BX6) (sg : BX7) (tr : BX2) (m : BX12), 0 ≤ hd → 8 * (k : Int) + hd = 64 → (0 ≤ mo ∧ mo ≤ 63) → (-1 ≤ bx ∧ bx ≤ 400) → (-1 ≤ bh ∧ bh ≤ 64) → FrR (sX12_bound m1 1000000) m → pX6_bound c = iI 1000000 → pX7_n sg = (w * h).toNat → ∀ F G, k < F → k < G → ∃ (rr : Int32) (sg' : BX7) (c' : BX6) (tr' : BX2) (m' : BX12), f_X11_parts_b88 v0 v1 v2 v8 v10 v11 v18 J1 F (iI wh, nI S, iI mo, iI bx, iI bh, iI (16 * y + 8), iI (16 * xi + 8), iI hd, sg, c, tr) = some (rr, sg', c', tr') ∧ f_X12_parts_b84 J2 G (iI y, iI wh, iI mo, iI bx, iI bh, iI xi, iI hd, m) = some (rr, m') ∧ FrR (sX12_bound m1 1000000) m' ∧ pX7_n sg' = (w * h).toNat := by
    intro xi x1 x2 J1 J2 hJ k
    have hdec : Decidable (sFree w h A (16 * xi + 8) (16 * y + 8) 0) := Classical.propDecidable _
    have ex16 : iI (16 * xi + 8) + (16 : Int32) = iI (16 * (xi + 1) + 8) := by
      rw [show (16 : Int32) = iI 16 from rfl, iI_add]
      congr 1
      omega
    have ex1 : iI xi + (1 : Int32) = iI (xi + 1) := by rw [show (1 : Int32) = iI 1 from rfl, iI_add]
    have exm : (16 : Int32) * iI xi + 8 = iI (16 * xi + 8) := by rw [show (16 : Int32) = iI 16 from rfl, show (8 : Int32) = iI 8 from rfl, iI_mul, iI_add]
    have eym : (16 : Int32) * iI y + 8 = iI (16 * y + 8) := by rw [show (16 : Int32) = iI 16 from rfl, show (8 : Int32) = iI 8 from rfl, iI_mul, iI_add]
    induction k with
    | zero =>
      intro hd mo bx bh c sg tr m d1 d2 m1' m2' m3' fr hb hn' F G hF hG
      obtain ⟨F, rfl⟩ : ∃ F', F = F' + 1 := ⟨F - 1, by omega⟩
      obtain ⟨G, rfl⟩ : ∃ F', G = F' + 1 := ⟨G - 1, by omega⟩
      show ∃ (rr : Int32) (sg' : BX7) (c' : BX6) (tr' : BX2) (m' : BX12), f_X11_parts_b88B v0 v1 v2 v8 v10 v11 v18 J1 (f_X11_parts_b88 v0 v1 v2 v8 v10 v11 v18 J1 F) (iI wh) (nI S) (iI mo) (iI bx) (iI bh) (iI (16 * y + 8)) (iI (16 * xi + 8)) (iI hd) sg c tr = some (rr, sg', c', tr') ∧ f_X12_parts_b84B J2 (f_X12_parts_b84 J2 G) (iI y) (iI wh) (iI mo) (iI bx) (iI bh) (iI xi) (iI hd) m = some (rr, m') ∧ FrR (sX12_bound m1 1000000) m' ∧ pX7_n sg' = (w * h).toNat
      unfold f_X11_parts_b88B f_X12_parts_b84B f_X11_parts_b149 f_X12_parts_b168
      rw [show (64 : Int32) = iI 64 from rfl, if_pos (show iI 64 ≤ iI hd by rw [iI_le (by omega) (by omega) (by omega) (by omega)]; omega), if_pos (show iI 64 ≤ iI hd by rw [iI_le (by omega) (by omega) (by omega) (by omega)]; omega), lt_e, lt_e, ex16, ex1]
      exact hJ mo bx bh c sg tr m m1' m2' m3' fr hb hn'
    | succ k ih =>
      intro hd mo bx bh c sg tr m d1 d2 m1' m2' m3' fr hb hn' F G hF hG
      obtain ⟨F, rfl⟩ : ∃ F', F = F' + 1 := ⟨F - 1, by omega⟩
      obtain ⟨G, rfl⟩ : ∃ F', G = F' + 1 := ⟨G - 1, by omega⟩
      have hMm := fr.mw hMb
      show ∃ (rr : Int32) (sg' : BX7) (c' : BX6) (tr' : BX2) (m' : BX12), f_X11_parts_b88B v0 v1 v2 v8 v10 v11 v18 J1 (f_X11_parts_b88 v0 v1 v2 v8 v10 v11 v18 J1 F) (iI wh) (nI S) (iI mo) (iI bx) (iI bh) (iI (16 * y + 8)) (iI (16 * xi + 8)) (iI hd) sg c tr = some (rr, sg', c', tr') ∧ f_X12_parts_b84B J2 (f_X12_parts_b84 J2 G) (iI y) (iI wh) (iI mo) (iI bx) (iI bh) (iI xi) (iI hd) m = some (rr, m') ∧ FrR (sX12_bound m1 1000000) m' ∧ pX7_n sg' = (w * h).toNat
      unfold f_X11_parts_b88B f_X12_parts_b84B f_X11_parts_b149 f_X12_parts_b168 f_X11_parts_b143 f_X12_parts_b162
      rw [show (64 : Int32) = iI 64 from rfl, if_neg (show ¬ iI 64 ≤ iI hd by rw [iI_le (by omega) (by omega) (by omega) (by omega)]; omega), if_neg (show ¬ iI 64 ≤ iI hd by rw [iI_le (by omega) (by omega) (by omega) (by omega)]; omega), exm, eym, show (0 : Int32) = iI 0 from rfl, z_isFree hW hI (by omega) (by omega) (by omega) (by omega) (by omega) (by omega), z_isStart hMm hI (by omega) (by omega) (by omega) (by omega), bind_s, bind_s]
      by_cases hf : sFree w h A (16 * xi + 8) (16 * y + 8) 0
      · rw [bI_t hf, if_neg (show ¬ (1 : Int32) = iI 0 by decide), if_neg (show ¬ (1 : Int32) = iI 0 by decide)]
        obtain ⟨T, c', sg', tr', m', u1, u2, u3, u4, u5, u6⟩ := z_unlike (tr := tr) (c := c) (sg := sg) (b := v18) (hd := hd) a3 hMm hI hE hW hV h3 e1 (by rw [fr.texts]; exact hTb) hb (by rw [fr.bound]; exact hbb) hn' hf.1 (by omega) (by rw [fr.keeps]; exact hkb)
        have u2' : f_X3_unlikeTurns v1 c sg v2 tr v8 v11 v18 (nI S) (iI (16 * xi + 8)) (iI (16 * y + 8)) (iI hd) = some (iI (bcN T : Int), c', sg', tr') := u2
        have hbT := bc17 T u1
        rw [u2', u3, bind_s, bind_s]
        dsimp only
        have e8 : iI hd + (8 : Int32) = iI (hd + 8) := by rw [show (8 : Int32) = iI 8 from rfl, iI_add]
        simp only [lt_e]
        rw [e8]
        by_cases hc : mo < (bcN T : Int)
        · rw [if_neg (show ¬ iI (bcN T : Int) ≤ iI mo by rw [iI_le (by omega) (by omega) (by omega) (by omega)]; omega), if_pos (show iI mo < iI (bcN T : Int) by rw [iI_lt (by omega) (by omega) (by omega) (by omega)]; omega)]
          exact ih (hd + 8) (bcN T : Int) (16 * xi + 8) hd c' sg' tr' m' (by omega) (by omega) (by omega) (by omega) (by omega) (fr.trans u6) u4 u5 F G (by omega) (by omega)
        · rw [if_pos (show iI (bcN T : Int) ≤ iI mo by rw [iI_le (by omega) (by omega) (by omega) (by omega)]; omega), if_neg (show ¬ iI mo < iI (bcN T : Int) by rw [iI_lt (by omega) (by omega) (by omega) (by omega)]; omega)]
          exact ih (hd + 8) mo bx bh c' sg' tr' m' (by omega) (by omega) m1' m2' m3' (fr.trans u6) u4 u5 F G (by omega) (by omega)
      · rw [bI_f hf, if_pos (show (0 : Int32) = iI 0 from rfl), if_pos (show (0 : Int32) = iI 0 from rfl)]
        simp only [lt_e]
        rw [ex16, ex1]
        exact hJ mo bx bh c sg tr m m1' m2' m3' fr hb hn'
  -- the columns
  have outer : ∀ (k : Nat) (xi mo bx bh : Int) (c : BX6) (sg : BX7) (tr : BX2) (m : BX12), 0 ≤ xi → (k : Int) + xi = w → (0 ≤ mo ∧ mo ≤ 63) → (-1 ≤ bx ∧ bx ≤ 400) → (-1 ≤ bh ∧ bh ≤ 64) → FrR (sX12_bound m1 1000000) m → pX6_bound c = iI 1000000 → pX7_n sg = (w * h).toNat → ∀ F G, k < F → k < G → ∃ (rr : Int32) (sg' : BX7) (c' : BX6) (tr' : BX2) (m' : BX12), f_X11_parts_b73 v0 v1 v2 v8 v10 v11 v18 F (iI wh, nI S, iI mo, iI bx, iI bh, iI (16 * y + 8), iI (16 * xi + 8), sg, c, tr) = some (rr, sg', c', tr') ∧ f_X12_parts_b72 G (iI y, iI wh, iI mo, iI bx, iI bh, iI xi, m) = some (rr, m') ∧ FrR (sX12_bound m1 1000000) m' ∧ pX7_n sg' = (w * h).toNat := by
    intro k
    have ew : ∀ (z : Int), pX10_w v11 * 16 = iI (16 * w) := by
      intro _
      rw [hW.2.1, show (16 : Int32) = iI 16 from rfl, iI_mul, Int.mul_comm]
    induction k with
    | zero =>
      intro xi mo bx bh c sg tr m d1 d2 m1' m2' m3' fr hb hn' F G hF hG
      obtain ⟨F, rfl⟩ : ∃ F', F = F' + 1 := ⟨F - 1, by omega⟩
      obtain ⟨G, rfl⟩ : ∃ F', G = F' + 1 := ⟨G - 1, by omega⟩
      have hMm := fr.mw hMb
      show ∃ (rr : Int32) (sg' : BX7) (c' : BX6) (tr' : BX2) (m' : BX12), f_X11_parts_b73B v0 v1 v2 v8 v10 v11 v18 (f_X11_parts_b73 v0 v1 v2 v8 v10 v11 v18 F) (iI wh) (nI S) (iI mo) (iI bx) (iI bh) (iI (16 * y + 8)) (iI (16 * xi + 8)) sg c tr = some (rr, sg', c', tr') ∧ f_X12_parts_b72B (f_X12_parts_b72 G) (iI y) (iI wh) (iI mo) (iI bx) (iI bh) (iI xi) m = some (rr, m') ∧ FrR (sX12_bound m1 1000000) m' ∧ pX7_n sg' = (w * h).toNat
      unfold f_X11_parts_b73B f_X12_parts_b72B
      rw [ew 0, hMm.1, if_pos (show iI (16 * w) ≤ iI (16 * xi + 8) by rw [iI_le (by omega) (by omega) (by omega) (by omega)]; omega), if_pos (show iI w ≤ iI xi by rw [iI_le (by omega) (by omega) (by omega) (by omega)]; omega)]
      rw [show (-1 : Int32) = iI (-1) from rfl, show (0 : Int32) = iI 0 from rfl, show (1 : Int32) = iI 1 from rfl]
      simp (disch := omega) only [iI_eq, iI_le]
      by_cases hbx : bx = -1
      · rw [if_pos hbx, if_neg (by omega), hbx]
        exact ⟨_, _, _, _, _, rfl, rfl, fr, hn'⟩
      · rw [if_neg hbx, if_pos (show 0 ≤ bx by omega)]
        by_cases h0 : wh = 0
        · rw [if_pos h0, if_pos h0]
          exact ⟨_, _, _, _, _, rfl, rfl, fr, hn'⟩
        · rw [if_neg h0, if_neg h0]
          by_cases h1 : wh = 1
          · rw [if_pos h1, if_pos h1]
            exact ⟨_, _, _, _, _, rfl, rfl, fr, hn'⟩
          · rw [if_neg h1, if_neg h1]
            exact ⟨_, _, _, _, _, rfl, rfl, fr, hn'⟩
    | succ k ih =>
      intro xi mo bx bh c sg tr m d1 d2 m1' m2' m3' fr hb hn' F G hF hG
      obtain ⟨F, rfl⟩ : ∃ F', F = F' + 1 := ⟨F - 1, by omega⟩
      obtain ⟨G, rfl⟩ : ∃ F', G = F' + 1 := ⟨G - 1, by omega⟩
      have hMm := fr.mw hMb
      show ∃ (rr : Int32) (sg' : BX7) (c' : BX6) (tr' : BX2) (m' : BX12), f_X11_parts_b73B v0 v1 v2 v8 v10 v11 v18 (f_X11_parts_b73 v0 v1 v2 v8 v10 v11 v18 F) (iI wh) (nI S) (iI mo) (iI bx) (iI bh) (iI (16 * y + 8)) (iI (16 * xi + 8)) sg c tr = some (rr, sg', c', tr') ∧ f_X12_parts_b72B (f_X12_parts_b72 G) (iI y) (iI wh) (iI mo) (iI bx) (iI bh) (iI xi) m = some (rr, m') ∧ FrR (sX12_bound m1 1000000) m' ∧ pX7_n sg' = (w * h).toNat
      unfold f_X11_parts_b73B f_X12_parts_b72B
      rw [ew 0, hMm.1, if_neg (show ¬ iI (16 * w) ≤ iI (16 * xi + 8) by rw [iI_le (by omega) (by omega) (by omega) (by omega)]; omega), if_neg (show ¬ iI w ≤ iI xi by rw [iI_le (by omega) (by omega) (by omega) (by omega)]; omega)]
      exact inner xi d1 (by omega) _ _ (fun mo bx bh c sg tr m q1 q2 q3 fr hb hn' => ih (xi + 1) mo bx bh c sg tr m (by omega) (by omega) q1 q2 q3 fr hb hn' F G (by omega) (by omega)) 8 0 mo bx bh c sg tr m (by omega) (by omega) m1' m2' m3' fr hb hn' fU fU (by rw [fU_v]; omega) (by rw [fU_v]; omega)
  obtain ⟨rr, sg', c', tr', m', o1, o2, o3, o4⟩ := outer w.toNat 0 1 (-1) (-1) c1 sg1 tr1 (sX12_bound m1 1000000) (by omega) (by omega) (by omega) (by omega) (by omega) (FrR.refl _) a4 a5 fU fU (by rw [fU_v]; omega) (by rw [fU_v]; omega)
  exact ⟨rr, (sg', c', tr'), m', o1, o2, hR.scr (fb.trans o3.p) (o4.trans hn.symm) rfl rfl rfl⟩
