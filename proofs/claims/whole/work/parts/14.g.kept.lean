-- layer 2: kept, and the rules that are kept
theorem iI_nI {i : Int} (h : 0 ≤ i) : iI i = nI i.toNat := by
  rw [nI_iI, Int.toNat_of_nonneg h]
theorem or_lt {S i : Nat} (h : S < 2 ^ i) : (S ||| 2 ^ i) < 2 ^ (i + 1) := Nat.or_lt_two_pow (Nat.lt_trans h (Nat.pow_lt_pow_right (by omega) (by omega))) (Nat.pow_lt_pow_right (by omega) (by omega))
theorem z_keptN {ey : BX1} {u : BX10} {v3 : BX8} {re : BX5} {b : PB} {w h : Int} {A : Int → Int} (hI : InW w h A) (hE : InE A) (hIR : InR w h A) (hW : RWo u w h A) (hV : REy ey A) (hRe : RRe re A) (h3 : 0 ≤ A 3 ∧ A 3 ≤ 8) (hv : pX8_rules v3 = iI (A 3)) : ∀ (k : Nat) (i : Int) (S : Nat) (c : BX6) (sg : BX7) (tr : BX2) (m : BX12), 0 ≤ i → (k : Int) + i = A 3 → S < 2 ^ i.toNat → MW m w h A → CR RO v3 b (pX12_texts m) (A 3) → pX6_bound c = iI 1000000 → pX7_n sg = (w * h).toNat → ∀ F G, k < F → k < G → ∃ (S' : Nat) (c' : BX6) (sg' : BX7) (tr' : BX2) (m' : BX12), f_X3_keptRules_b4 () v3 ey re u b F (nI S, iI i, c, sg, tr) = some (nI S', c', sg', tr') ∧ f_X12_kept_b35 G (iI (bcN S : Int), iI i, m) = some (iI (bcN S' : Int), m') ∧ S' < 2 ^ 8 ∧ pX7_n sg' = (w * h).toNat ∧ FrP m m' := by
  intro k
  induction k with
  | zero =>
    intro i S c sg tr m i1 i2 hS hM hC hb hn F G hF hG
    obtain ⟨F, rfl⟩ : ∃ F', F = F' + 1 := ⟨F - 1, by omega⟩
    obtain ⟨G, rfl⟩ : ∃ F', G = F' + 1 := ⟨G - 1, by omega⟩
    refine ⟨S, c, sg, tr, m, ?_, ?_, Nat.lt_of_lt_of_le hS (Nat.pow_le_pow_right (by omega) (by omega)), hn, FrP.refl m⟩
    · show f_X3_keptRules_b4B () v3 ey re u b (f_X3_keptRules_b4 () v3 ey re u b F) (nI S) (iI i) c sg tr = _
      unfold f_X3_keptRules_b4B
      rw [hv, if_pos (by rw [iI_le (by omega) (by omega) (by omega) (by omega)]; omega)]
    · show f_X12_kept_b35B (f_X12_kept_b35 G) (iI (bcN S : Int)) (iI i) m = _
      unfold f_X12_kept_b35B
      simp (disch := omega) only [iLit, iI_inB, gd_t, iI_cl, hM.at, iI_le]
      rw [if_pos (by omega)]
  | succ k ih =>
    intro i S c sg tr m i1 i2 hS hM hC hb hn F G hF hG
    obtain ⟨F, rfl⟩ : ∃ F', F = F' + 1 := ⟨F - 1, by omega⟩
    obtain ⟨G, rfl⟩ : ∃ F', G = F' + 1 := ⟨G - 1, by omega⟩
    obtain ⟨kp, c1, sg1, tr1, m1, k1, k2, k3, k4, k5, k6, _, _⟩ := z_keeps (tr := tr) (c := c) (sg := sg) (r := i) hI hE hIR hW hV hRe h3 hv (by omega) hM hC hb hn
    have hcls : f_X3_keptRules_b4 () v3 ey re u b (F + 1) (nI S, iI i, c, sg, tr) = (if (iI kp : Int32) = 0 then f_X3_keptRules_b4 () v3 ey re u b F (nI S, iI (i + 1), c1, sg1, tr1) else f_X3_keptRules_b4 () v3 ey re u b F (nI (S ||| 2 ^ i.toNat), iI (i + 1), c1, sg1, tr1)) := by
      show f_X3_keptRules_b4B () v3 ey re u b (f_X3_keptRules_b4 () v3 ey re u b F) (nI S) (iI i) c sg tr = _
      unfold f_X3_keptRules_b4B f_X3_keptRules_b29
      rw [hv, if_neg (by rw [iI_le (by omega) (by omega) (by omega) (by omega)]; omega), k1, bind_s]
      simp only [lt_e]
      rw [show iI i + (1 : Int32) = iI (i + 1) by rw [show (1 : Int32) = iI 1 from rfl, iI_add]]
      rw [show nI S ||| (1 : Int32) <<< (iI i &&& 31) = nI (S ||| 2 ^ i.toNat) by rw [iI_nI i1]; exact bit_put (by omega)]
    have href : f_X12_kept_b35 (G + 1) (iI (bcN S : Int), iI i, m) = (if (iI kp : Int32) = 0 then f_X12_kept_b35 G (iI (bcN S : Int), iI (i + 1), m1) else f_X12_kept_b35 G (iI ((bcN S : Int) + 1), iI (i + 1), m1)) := by
      show f_X12_kept_b35B (f_X12_kept_b35 G) (iI (bcN S : Int)) (iI i) m = _
      unfold f_X12_kept_b35B f_X12_kept_b59
      rw [k2]
      simp (disch := omega) only [iLit, iI_inB, gd_t, iI_cl, hM.at, iI_le, bind_s, lt_e, iI_add]
      rw [if_neg (by omega), Int.add_zero]
    rw [hcls, href]
    have hM1 := k6.mw hM
    rcases k3 with e | e
    · rw [e, if_pos (show iI 0 = (0 : Int32) from rfl), if_pos (show iI 0 = (0 : Int32) from rfl)]
      obtain ⟨S', c', sg', tr', m', a1, a2, a3, a4, a5⟩ := ih (i + 1) S c1 sg1 tr1 m1 (by omega) (by omega) (Nat.lt_of_lt_of_le hS (Nat.pow_le_pow_right (by omega) (by omega))) hM1 (by rw [k6.texts]; exact hC) k4 k5 F G (by omega) (by omega)
      exact ⟨S', c', sg', tr', m', a1, a2, a3, a4, k6.trans a5⟩
    · rw [e, if_neg (show ¬ iI 1 = (0 : Int32) by decide), if_neg (show ¬ iI 1 = (0 : Int32) by decide)]
      have hb2 : bcN (S ||| 2 ^ i.toNat) = bcN S + 1 := by
        rw [bc_or (Nat.lt_of_lt_of_le hS (Nat.pow_le_pow_right (by omega) (by omega))) (by omega), Nat.div_eq_of_lt hS]
      have hb3 : ((bcN S : Int) + 1) = ((bcN (S ||| 2 ^ i.toNat) : Nat) : Int) := by rw [hb2]; omega
      rw [hb3]
      obtain ⟨S', c', sg', tr', m', a1, a2, a3, a4, a5⟩ := ih (i + 1) (S ||| 2 ^ i.toNat) c1 sg1 tr1 m1 (by omega) (by omega) (by rw [show (i + 1).toNat = i.toNat + 1 by omega]; exact or_lt hS) hM1 (by rw [k6.texts]; exact hC) k4 k5 F G (by omega) (by omega)
      exact ⟨S', c', sg', tr', m', a1, a2, a3, a4, k6.trans a5⟩
theorem o_kept : Op_kept (Rel RO) := by
  intro v0 v1 v2 v3 v4 v5 v6 v7 v8 v9 v10 v11 v12 v13 v14 v15 v16 v17 v18 hR p0
  have hR' := hR
  obtain ⟨w, h, A, G, hM, rG, hA, hG, ⟨hW, hV, hRe, hFl⟩, r6, ⟨e1, e2, e3, e4, e5⟩, hn, hTP, hFT⟩ := hR'
  have hI := hA.1
  have hE := hA.2.1
  have h3 := hA.2.2.2.2
  obtain ⟨r, r1, r2, rfl⟩ := iI_of p0
  have hbc : pX6_bound (sX6_bound v6 1000000) = iI 1000000 := by rw [q6_bound_bound]; rfl
  unfold f_X11_kept f_X12_kept f_X3_bindTo
  rw [lt_e, bind_s, z_isRuleC e1 h3 r1 r2, z_isRule hM h3 r1 r2]
  simp (disch := omega) only [iLit, iI_neg, bind_s, bI_0I, ite_not, iI_eq]
  by_cases hr : 0 ≤ r ∧ r ≤ A 3 - 1
  · rw [if_pos hr, if_neg (show ¬ r = -1 by omega), if_pos hr]
    obtain ⟨kp, c', sg', tr', m', k1, k2, k3, k4, k5, k6, _, _⟩ := z_keeps (tr := v7) (c := sX6_bound v6 1000000) (sg := v5) (r := r) hI hE hA.2.2.1 hW hV hRe h3 e1 hr hM e4 hbc hn
    have k1' : f_X3_keepsAll v1 (sX6_bound v6 (iI 1000000)) v5 v2 v7 v8 v10 v11 v18 (iI r) = some (iI kp, c', sg', tr') := k1
    rw [k1', k2, bind_s, bind_s]
    dsimp only
    rcases k3 with e | e
    · rw [e, if_pos rfl]
      exact ⟨_, _, _, rfl, rfl, hR.scr k6 (k5.trans hn.symm) rfl rfl rfl⟩
    · rw [e, if_neg (by decide)]
      exact ⟨_, _, _, rfl, rfl, hR.scr k6 (k5.trans hn.symm) rfl rfl rfl⟩
  · rw [if_neg hr]
    by_cases hm : r = -1
    · rw [if_pos hm, if_pos hm]
      obtain ⟨S', c', sg', tr', m', a1, a2, a3, a4, a5⟩ := z_keptN (b := v18) hI hE hA.2.2.1 hW hV hRe h3 e1 (A 3).toNat 0 0 (sX6_bound v6 1000000) v5 v7 v17 (by omega) (by omega) (by decide) hM e4 hbc hn fU fU (by rw [fU_v]; omega) (by rw [fU_v]; omega)
      have a1' : f_X3_keptRules v1 (sX6_bound v6 (iI 1000000)) v5 v2 v7 v8 v10 v11 v18 = some (nI S', c', sg', tr') := a1
      have a2' : f_X12_kept_b35 fU (iI 0, iI 0, v17) = some (iI (bcN S' : Int), m') := a2
      rw [a1', bind_s]
      dsimp only
      rw [z_bitCount (Nat.lt_of_lt_of_le a3 (by decide)), bind_s, a2', nI_iI]
      exact ⟨_, _, _, rfl, rfl, hR.scr a5 (a4.trans hn.symm) rfl rfl rfl⟩
    · rw [if_neg hm, if_neg hm, if_neg hr]
      exact ⟨_, _, _, rfl, rfl, hR.scr (FrP.refl v17) rfl rfl rfl rfl⟩
