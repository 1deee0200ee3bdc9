-- layer 2: kept
/-- the reference compares the turns -/
theorem z_cmp {m : BX12} {w h : Int} {A tu rw' : Int → Int} {r i t' : Int} (hM : MW m w h A) (i1 : 0 ≤ i) (i2 : i < 6) (t1 : 0 ≤ t') (t2 : t' ≤ 20) (ht : pX12_ticks m = iI t') (hrow : ∀ s : Int, 0 ≤ s → s < t' → pX12_rows m (38 * s).toNat = iI (rw' s) ∧ -8 ≤ rw' s ∧ rw' s ≤ 8) (htu : ∀ s : Int, 0 ≤ s → s < 20 → A (720 + 24 * i + 4 + s) = tu s ∧ -8 ≤ tu s ∧ tu s ≤ 8) (J : Int32 × Int32 × BX12 → Option (Int32 × BX12)) : ∀ (k : Nat) (s : Int), 0 ≤ s → (k : Int) + s = t' → ∀ F, k < F → ((∀ j : Int, s ≤ j → j < t' → rw' j = tu j) → f_X12_isKept_b106 J F (iI r, iI i, iI (720 + 24 * i), iI s, m) = J (iI r, iI (i + 1), m)) ∧ ((∃ j : Int, s ≤ j ∧ j < t' ∧ rw' j ≠ tu j) → f_X12_isKept_b106 J F (iI r, iI i, iI (720 + 24 * i), iI s, m) = some (iI 0, m)) := by
  intro k
  induction k with
  | zero =>
    intro s s1 s2 F hF
    obtain ⟨F, rfl⟩ : ∃ F', F = F' + 1 := ⟨F - 1, by omega⟩
    refine ⟨fun _ => ?_, fun hj => by obtain ⟨j, j1, j2, _⟩ := hj; omega⟩
    show f_X12_isKept_b106B J (f_X12_isKept_b106 J F) (iI r) (iI i) (iI (720 + 24 * i)) (iI s) m = _
    unfold f_X12_isKept_b106B
    rw [ht, if_pos (by rw [iI_le (by omega) (by omega) (by omega) (by omega)]; omega), lt_e, show (1 : Int32) = iI 1 from rfl, iI_add]
  | succ k ih =>
    intro s s1 s2 F hF
    obtain ⟨F, rfl⟩ : ∃ F', F = F' + 1 := ⟨F - 1, by omega⟩
    have hb : f_X12_isKept_b106 J (F + 1) (iI r, iI i, iI (720 + 24 * i), iI s, m) = if rw' s = tu s then f_X12_isKept_b106 J F (iI r, iI i, iI (720 + 24 * i), iI (s + 1), m) else some (iI 0, m) := by
      obtain ⟨q1, q2, q3⟩ := hrow s s1 (by omega)
      obtain ⟨u1, u2, u3⟩ := htu s s1 (by omega)
      show f_X12_isKept_b106B J (f_X12_isKept_b106 J F) (iI r) (iI i) (iI (720 + 24 * i)) (iI s) m = _
      unfold f_X12_isKept_b106B
      simp (disch := omega) only [iLit, ht, iI_le, iI_mul, iI_add, iI_inB, gd_t, iI_cl, hM.at, q1, u1, iI_eq, lt_e]
      rw [if_neg (by omega)]
    rw [hb]
    obtain ⟨ih1, ih2⟩ := ih (s + 1) (by omega) (by omega) F (by omega)
    refine ⟨fun hj => ?_, fun hj => ?_⟩
    · rw [if_pos (hj s (by omega) (by omega))]
      exact ih1 (fun j j1 j2 => hj j (by omega) j2)
    · by_cases he : rw' s = tu s
      · rw [if_pos he]
        refine ih2 ?_
        obtain ⟨j, j1, j2, j3⟩ := hj
        refine ⟨j, ?_, j2, j3⟩
        by_cases hjs : j = s
        · rw [hjs] at j3
          exact absurd he j3
        · omega
      · rw [if_neg he]
theorem z_keeps {tr : BX2} {c : BX6} {sg : BX7} {ey : BX1} {u : BX10} {v3 : BX8} {re : BX5} {b : PB} {m : BX12} {w h : Int} {A : Int → Int} {r : Int} (hI : InW w h A) (hE : InE A) (hIR : InR w h A) (hW : RWo u w h A) (hV : REy ey A) (hRe : RRe re A) (h3 : 0 ≤ A 3 ∧ A 3 ≤ 8) (hv : pX8_rules v3 = iI (A 3)) (hr : 0 ≤ r ∧ r ≤ A 3 - 1) (hM : MW m w h A) (hC : CR RO v3 b (pX12_texts m) (A 3)) (hb : pX6_bound c = iI 1000000) (hn : pX7_n sg = (w * h).toNat) :
    ∃ (kp : Int) (c' : BX6) (sg' : BX7) (tr' : BX2) (m' : BX12), f_X3_keepsAll () c sg v3 tr ey re u b (iI r) = some (iI kp, c', sg', tr') ∧ f_X12_isKept m (iI r) = some (iI kp, m') ∧ (kp = 0 ∨ kp = 1) ∧ pX6_bound c' = iI 1000000 ∧ pX7_n sg' = (w * h).toNat ∧ FrP m m' ∧ pX12_keeps m' = pX12_keeps m ∧ pX12_bound m' = lI 1000000 := by
  obtain ⟨q, hq1, hq2⟩ := hC.1 r hr.1 (by omega)
  have hRO := hC.2 r hr.1 (by omega) q hq1
  have hR4 := hIR.1
  -- with 0 it is over
  have stop : ∀ (i : Int) (c : BX6) (sg : BX7) (tr : BX2) (F : Nat), 0 < F → f_X3_keepsAll_b20 () v3 ey re u b F (iI r, iI 0, iI i, c, sg, tr) = some (iI 0, c, sg, tr) := by
    intro i c sg tr F hF
    obtain ⟨F, rfl⟩ : ∃ F', F = F' + 1 := ⟨F - 1, by omega⟩
    show f_X3_keepsAll_b20B () v3 ey re u b (f_X3_keepsAll_b20 () v3 ey re u b F) (iI r) (iI 0) (iI i) c sg tr = _
    unfold f_X3_keepsAll_b20B
    rw [if_pos (show iI 0 = (0 : Int32) from rfl), gd_t (by decide)]
  have key : ∀ (k : Nat) (i : Int), 0 ≤ i → (k : Int) + i = A 4 → ∀ (c : BX6) (sg : BX7) (tr : BX2) (m : BX12), MW m w h A → RO (b.2.1 q) (b.2.2 q) (pX12_texts m) r → pX6_bound c = iI 1000000 → pX12_bound m = lI 1000000 → pX7_n sg = (w * h).toNat → ∀ F G, k + 1 < F → k < G → ∃ (kp : Int) (c' : BX6) (sg' : BX7) (tr' : BX2) (m' : BX12), f_X3_keepsAll_b20 () v3 ey re u b F (iI r, iI 1, iI i, c, sg, tr) = some (iI kp, c', sg', tr') ∧ f_X12_isKept_b9 G (iI r, iI i, m) = some (iI kp, m') ∧ (kp = 0 ∨ kp = 1) ∧ pX6_bound c' = iI 1000000 ∧ pX7_n sg' = (w * h).toNat ∧ FrR m m' := by
    intro k
    induction k with
    | zero =>
      intro i i1 i2 c sg tr m hM hRO hb hb2 hn F G hF hG
      obtain ⟨F, rfl⟩ : ∃ F', F = F' + 1 := ⟨F - 1, by omega⟩
      obtain ⟨G, rfl⟩ : ∃ F', G = F' + 1 := ⟨G - 1, by omega⟩
      refine ⟨1, c, sg, tr, m, ?_, ?_, Or.inr rfl, hb, hn, FrR.refl m⟩
      · show f_X3_keepsAll_b20B () v3 ey re u b (f_X3_keepsAll_b20 () v3 ey re u b F) (iI r) (iI 1) (iI i) c sg tr = _
        unfold f_X3_keepsAll_b20B
        rw [if_neg (show ¬ iI 1 = (0 : Int32) by decide), hRe.1, if_pos (by rw [iI_le (by omega) (by omega) (by omega) (by omega)]; omega), gd_t (by decide)]
      · show f_X12_isKept_b9B (f_X12_isKept_b9 G) (iI r) (iI i) m = _
        unfold f_X12_isKept_b9B
        simp (disch := omega) only [iLit, iI_inB, gd_t, iI_cl, hM.at, iI_le]
        rw [if_pos (by omega)]
    | succ k ih =>
      intro i i1 i2 c sg tr m hM hRO hb hb2 hn F G hF hG
      obtain ⟨F, rfl⟩ : ∃ F', F = F' + 1 := ⟨F - 1, by omega⟩
      obtain ⟨G, rfl⟩ : ∃ F', G = F' + 1 := ⟨G - 1, by omega⟩
      obtain ⟨p1, p2, p3, p4, p5⟩ := hIR.2 i i1 (by omega)
      obtain ⟨d1, d2, d3, d4, d5⟩ := hRe.2 i i1 (by omega)
      have hw4 := hI.1
      obtain ⟨fl1, f1, hbeg⟩ := z_begin tr v3 ey (iI (A (720 + 24 * i))) (iI (A (720 + 24 * i + 1))) (iI (A (720 + 24 * i + 2)))
      have hdec : Decidable (sFree w h A (A (720 + 24 * i)) (A (720 + 24 * i + 1)) 0) := Classical.propDecidable _
      have clsB : f_X3_keepsAll_b20 () v3 ey re u b (F + 1) (iI r, iI 1, iI i, c, sg, tr) = f_X3_keepsAll_b91 () v3 ey re u b (f_X3_keepsAll_b20 () v3 ey re u b F) fU (iI r, bI (sFree w h A (A (720 + 24 * i)) (A (720 + 24 * i + 1)) 0), iI i, iI 0, c, sg, fl1) := by
        show f_X3_keepsAll_b20B () v3 ey re u b (f_X3_keepsAll_b20 () v3 ey re u b F) (iI r) (iI 1) (iI i) c sg tr = _
        have hgd : inB (iI i) 6 := by rw [iI_inB (by omega) (by omega)]; omega
        unfold f_X3_keepsAll_b20B
        rw [if_neg (show ¬ iI 1 = (0 : Int32) by decide), hRe.1, if_neg (by rw [iI_le (by omega) (by omega) (by omega) (by omega)]; omega), gd_t hgd, gd_t hgd, iI_cl i1 (by omega), d1, d2, d3, show (0 : Int32) = iI 0 from rfl, z_isFree hW hI (by omega) (by omega) (by omega) (by omega) (by omega) (by omega), bind_s, gd_t hgd, gd_t hgd, gd_t hgd, f1, bind_s]
      have refB : f_X12_isKept_b9 (G + 1) (iI r, iI i, m) = (if (bI (sFree w h A (A (720 + 24 * i)) (A (720 + 24 * i + 1)) 0)) = 0 then some (iI 0, m) else (f_X12_run m (iI r) (iI (A (720 + 24 * i))) (iI (A (720 + 24 * i + 1))) (iI (A (720 + 24 * i + 2))) (iI (A (720 + 24 * i + 3)))).bind (fun r_18 => if pX12_a r_18 (720 + 24 * i + 3).toNat ≤ pX12_ticks r_18 then f_X12_isKept_b106 (f_X12_isKept_b9 G) fU (iI r, iI i, iI (720 + 24 * i), iI 0, r_18) else some (iI 0, r_18))) := by
        show f_X12_isKept_b9B (f_X12_isKept_b9 G) (iI r) (iI i) m = _
        unfold f_X12_isKept_b9B
        simp (disch := omega) only [iLit, iI_inB, gd_t, iI_cl, hM.at, iI_le, iI_mul, iI_add, lt_e]
        rw [if_neg (by omega), z_isStart hM hI (by omega) (by omega) (by omega) (by omega), bind_s]
      by_cases hf : sFree w h A (A (720 + 24 * i)) (A (720 + 24 * i + 1)) 0
      · rw [bI_t hf] at clsB refB
        rw [if_neg (show ¬ (1 : Int32) = 0 by decide)] at refB
        have hF0 := z_FI0 (m := m) hI hV hf.1 (show 0 ≤ A (720 + 24 * i + 2) ∧ A (720 + 24 * i + 2) < 64 by omega) hbeg
        have fB := mB_fr m (A (720 + 24 * i)) (A (720 + 24 * i + 1)) (A (720 + 24 * i + 2))
        obtain ⟨kp, c2, sg2, tr2, j1, j2, j3, j4, j5⟩ := z_keepIn (n := b.2.1 q) (code := b.2.2 q) (b := b) (v3 := v3) (re := re) (tu := fun s => A (720 + 24 * i + 4 + s)) hI hE hW hV hr.1 (show r < 8 by omega) p4.2 i1 (show i < 6 by omega) hq1 hq2 rfl rfl d4 (fun j z1 z2 => ⟨d5 j z1 z2, p5 j z1 z2⟩) (A (720 + 24 * i + 3)).toNat 0 fl1 c sg _ _ _ _ _ _ _ hF0 (by omega) (fB.mw hM) (by rw [fB.texts]; exact hRO) hb (by rw [fB.bound]; exact hb2) hn
        obtain ⟨m1, g0, g1, t', rw', g2, g3, g4, g5, g6, g7⟩ := j5 fU (by rw [fU_v]; omega)
        have frm := fB.trans g1
        have hM1 := frm.mw hM
        rw [run_eq, g0, bind_s, hM1.at (by omega) (by omega), g2] at refB
        have hcls := j2 (f_X3_keepsAll_b20 () v3 ey re u b F) fU (by rw [fU_v]; omega)
        rw [show (1 : Int32) = iI 1 from rfl] at clsB
        rw [clsB, hcls, refB]
        have hle : (iI (A (720 + 24 * i + 3)) ≤ iI t') ↔ A (720 + 24 * i + 3) ≤ t' := iI_le (by omega) (by omega) (by omega) (by omega)
        have hcmp := z_cmp (r := r) (i := i) (t' := t') (rw' := rw') (tu := fun s => A (720 + 24 * i + 4 + s)) hM1 i1 (show i < 6 by omega) g3.1 (by omega) g2 g4 (fun s z1 z2 => ⟨rfl, p5 s z1 z2⟩) (f_X12_isKept_b9 G) t'.toNat 0 (by omega) (by omega) fU (by rw [fU_v]; omega)
        rcases j1 with e | e
        · -- not kept
          subst e
          rw [stop (i + 1) c2 sg2 tr2 F (by omega)]
          refine ⟨0, c2, sg2, tr2, m1, rfl, ?_, Or.inl rfl, j3, j4, frm⟩
          by_cases hl : A (720 + 24 * i + 3) ≤ t'
          · rw [if_pos (hle.mpr hl)]
            rcases g7 rfl with z | ⟨s, z1, z2, z3⟩
            · omega
            · exact hcmp.2 ⟨s, z1, z2, z3⟩
          · rw [if_neg (fun e => hl (hle.mp e))]
        · -- kept so far
          subst e
          obtain ⟨y1, y2⟩ := g6 rfl
          rw [if_pos (hle.mpr (by omega)), hcmp.1 (fun j z1 z2 => y2 j z1 (by omega))]
          obtain ⟨kp', c3, sg3, tr3, m3, a1, a2, a3, a4, a5, a6⟩ := ih (i + 1) (by omega) (by omega) c2 sg2 tr2 m1 hM1 (by rw [frm.texts]; exact hRO) j3 (by rw [frm.bound]; exact hb2) j4 F G (by omega) (by omega)
          exact ⟨kp', c3, sg3, tr3, m3, a1, a2, a3, a4, a5, frm.trans a6⟩
      · rw [bI_f hf] at clsB refB
        rw [if_pos rfl] at refB
        refine ⟨0, c, sg, fl1, m, ?_, refB, Or.inl rfl, hb, hn, FrR.refl m⟩
        rw [clsB]
        obtain ⟨H, hH⟩ : ∃ H, fU = H + 1 := ⟨fU - 1, by rw [fU_v]⟩
        rw [hH]
        show f_X3_keepsAll_b91B () v3 ey re u b (f_X3_keepsAll_b20 () v3 ey re u b F) (f_X3_keepsAll_b91 () v3 ey re u b (f_X3_keepsAll_b20 () v3 ey re u b F) H) (iI r) 0 (iI i) (iI 0) c sg fl1 = _
        unfold f_X3_keepsAll_b91B f_X3_keepsAll_b175
        rw [if_pos rfl, lt_e, show (1 : Int32) = iI 1 from rfl, iI_add, show (0 : Int32) = iI 0 from rfl]
        exact stop (i + 1) c sg fl1 F (by omega)
  have fb : FrP m (sX12_bound m 1000000) := (FrP.refl m).s_bound _
  obtain ⟨kp, c', sg', tr', m', k1, k2, k3, k4, k5, k6⟩ := key (A 4).toNat 0 (by omega) (by omega) c sg tr (sX12_bound m 1000000) (fb.mw hM) (by rw [q12_texts_bound]; exact hRO) hb (by rw [q12_bound_bound]; rfl) hn fU fU (by rw [fU_v]; omega) (by rw [fU_v]; omega)
  refine ⟨kp, c', sg', tr', m', ?_, ?_, k3, k4, k5, fb.trans k6.p, by rw [k6.keeps, q12_keeps_bound], by rw [k6.bound, q12_bound_bound]; rfl⟩
  · unfold f_X3_keepsAll
    rw [z_isRuleC hv h3 (by omega) (by omega), bind_s, bI_t hr]
    exact k1
  · unfold f_X12_isKept
    rw [lt_e]
    exact k2
