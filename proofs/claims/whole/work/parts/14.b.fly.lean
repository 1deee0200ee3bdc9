-- layer 2: fly
theorem z_isRule {m : BX12} {w h : Int} {A : Int → Int} (hM : MW m w h A) (h3 : 0 ≤ A 3 ∧ A 3 ≤ 8) {k : Int} (h1 : -2147483648 ≤ k) (h2 : k < 2147483648) : f_X12_isRule m (iI k) = some (bI (0 ≤ k ∧ k ≤ A 3 - 1)) := by
  unfold f_X12_isRule
  simp (disch := omega) only [iLit, iI_inB, gd_t, iI_cl, hM.at, iI_sub, sz_isIn, bind_s, bI_gd]
theorem z_isRuleC {v : BX8} {A : Int → Int} (hv : pX8_rules v = iI (A 3)) (h3 : 0 ≤ A 3 ∧ A 3 ≤ 8) {k : Int} (h1 : -2147483648 ≤ k) (h2 : k < 2147483648) : f_X8_isRule v (iI k) = some (bI (0 ≤ k ∧ k ≤ A 3 - 1)) := by
  unfold f_X8_isRule
  simp (disch := omega) only [iLit, hv, iI_sub, sz_isWithin, bind_s, bI_gd]
/-- the array behind a flight, as integers -/
def aX (a : Nat → Int32) (A : Int → Int) : Int → Int := fun j => if 880 ≤ j then (a j.toNat).toInt else A j
theorem aX_lo {a : Nat → Int32} {A : Int → Int} {j : Int} (h : j < 880) : aX a A j = A j := if_neg (by omega)
theorem aX_hi {a : Nat → Int32} {A : Int → Int} {j z : Int} (h : 880 ≤ j) (e : a j.toNat = iI z) (z1 : -2147483648 ≤ z) (z2 : z < 2147483648) : aX a A j = z := by
  unfold aX
  rw [if_pos h, e, iI_toInt z1 z2]
theorem aX_iI {a : Nat → Int32} {A : Int → Int} {j : Int} (h : 880 ≤ j) : iI (aX a A j) = a j.toNat := by
  unfold aX
  rw [if_pos h, iI_self]
theorem iI_01 {z : Int} (h : z = 0 ∨ z = 1) : iI z = iI 0 ∨ iI z = iI 1 := by
  rcases h with e | e
  · exact Or.inl (by rw [e])
  · exact Or.inr (by rw [e])
theorem o_fly : Op_fly (Rel RO) := by
  intro v0 v1 v2 v3 v4 v5 v6 v7 v8 v9 v10 v11 v12 v13 v14 v15 v16 v17 v18 hR p0 p1 p2 p3 p4 p5
  have hR' := hR
  obtain ⟨w, h, A, G, hM, rG, hA, hG, ⟨hW, hV, hRe, hFl⟩, r6, ⟨e1, e2, e3, e4, e5⟩, hn, hTP, hFT⟩ := hR'
  have hI := hA.1
  have hE := hA.2.1
  have h3 := hA.2.2.2.2
  obtain ⟨r, r1, r2, rfl⟩ := iI_of p0
  obtain ⟨x, x1, x2, rfl⟩ := iI_of p1
  obtain ⟨y, y1, y2, rfl⟩ := iI_of p2
  obtain ⟨s, s1, s2, rfl⟩ := iI_of p3
  obtain ⟨nn, n1, n2, rfl⟩ := iI_of p4
  obtain ⟨b, b1, b2, rfl⟩ := iI_of p5
  have hdec : Decidable (sFree w h A x y 0) := Classical.propDecidable _
  unfold f_X11_fly f_X12_fly
  rw [z_isRuleC e1 h3 r1 r2, z_isRule hM h3 r1 r2, z_isStanding hW hI x1 x2 y1 y2 s1 s2, z_isStart hM hI x1 x2 y1 y2]
  simp (disch := omega) only [iLit, z_isSideM, sz_isIn, sz_isWithin, bind_s, bI_0I, ite_not, iI_eq]
  by_cases hr : 0 ≤ r ∧ r ≤ A 3 - 1
  · rw [if_pos hr, if_pos hr]
    by_cases hs : 0 ≤ s ∧ s ≤ 63
    · by_cases hnn : 1 ≤ nn ∧ nn ≤ 60
      · by_cases hbits : b = 0 ∨ 4 ≤ b ∧ b ≤ 20
        · by_cases hf : sFree w h A x y 0
          · -- it flies
            have hp := hf.1
            have go : ∀ (B : Int) (Bc : Int32) (Bm : Int64), 7 ≤ B → B ≤ 1000000 → Bc = iI B → Bm = lI B → ∃ (rr : Int32) (xx : BX7 × BX6 × BX2) (yy : BX12), f_X11_fly_b91 v0 v1 v2 v8 v11 v18 (iI r) (iI x) (iI y) (iI s) (iI nn) Bc v5 v6 v9 = some (rr, xx) ∧ f_X12_fly_b74 (iI r) (iI x) (iI y) (iI s) (iI nn) Bm v17 = some (rr, yy) ∧ Rel RO v0 v1 v2 v3 v4 xx.1 xx.2.1 v7 v8 xx.2.2 v10 v11 v12 v13 v14 v15 v16 yy v18 := by
              intro B Bc Bm hB hB2 hBc hBm
              subst hBc hBm
              obtain ⟨fl1, f1, hbeg⟩ := z_begin v9 v2 v8 (iI x) (iI y) (iI s)
              obtain ⟨q, hq1, hq2⟩ := e4.1 r hr.1 (by omega)
              have hRO := e4.2 r hr.1 (by omega) q hq1
              have hF0 := z_FI0 (m := sX12_bound v17 (lI B)) hI hV hp (show 0 ≤ s ∧ s < 64 by omega) hbeg
              have hMb : MW (sX12_bound v17 (lI B)) w h A := ⟨by rw [q12_w_bound]; exact hM.1, by rw [q12_h_bound]; exact hM.2.1, by rw [q12_a_bound]; exact hM.2.2⟩
              obtain ⟨R, g1, g2, g3, m', f2, frR, t', x', y', hd', ht', rs', tk', rw', hFI, ht1, _⟩ := z_flight (n := v18.2.1 q) (code := v18.2.2 q) (c := sX6_bound v6 (iI B)) (sg := v5) (v5 := v2) (r := r) (nn := nn) hMb hI hE hW hV hB hB2 (by rw [q6_bound_bound]) (by rw [q12_bound_bound]) hn hr.1 (by omega) (by rw [q12_texts_bound]; exact hRO) (by omega) hnn.2 hF0
              obtain ⟨⟨c1, c2⟩, ⟨c3, c4⟩, ⟨c5, c6, c7⟩, ⟨c8, c9, c10⟩, ⟨c11, c12, c13⟩, ⟨c14, c15, c16⟩, ⟨c17, c18, c19⟩, ⟨o, c20, c21⟩, ⟨c22, c23, c24⟩, hrow, htk, hrw0, hplc⟩ := hFI
              have hMm := frR.mw hMb
              obtain ⟨⟨rr, yy⟩, f3, w1, w2, w3, w4, w5, w6, w7, w8, w9, w10, w11, w12, w13⟩ := z_flyW hMm hE c1 c2 c4 c6 c9 c12 c15 c16 c18 c19
              dsimp only at w1 w2 w3 w4 w5 w6 w7 w8 w9 w10 w11 w12 w13
              refine ⟨iI t', (R.2.2, R.2.1, R.1), yy, ?_, ?_, ?_⟩
              · unfold f_X11_fly_b91 f_X3_bindTo
                rw [lt_e, bind_s, f1, bind_s, gd_t (by rw [iI_inB (by omega) (by omega)]; omega), iI_cl hr.1 (by omega), hq1, bind_s, gd_t hq2, g1, bind_s, c3]
              · unfold f_X12_fly_b74
                rw [lt_e, f2, bind_s, f3, w1]
              · have h1b := hE.1
                have h2b := hE.2.1
                have lo : ∀ j : Int, j < 880 → aX (pX12_a yy) A j = A j := fun j hj => aX_lo hj
                have hE' : InE (aX (pX12_a yy) A) := hE.cg (fun j hj => lo j (by omega))
                have v880 : aX (pX12_a yy) A 880 = t' := aX_hi (by omega) w5 (by omega) (by omega)
                have v884 : aX (pX12_a yy) A 884 = ht' := aX_hi (by omega) w9 (by omega) (by omega)
                have v885 : aX (pX12_a yy) A 885 = rs' := aX_hi (by omega) w10 (by omega) (by omega)
                have v887 : aX (pX12_a yy) A 887 = A 1 := aX_hi (by omega) w12 (by omega) (by omega)
                have v888 : aX (pX12_a yy) A 888 = A 2 := aX_hi (by omega) w13 (by omega) (by omega)
                have arow : ∀ j z : Int, 0 ≤ j → j < 38 * t' → pX12_rows m' j.toNat = iI z → pX12_a yy (890 + j).toNat = iI z := fun j z j1 j2 e => by rw [w3 j j1 j2]; exact e
                have atk : ∀ t k : Int, 0 ≤ t → t < t' → 0 ≤ k → k < A 1 → aX (pX12_a yy) A (890 + 38 * t + 5 + k) = tk' t k := by
                  intro t k t1 t2 k1 k2
                  have hb := htk t k
                  refine aX_hi (by omega) ?_ (by omega) (by omega)
                  rw [show 890 + 38 * t + 5 + k = 890 + (38 * t + 5 + k) by omega]
                  exact arow _ _ (by omega) (by omega) ((hrow t t1 t2).2.1 k k1 k2).2
                refine ⟨w, h, aX (pX12_a yy) A, G, ⟨w2.w.trans hMm.1, w2.h.trans hMm.2.1, fun j j1 j2 => ?_⟩, by rw [w2.image, frR.image, q12_image_bound]; exact rG, ⟨hI.cg (fun j hj => lo j (by omega)), hE', hA.2.2.1.cg (fun j hj => lo j (by omega)), ?_, by rw [lo 3 (by omega)]; exact h3⟩, hG, ⟨hW.cg hI (fun j hj => lo j (by omega)), hV.cg (fun j hj => lo j (by omega)), hRe.cg (fun j hj => lo j (by omega)), ?_⟩, r6, ⟨by rw [lo 3 (by omega)]; exact e1, e2, by rw [lo 3 (by omega)]; exact e3, by rw [lo 3 (by omega), w2.texts, frR.texts, q12_texts_bound]; exact e4, by rw [w2.texts, frR.texts, q12_texts_bound]; exact e5⟩, g3, FrB hTP hFT (by rw [w2.taped, frR.taped, q12_taped_bound]) (by rw [w2.tape, frR.tape, q12_tape_bound]) (by rw [w2.fault, frR.fault, q12_fault_bound]) (by rw [w2.faultPlace, frR.faultPlace, q12_faultPlace_bound])⟩
                · by_cases hj : 880 ≤ j
                  · rw [aX_iI hj]
                  · rw [lo j (by omega), w4 j j1 (by omega)]
                    exact hMm.at j1 j2
                · refine Or.inr ⟨by rw [v880]; exact ⟨c1, c2⟩, by rw [v884]; exact c16, by rw [v885]; exact c19, by rw [v887, lo 1 (by omega)]; omega, by rw [v888, lo 2 (by omega)]; omega, fun p p1 p2 => ?_, fun t t1 t2 p p1 p2 => ?_⟩
                  · rw [v888] at p2
                    rw [v887, lo _ (by omega), lo _ (by omega)]
                    have := hE.2.2.2 p p1 p2
                    omega
                  · rw [v880] at t2
                    rw [v888] at p2
                    have hq := hE.2.2.2 p p1 p2
                    have hpb := sPair_bd (A := A) htk p t
                    have ev : aX (pX12_a yy) A (890 + 38 * t + 21 + p) = sPair A tk' p t := by
                      refine aX_hi (by omega) ?_ (by omega) (by omega)
                      rw [show 890 + 38 * t + 21 + p = 890 + (38 * t + 21 + p) by omega]
                      exact arow _ _ (by omega) (by omega) ((hrow t t1 t2).2.2 p p1 p2)
                    rw [ev]
                    unfold sPair
                    rw [lo (660 + 3 * p) (by omega), lo (660 + 3 * p + 1) (by omega), lo (660 + 3 * p + 2) (by omega)]
                    by_cases hd : t < A (660 + 3 * p + 2)
                    · rw [if_pos hd, if_pos hd]
                    · rw [if_neg hd, if_neg hd]
                      dsimp only
                      rw [atk _ _ (by omega) (by omega) hq.1.1 hq.1.2, atk _ _ t1 t2 hq.2.1.1 hq.2.1.2, atk _ _ t1 t2 hq.1.1 hq.1.2, atk _ _ (by omega) (by omega) hq.2.1.1 hq.2.1.2]
                · refine ⟨⟨Or.inr c22, by rw [c14]; exact iI_01 c16, by rw [c17]; exact iI_01 c19⟩, Or.inr ⟨by rw [v880]; omega, c22, by rw [v880]; exact c3, by rw [aX_iI (by omega), w6]; exact c5, by rw [aX_iI (by omega), w7]; exact c8, by rw [aX_iI (by omega), w8]; exact c11, by rw [v884]; exact c14, by rw [v885]; exact c17, by rw [aX_iI (by omega), w11, c21]; exact c20, by rw [v887]; exact c23, by rw [v888]; exact c24, fun t t1 t2 => ⟨fun j j1 j2 => ?_, fun j j1 j2 => ?_⟩⟩⟩
                  · rw [v880] at t2
                    rw [aX_iI (by omega), show 890 + 38 * t + j = 890 + (38 * t + j) by omega, arow _ _ (by omega) (by omega) (((hrow t t1 t2).1 j j1 j2).2)]
                    exact ((hrow t t1 t2).1 j j1 j2).1
                  · rw [v880] at t2
                    rw [v887] at j2
                    rw [atk t j t1 t2 j1 j2]
                    exact ((hrow t t1 t2).2.1 j j1 j2).1
            rw [if_pos ⟨hp, hs⟩, if_pos hf, if_pos hs, if_pos hnn, if_pos hnn]
            unfold f_X11_fly_b51 f_X12_fly_b54
            rw [show (0 : Int32) = iI 0 from rfl, z_isFree hW hI x1 x2 y1 y2 (by omega) (by omega), bI_t hf, bind_s, if_neg (show ¬ (1 : Int32) = iI 0 by decide)]
            simp (disch := omega) only [iI_eq]
            rcases hbits with e | e
            · rw [if_pos e, if_pos e, if_pos e, if_pos e]
              exact go 1000000 1000000 1000000 (by omega) (by omega) rfl rfl
            · have hv := bits_v b.toNat (by omega) (by omega)
              rw [Int.toNat_of_nonneg (by omega)] at hv
              rw [if_neg (by omega), if_pos e, if_neg (by omega), if_neg (by omega), if_pos e, if_neg (by omega)]
              exact go _ _ _ hv.2.2.1 hv.2.2.2 hv.1 hv.2.1
          · -- not free
            have h2 : ∀ (k : Option (Int32 × BX12)), (if sFree w h A x y 0 then k else some (-iI 1, v17)) = some (-iI 1, v17) := fun k => if_neg hf
            rw [if_neg hf]
            refine ⟨-iI 1, (v5, v6, v9), v17, ?_, rfl, hR⟩
            by_cases hp : (0 ≤ x ∧ x < 16 * w) ∧ 0 ≤ y ∧ y < 16 * h
            · rw [if_pos ⟨hp, hs⟩, if_pos hnn]
              have h51 : f_X11_fly_b51 v0 v1 v2 v8 v11 v18 (iI r) (iI x) (iI y) (iI s) (iI nn) (iI b) v5 v6 v9 = some (-iI 1, v5, v6, v9) := by
                unfold f_X11_fly_b51
                rw [show (0 : Int32) = iI 0 from rfl, z_isFree hW hI x1 x2 y1 y2 (by omega) (by omega), bI_f hf, bind_s, if_pos (show (0 : Int32) = iI 0 from rfl)]
                rfl
              rw [h51]
              split
              · rfl
              · split <;> rfl
            · rw [if_neg (fun e => hp e.1)]
        · -- bits
          have hb0 : ¬ b = 0 := fun e => hbits (Or.inl e)
          have hb1 : ¬ (4 ≤ b ∧ b ≤ 20) := fun e => hbits (Or.inr e)
          rw [if_neg hb0, if_neg hb0, if_neg hb1, if_neg hb1]
          refine ⟨-iI 1, (v5, v6, v9), v17, ?_, ?_, hR⟩
          · repeat' (first | rfl | split)
          · repeat' (first | rfl | split)
      · rw [if_neg hnn, if_neg hnn]
        refine ⟨-iI 1, (v5, v6, v9), v17, ?_, ?_, hR⟩
        · repeat' (first | rfl | split)
        · repeat' (first | rfl | split)
    · rw [if_neg (fun e => hs e.2), if_neg hs]
      refine ⟨-iI 1, (v5, v6, v9), v17, rfl, ?_, hR⟩
      split <;> rfl
  · rw [if_neg hr, if_neg hr]
    exact ⟨-iI 1, (v5, v6, v9), v17, rfl, rfl, hR⟩
