-- layer 2: a tick of a flight, both sides together
/-- the reference's end of a tick: it didn't rest -/
theorem z_runM {m9 : BX12} {w h : Int} {A : Int → Int} {t x y hd tn g r nn : Int} (hM : MW m9 w h A) (hI : InW w h A) (t1 : 0 ≤ t) (t2 : t < 60) (e1 : pX12_now m9 = iI t) (e2 : pX12_turn m9 = iI tn) (tn1 : -8 ≤ tn ∧ tn ≤ 8) (e3 : pX12_go m9 = iI g) (g1 : 0 ≤ g ∧ g ≤ 16) (e4 : pX12_atX m9 = iI x) (e5 : pX12_atY m9 = iI y) (e6 : pX12_heading m9 = iI hd) (x1 : -1000 ≤ x ∧ x ≤ 1000) (y1 : -1000 ≤ y ∧ y ≤ 1000) (h1 : 0 ≤ hd ∧ hd < 64) (e7 : pX12_ticks m9 = iI t) (rw_ : Int → Int → Int) {J : Int32 × Int32 × BX12 → Option BX12} {Q : BX12 → Prop}
    (hQ : ∀ m' : BX12, FrR m9 m' → pX12_ticks m' = iI (t + 1) → pX12_atX m' = iI (x + g * WX ((hd + tn) % 64) / 16) → pX12_atY m' = iI (y + g * WY ((hd + tn) % 64) / 16) → pX12_heading m' = iI ((hd + tn) % 64) → (∀ [Decidable (sFree w h A (x + g * WX ((hd + tn) % 64) / 16) (y + g * WY ((hd + tn) % 64) / 16) (t + 1))], pX12_hit m' = iI (if sFree w h A (x + g * WX ((hd + tn) % 64) / 16) (y + g * WY ((hd + tn) % 64) / 16) (t + 1) then 0 else 1)) → pX12_rested m' = pX12_rested m9 → pX12_over m' = pX12_over m9 → (∀ j : Int, 0 ≤ j → j < 5 → pX12_rows m' (38 * t + j).toNat = iI (rwX rw_ t tn g x y hd t j)) → (∀ j : Int, 0 ≤ j → (j < 38 * t ∨ 38 * t + 5 ≤ j) → pX12_rows m' j.toNat = pX12_rows m9 j.toNat) → Wp (J (iI r, iI nn, m')) Q) :
    Wp (g_lt (((38 : Int32) * (pX12_now m9)) : Int32) (fun x6_13 => g_lt ((pX12_turn m9) : Int32) (fun x_14 => g_gd (inB x6_13 2280) (g_lt (sX12_rows m9 (upd (pX12_rows m9) (x6_13 : Int32).toNatClampNeg x_14)) (fun v0_16 => g_lt ((pX12_go v0_16) : Int32) (fun x_17 => g_gd (inB (x6_13 + 1) 2280) (g_lt (sX12_rows v0_16 (upd (pX12_rows v0_16) ((x6_13 + 1) : Int32).toNatClampNeg x_17)) (fun v0_19 => g_lt ((pX12_atX v0_19) : Int32) (fun x_20 => g_gd (inB (x6_13 + 2) 2280) (g_lt (sX12_rows v0_19 (upd (pX12_rows v0_19) ((x6_13 + 2) : Int32).toNatClampNeg x_20)) (fun v0_22 => g_lt ((pX12_atY v0_22) : Int32) (fun x_23 => g_gd (inB (x6_13 + 3) 2280) (g_lt (sX12_rows v0_22 (upd (pX12_rows v0_22) ((x6_13 + 3) : Int32).toNatClampNeg x_23)) (fun v0_25 => g_lt ((pX12_heading v0_25) : Int32) (fun x_26 => g_gd (inB (x6_13 + 4) 2280) (g_lt (sX12_rows v0_25 (upd (pX12_rows v0_25) ((x6_13 + 4) : Int32).toNatClampNeg x_26)) (fun v0_28 => g_lt (((((pX12_heading v0_28) + (pX12_turn v0_28)) + 64) - (((pX12_heading v0_28) + (pX12_turn v0_28)) + 64) / 64 * 64) : Int32) (fun x_30 => g_lt (sX12_heading v0_28 x_30) (fun v0_31 => (f_X12_wayX (pX12_heading v0_31)).bind (fun r_32 => (f_X12_floor ((pX12_go v0_31) * r_32) 16).bind (fun r_33 => g_lt (((pX12_atX v0_31) + r_33) : Int32) (fun x_34 => g_lt (sX12_atX v0_31 x_34) (fun v0_35 => (f_X12_wayY (pX12_heading v0_35)).bind (fun r_36 => (f_X12_floor ((pX12_go v0_35) * r_36) 16).bind (fun r_37 => g_lt (((pX12_atY v0_35) + r_37) : Int32) (fun x_38 => g_lt (sX12_atY v0_35 x_38) (fun v0_39 => g_lt (((pX12_ticks v0_39) + 1) : Int32) (fun x_40 => g_lt (sX12_ticks v0_39 x_40) (fun v0_41 => (f_X12_isPlace v0_41 (pX12_atX v0_41) (pX12_atY v0_41)).bind (fun r_42 => if (r_42 : Int32) = 0 then (f_X12_run_b288 J (iI r) (iI nn) v0_41) else ((f_X12_markAt v0_41 ((((pX12_atY v0_41) / 16) * (pX12_w v0_41)) + ((pX12_atX v0_41) / 16)) (pX12_ticks v0_41)).bind (fun r_46 => if (r_46 : Int32) ≤ 0 then (f_X12_run_b293 J (iI r) (iI nn) 0 v0_41) else (f_X12_run_b288 J (iI r) (iI nn) v0_41))))))))))))))))))))))))))))))))) Q := by
  have a1 := WX_bd (s := (hd + tn) % 64) (by omega) (by omega)
  have a2 := WY_bd (s := (hd + tn) % 64) (by omega) (by omega)
  have a3 := go_bd g1.1 g1.2 a1.1 a1.2
  have a4 := go_bd g1.1 g1.2 a2.1 a2.2
  have i0 : (38 : Int32) * iI t = iI (38 * t) := by rw [show (38 : Int32) = iI 38 from rfl, iI_mul]
  rw [e1, i0, e2]
  refine wp_ltv (fun r0 hr0 => wp_ltv (fun z0 hz0 => ?_))
  subst hr0 hz0
  have k0 : ∀ j : Int, 0 ≤ j → j < 5 → iI (38 * t) + iI j = iI (38 * t + j) := fun j _ _ => iI_add _ _
  rw [show (1 : Int32) = iI 1 from rfl, show (2 : Int32) = iI 2 from rfl, show (3 : Int32) = iI 3 from rfl, show (4 : Int32) = iI 4 from rfl, iI_add, iI_add, iI_add, iI_add, iI_cl (by omega) (by omega), iI_cl (a := 38 * t + 1) (by omega) (by omega), iI_cl (a := 38 * t + 2) (by omega) (by omega), iI_cl (a := 38 * t + 3) (by omega) (by omega), iI_cl (a := 38 * t + 4) (by omega) (by omega)]
  refine wp_gd (by rw [iI_inB (by omega) (by omega)]; omega) (wp_ltv (fun v16 h16 => wp_ltv (fun x17 hx17 => wp_gd (by rw [iI_inB (by omega) (by omega)]; omega) (wp_ltv (fun v19 h19 => wp_ltv (fun x20 hx20 => wp_gd (by rw [iI_inB (by omega) (by omega)]; omega) (wp_ltv (fun v22 h22 => wp_ltv (fun x23 hx23 => wp_gd (by rw [iI_inB (by omega) (by omega)]; omega) (wp_ltv (fun v25 h25 => wp_ltv (fun x26 hx26 => wp_gd (by rw [iI_inB (by omega) (by omega)]; omega) (wp_ltv (fun v28 h28 => ?_))))))))))))))
  rw [h16, q12_go_rows, e3] at hx17
  rw [h19, q12_atX_rows, h16, q12_atX_rows, e4] at hx20
  rw [h22, q12_atY_rows, h19, q12_atY_rows, h16, q12_atY_rows, e5] at hx23
  rw [h25, q12_heading_rows, h22, q12_heading_rows, h19, q12_heading_rows, h16, q12_heading_rows, e6] at hx26
  have hrows : pX12_rows v28 = upd (upd (upd (upd (upd (pX12_rows m9) (38 * t).toNat (iI tn)) (38 * t + 1).toNat (iI g)) (38 * t + 2).toNat (iI x)) (38 * t + 3).toNat (iI y)) (38 * t + 4).toNat (iI hd) := by
    rw [h28, q12_rows_rows, h25, q12_rows_rows, h22, q12_rows_rows, h19, q12_rows_rows, h16, q12_rows_rows, hx17, hx20, hx23, hx26]
  have fr : FrR m9 v28 := by
    rw [h28, h25, h22, h19, h16]
    exact ((((((FrR.refl m9).s_rows _).s_rows _).s_rows _).s_rows _).s_rows _)
  have c1 : pX12_heading v28 = iI hd := by rw [h28, q12_heading_rows, h25, q12_heading_rows, h22, q12_heading_rows, h19, q12_heading_rows, h16, q12_heading_rows, e6]
  have c2 : pX12_turn v28 = iI tn := by rw [h28, q12_turn_rows, h25, q12_turn_rows, h22, q12_turn_rows, h19, q12_turn_rows, h16, q12_turn_rows, e2]
  have c3 : pX12_go v28 = iI g := by rw [h28, q12_go_rows, h25, q12_go_rows, h22, q12_go_rows, h19, q12_go_rows, h16, q12_go_rows, e3]
  have c4 : pX12_atX v28 = iI x := by rw [h28, q12_atX_rows, h25, q12_atX_rows, h22, q12_atX_rows, h19, q12_atX_rows, h16, q12_atX_rows, e4]
  have c5 : pX12_atY v28 = iI y := by rw [h28, q12_atY_rows, h25, q12_atY_rows, h22, q12_atY_rows, h19, q12_atY_rows, h16, q12_atY_rows, e5]
  have c6 : pX12_ticks v28 = iI t := by rw [h28, q12_ticks_rows, h25, q12_ticks_rows, h22, q12_ticks_rows, h19, q12_ticks_rows, h16, q12_ticks_rows, e7]
  have c7 : pX12_rested v28 = pX12_rested m9 := by rw [h28, q12_rested_rows, h25, q12_rested_rows, h22, q12_rested_rows, h19, q12_rested_rows, h16, q12_rested_rows]
  have c8 : pX12_over v28 = pX12_over m9 := by rw [h28, q12_over_rows, h25, q12_over_rows, h22, q12_over_rows, h19, q12_over_rows, h16, q12_over_rows]
  clear hx17 hx20 hx23 hx26 h28 h25 h22 h19 h16
  have em : hd + tn + 64 - (hd + tn + 64) / 64 * 64 = (hd + tn) % 64 := by omega
  rw [c1, c2, show (64 : Int32) = iI 64 from rfl]
  refine wp_ltv (fun x30 h30 => wp_ltv (fun v31 h31 => ?_))
  rw [iI_add, iI_add, iI_div (by omega) (by omega) (by omega) (by omega), iI_mul, iI_sub, em] at h30
  rw [h30] at h31
  have d1 : pX12_heading v31 = iI ((hd + tn) % 64) := by rw [h31, q12_heading_heading]
  have d2 : pX12_go v31 = iI g := by rw [h31, q12_go_heading, c3]
  have d3 : pX12_atX v31 = iI x := by rw [h31, q12_atX_heading, c4]
  rw [d1, z_wayX (by omega) (by omega), bind_s, d2, iI_mul, show (16 : Int32) = iI 16 from rfl, z_floor16 (by omega) (by omega), bind_s, d3, iI_add]
  refine wp_ltv (fun x34 h34 => wp_ltv (fun v35 h35 => ?_))
  rw [h34] at h35
  have f1 : pX12_heading v35 = iI ((hd + tn) % 64) := by rw [h35, q12_heading_atX, d1]
  have f2 : pX12_go v35 = iI g := by rw [h35, q12_go_atX, d2]
  have f3 : pX12_atY v35 = iI y := by rw [h35, q12_atY_atX, h31, q12_atY_heading, c5]
  rw [f1, z_wayY (by omega) (by omega), bind_s, f2, iI_mul, z_floor16 (by omega) (by omega), bind_s, f3, iI_add]
  refine wp_ltv (fun x38 h38 => wp_ltv (fun v39 h39 => wp_ltv (fun x40 h40 => wp_ltv (fun v41 h41 => ?_))))
  rw [h38] at h39
  rw [h39, q12_ticks_atY, h35, q12_ticks_atX, h31, q12_ticks_heading, c6, iI_add] at h40
  rw [h40] at h41
  have fr2 : FrR m9 v41 := by
    rw [h41, h39, h35, h31]
    exact (((fr.s_heading _).s_atX _).s_atY _).s_ticks _
  have g1' : pX12_atX v41 = iI (x + g * WX ((hd + tn) % 64) / 16) := by rw [h41, q12_atX_ticks, h39, q12_atX_atY, h35, q12_atX_atX]
  have g2' : pX12_atY v41 = iI (y + g * WY ((hd + tn) % 64) / 16) := by rw [h41, q12_atY_ticks, h39, q12_atY_atY]
  have g3' : pX12_ticks v41 = iI (t + 1) := by rw [h41, q12_ticks_ticks]
  have g4' : pX12_heading v41 = iI ((hd + tn) % 64) := by rw [h41, q12_heading_ticks, h39, q12_heading_atY, f1]
  have g5' : pX12_rested v41 = pX12_rested m9 := by rw [h41, q12_rested_ticks, h39, q12_rested_atY, h35, q12_rested_atX, h31, q12_rested_heading, c7]
  have g6' : pX12_over v41 = pX12_over m9 := by rw [h41, q12_over_ticks, h39, q12_over_atY, h35, q12_over_atX, h31, q12_over_heading, c8]
  have g7' : pX12_rows v41 = pX12_rows v28 := by rw [h41, q12_rows_ticks, h39, q12_rows_atY, h35, q12_rows_atX, h31, q12_rows_heading]
  clear h41 h40 h39 h38 h35 h34 h31 h30
  have hMv := fr2.mw hM
  have fin : ∀ z : Int, (z = 0 ∨ z = 1) → (∀ [Decidable (sFree w h A (x + g * WX ((hd + tn) % 64) / 16) (y + g * WY ((hd + tn) % 64) / 16) (t + 1))], z = (if sFree w h A (x + g * WX ((hd + tn) % 64) / 16) (y + g * WY ((hd + tn) % 64) / 16) (t + 1) then 0 else 1)) → Wp (f_X12_run_b293 J (iI r) (iI nn) (iI z) v41) Q := by
    intro z hz hzz
    unfold f_X12_run_b293
    rw [gd_t (by rcases hz with e | e <;> rw [e] <;> decide), lt_e]
    refine hQ _ (fr2.s_hit _) (by rw [q12_ticks_hit]; exact g3') (by rw [q12_atX_hit]; exact g1') (by rw [q12_atY_hit]; exact g2') (by rw [q12_heading_hit]; exact g4') (by intro _; rw [q12_hit_hit, ← hzz]) (by rw [q12_rested_hit]; exact g5') (by rw [q12_over_hit]; exact g6') (fun j j1 j2 => ?_) (fun j j1 j2 => ?_)
    · rw [q12_rows_hit, g7', hrows, ai_upd (by omega) (by omega), ai_upd (by omega) (by omega), ai_upd (by omega) (by omega), ai_upd (by omega) (by omega), ai_upd (by omega) (by omega)]
      unfold rwX
      rw [if_pos rfl]
      by_cases h4 : j = 4
      · rw [if_pos (by omega), if_neg (by omega), if_neg (by omega), if_neg (by omega), if_neg (by omega)]
      · rw [if_neg (by omega)]
        by_cases h3 : j = 3
        · rw [if_pos (by omega), if_neg (by omega), if_neg (by omega), if_neg (by omega), if_pos h3]
        · rw [if_neg (by omega)]
          by_cases h2 : j = 2
          · rw [if_pos (by omega), if_neg (by omega), if_neg (by omega), if_pos h2]
          · rw [if_neg (by omega)]
            by_cases h1 : j = 1
            · rw [if_pos (by omega), if_neg (by omega), if_pos h1]
            · rw [if_neg (by omega), if_pos (by omega), if_pos (by omega)]
    · rw [q12_rows_hit, g7', hrows, ai_upd (by omega) j1, ai_upd (by omega) j1, ai_upd (by omega) j1, ai_upd (by omega) j1, ai_upd (by omega) j1, if_neg (by omega), if_neg (by omega), if_neg (by omega), if_neg (by omega), if_neg (by omega)]
  rw [g1', g2', g3', z_isPlace hMv hI (by omega) (by omega) (by omega) (by omega), bind_s]
  by_cases hp : (0 ≤ x + g * WX ((hd + tn) % 64) / 16 ∧ x + g * WX ((hd + tn) % 64) / 16 < 16 * w) ∧ 0 ≤ y + g * WY ((hd + tn) % 64) / 16 ∧ y + g * WY ((hd + tn) % 64) / 16 < 16 * h
  · have hw4 := hI.1
    have hb := pl_bd hw4.1 hw4.2.1 hw4.2.2.1 hw4.2.2.2 hp.1 hp.2
    have hb2 := sMk_bd hI (c := (y + g * WY ((hd + tn) % 64) / 16) / 16 * w + (x + g * WX ((hd + tn) % 64) / 16) / 16) (by omega) (by omega) (t + 1)
    rw [bI_t hp, if_neg (show ¬ (1 : Int32) = 0 by decide), hMv.1, iI_div (by omega) (by omega) (by omega) (by omega), iI_div (by omega) (by omega) (by omega) (by omega), iI_mul, iI_add, z_markAt hMv hI (by omega) (by omega) (by omega) (by omega), bind_s]
    rw [show (0 : Int32) = iI 0 from rfl]
    simp (disch := omega) only [iI_le]
    by_cases hz : sMk w h A ((y + g * WY ((hd + tn) % 64) / 16) / 16 * w + (x + g * WX ((hd + tn) % 64) / 16) / 16) (t + 1) = 0
    · rw [if_pos (by omega)]
      exact fin 0 (Or.inl rfl) (by intro _; rw [if_pos ⟨hp, hz⟩])
    · rw [if_neg (by omega)]
      exact fin 1 (Or.inr rfl) (by intro _; rw [if_neg (fun e => hz e.2)])
  · rw [bI_f hp, if_pos rfl]
    exact fin 1 (Or.inr rfl) (by intro _; rw [if_neg (fun e => hp e.1)])
