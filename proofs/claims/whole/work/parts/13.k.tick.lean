-- layer 2: a tick of a flight, both sides
theorem wp_ltv {α β : Type} {e : α} {k : α → Option β} {Q : β → Prop} (h : ∀ x, x = e → Wp (k x) Q) : Wp (g_lt e k) Q := h e rfl
/-- what is noted of a tick -/
def rwX (rw_ : Int → Int → Int) (t tn g x y hd : Int) : Int → Int → Int := fun s j => if s = t then (if j = 0 then tn else if j = 1 then g else if j = 2 then x else if j = 3 then y else hd) else rw_ s j
theorem rwX_o {rw_ : Int → Int → Int} {t tn g x y hd s j : Int} (h : s ≠ t) : rwX rw_ t tn g x y hd s j = rw_ s j := if_neg h
theorem z_note {fl : BX2} {t tn g x y hd : Int} (t1 : 0 ≤ t) (t2 : t < 60) (hc : pX2_count fl = iI t) (hx : pX2_x fl = iI x) (hy : pX2_y fl = iI y) (hh : pX2_head fl = iI hd) (rw_ : Int → Int → Int) : Wp (f_X2_note fl (iI tn) (iI g)) (fun r => FrN fl r ∧ (∀ j : Int, 0 ≤ j → j < 5 → pX2_rows r (t * 5 + j).toNat = iI (rwX rw_ t tn g x y hd t j)) ∧ ∀ j : Int, 0 ≤ j → j < t * 5 → pX2_rows r j.toNat = pX2_rows fl j.toNat) := by
  unfold f_X2_note
  simp (disch := omega) only [iLit, hc, iI_mul, iI_add, iI_lt, lt_e, iI_inB, gd_t, iI_cl, q2_rows_rows, q2_x_rows, q2_y_rows, q2_head_rows, hx, hy, hh]
  rw [if_neg (by omega)]
  refine wp_some ⟨((((((FrN.refl fl).s_rows _).s_rows _).s_rows _).s_rows _).s_rows _), fun j j1 j2 => ?_, fun j j1 j2 => ?_⟩
  · rw [q2_rows_rows, ai_upd (by omega) (by omega), ai_upd (by omega) (by omega), ai_upd (by omega) (by omega), ai_upd (by omega) (by omega), ai_upd (by omega) (by omega)]
    unfold rwX
    rw [if_pos rfl]
    by_cases h4 : j = 4
    · rw [if_pos (by omega), if_neg (by omega), if_neg (by omega), if_neg (by omega), if_neg (by omega)]
    · rw [if_neg (by omega)]
      by_cases h3 : j = 3
      · rw [if_pos (by omega), if_neg (by omega), if_neg (by omega), if_neg (by omega), if_pos h3]
      · rw [if_neg (by omega)]
        by_cases h2 : j = 2
        · rw [if_pos (by omega), if_neg (by omega), if_neg (by omega), if_pos h2]
        · rw [if_neg (by omega)]
          by_cases h1 : j = 1
          · rw [if_pos (by omega), if_neg (by omega), if_pos h1]
          · rw [if_neg (by omega), if_pos (by omega), if_pos (by omega)]
  · rw [q2_rows_rows, ai_upd (by omega) (by omega), ai_upd (by omega) (by omega), ai_upd (by omega) (by omega), ai_upd (by omega) (by omega), ai_upd (by omega) (by omega), if_neg (by omega), if_neg (by omega), if_neg (by omega), if_neg (by omega), if_neg (by omega)]
theorem go_bd {g d : Int} (h1 : 0 ≤ g) (h2 : g ≤ 16) (h3 : -16 ≤ d) (h4 : d ≤ 16) : -256 ≤ g * d ∧ g * d ≤ 256 := by
  have e1 : g * d ≤ g * 16 := Int.mul_le_mul_of_nonneg_left h4 h1
  have e2 : g * (-16) ≤ g * d := Int.mul_le_mul_of_nonneg_left h3 h1
  omega
/-- the class's end of a tick -/
theorem z_stepC {fl fl1 : BX2} {sg1 : BX7} {c c1 : BX6} {u : BX10} {ey : BX1} {v5 : BX8} {n : Nat} {code : Nat → Int32} {sg : BX7} {w h : Int} {A : Int → Int} {t x y hd o k tn g rs : Int} (hW : RWo u w h A) (hI : InW w h A) (t1 : 0 ≤ t) (t2 : t < 60) (hc : pX2_count fl = iI t) (hs : f_X3_sense fl () sg v5 ey u = some (fl1, sg1)) (fs : FrS fl fl1) (hr : f_X6_run n code fl1 c ey = some c1) (ho : pX2_over fl = iI o) (hk : pX6_over c1 = iI k) (hrs : pX6_rests c1 = iI rs) (rs01 : rs = 0 ∨ rs = 1) (htn : pX6_turn c1 = iI tn) (tn1 : -8 ≤ tn ∧ tn ≤ 8) (hg : pX6_go c1 = iI g) (g1 : 0 ≤ g ∧ g ≤ 16) (hx : pX2_x fl = iI x) (hy : pX2_y fl = iI y) (hh : pX2_head fl = iI hd) (x1 : -1000 ≤ x ∧ x ≤ 1000) (y1 : -1000 ≤ y ∧ y ≤ 1000) (h1 : 0 ≤ hd ∧ hd < 64) (rw_ : Int → Int → Int) :
    (rs = 1 → ∃ fl2 : BX2, f_X3_step n fl code () c sg v5 ey u = some (iI 0, fl2, c1, sg1) ∧ pX2_rested fl2 = iI 1 ∧ pX2_over fl2 = iI (o + k) ∧ pX2_count fl2 = iI t ∧ pX2_x fl2 = iI x ∧ pX2_y fl2 = iI y ∧ pX2_head fl2 = iI hd ∧ pX2_hit fl2 = pX2_hit fl ∧ pX2_begun fl2 = pX2_begun fl ∧ pX2_lenses fl2 = pX2_lenses fl ∧ pX2_pairs fl2 = pX2_pairs fl ∧ pX2_rows fl2 = pX2_rows fl ∧ pX2_takes fl2 = pX2_takes fl1) ∧
    (rs = 0 → ∃ fl2 : BX2, f_X3_step n fl code () c sg v5 ey u = some (iI 1, fl2, c1, sg1) ∧ pX2_rested fl2 = pX2_rested fl ∧ pX2_over fl2 = iI (o + k) ∧ pX2_count fl2 = iI (t + 1) ∧ pX2_x fl2 = iI (x + g * WX ((hd + tn) % 64) / 16) ∧ pX2_y fl2 = iI (y + g * WY ((hd + tn) % 64) / 16) ∧ pX2_head fl2 = iI ((hd + tn) % 64) ∧ (∀ [Decidable (sFree w h A (x + g * WX ((hd + tn) % 64) / 16) (y + g * WY ((hd + tn) % 64) / 16) (t + 1))], pX2_hit fl2 = iI (if sFree w h A (x + g * WX ((hd + tn) % 64) / 16) (y + g * WY ((hd + tn) % 64) / 16) (t + 1) then 0 else 1)) ∧ pX2_begun fl2 = pX2_begun fl ∧ pX2_lenses fl2 = pX2_lenses fl ∧ pX2_pairs fl2 = pX2_pairs fl ∧ (∀ j : Int, 0 ≤ j → j < 5 → pX2_rows fl2 (t * 5 + j).toNat = iI (rwX rw_ t tn g x y hd t j)) ∧ (∀ j : Int, 0 ≤ j → j < t * 5 → pX2_rows fl2 j.toNat = pX2_rows fl j.toNat) ∧ pX2_takes fl2 = pX2_takes fl1) := by
  have hst : f_X3_step n fl code () c sg v5 ey u = (g_lt (((pX2_over fl1) + (pX6_over c1)) : Int32) (fun x_6 => g_lt (sX2_over fl1 x_6) (fun v0_7 => if ((pX6_rests c1) : Int32) = 0 then ((f_X2_note v0_7 (pX6_turn c1) (pX6_go c1)).bind (fun r_9 => g_lt (((pX2_count r_9) + 1) : Int32) (fun x_10 => g_lt (sX2_count r_9 x_10) (fun v0_11 => g_lt ((((pX2_head v0_11) + (pX6_turn c1)) &&& 63) : Int32) (fun x_12 => g_lt (sX2_head v0_11 x_12) (fun v0_13 => g_gd (inB (pX2_head v0_13) 64) ((f_J9_floorDiv_7cf53 ((pX6_go c1) * (wyX ((pX2_head v0_13) : Int32).toNatClampNeg)) 16).bind (fun r_15 => g_lt (((pX2_x v0_13) + r_15) : Int32) (fun x_16 => g_lt (sX2_x v0_13 x_16) (fun v0_17 => g_gd (inB (pX2_head v0_17) 64) ((f_J9_floorDiv_7cf53 ((pX6_go c1) * (wyY ((pX2_head v0_17) : Int32).toNatClampNeg)) 16).bind (fun r_19 => g_lt (((pX2_y v0_17) + r_19) : Int32) (fun x_20 => g_lt (sX2_y v0_17 x_20) (fun v0_21 => (f_X10_isFree u (pX2_x v0_21) (pX2_y v0_21) (pX2_count v0_21)).bind (fun r_22 => if (r_22 : Int32) = 0 then (f_X3_step_b196 n code () v5 ey u 1 v0_21 c1 sg1) else (f_X3_step_b196 n code () v5 ey u 0 v0_21 c1 sg1)))))))))))))))) else (g_lt (sX2_rested v0_7 1) (fun v0_24 => some (0, v0_24, c1, sg1)))))) := by
    unfold f_X3_step
    rw [hc, if_pos (show iI t < (60 : Int32) from (iI_lt (b := 60) (by omega) (by omega) (by omega) (by omega)).mpr t2), hs, bind_s]
    dsimp only
    rw [hr, bind_s]
  rw [hst, hk, hrs, htn, hg, fs.over, ho]
  refine ⟨fun e => ?_, fun e => ?_⟩
  · rw [e]
    simp only [lt_e, iI_add]
    rw [if_neg (show ¬ iI 1 = (0 : Int32) by decide)]
    exact ⟨_, rfl, by rw [q2_rested_rested]; rfl, by rw [q2_over_rested, q2_over_over], by rw [q2_count_rested, q2_count_over, fs.count]; exact hc, by rw [q2_x_rested, q2_x_over, fs.x]; exact hx, by rw [q2_y_rested, q2_y_over, fs.y]; exact hy, by rw [q2_head_rested, q2_head_over, fs.head]; exact hh, by rw [q2_hit_rested, q2_hit_over, fs.hit], by rw [q2_begun_rested, q2_begun_over, fs.begun], by rw [q2_lenses_rested, q2_lenses_over, fs.lenses], by rw [q2_pairs_rested, q2_pairs_over, fs.pairs], by rw [q2_rows_rested, q2_rows_over, fs.rows], by rw [q2_takes_rested, q2_takes_over]⟩
  · rw [e]
    simp only [lt_e, iI_add]
    rw [if_pos (show iI 0 = (0 : Int32) from rfl)]
    have a1 := WX_bd (s := (hd + tn) % 64) (by omega) (by omega)
    have a2 := WY_bd (s := (hd + tn) % 64) (by omega) (by omega)
    have a3 := go_bd g1.1 g1.2 a1.1 a1.2
    have a4 := go_bd g1.1 g1.2 a2.1 a2.2
    obtain ⟨r9, f9, n1, n2, n3⟩ := z_note (fl := sX2_over fl1 (iI (o + k))) (tn := tn) (g := g) t1 t2 (by rw [q2_count_over, fs.count]; exact hc) (by rw [q2_x_over, fs.x]; exact hx) (by rw [q2_y_over, fs.y]; exact hy) (by rw [q2_head_over, fs.head]; exact hh) rw_
    have m1 : pX2_count r9 = iI t := by rw [n1.count, q2_count_over, fs.count]; exact hc
    have m2 : pX2_head r9 = iI hd := by rw [n1.head, q2_head_over, fs.head]; exact hh
    have m3 : pX2_x r9 = iI x := by rw [n1.x, q2_x_over, fs.x]; exact hx
    have m4 : pX2_y r9 = iI y := by rw [n1.y, q2_y_over, fs.y]; exact hy
    rw [f9, bind_s]
    simp (disch := omega) only [iLit, m1, m2, m3, m4, iI_add, iI_and63, q2_head_count, q2_head_head, q2_head_x, q2_x_head, q2_x_count, q2_y_x, q2_y_head, q2_y_count, q2_x_y, q2_x_x, q2_y_y, q2_count_y, q2_count_x, q2_count_head, q2_count_count, iI_inB, gd_t, iI_cl, wyX_t, wyY_t, iI_mul, z_floorDiv, bind_s]
    have cl : ∀ z : Int, (z = 0 ∨ z = 1) → f_X3_step_b196 n code () v5 ey u (iI z) (sX2_y (sX2_x (sX2_head (sX2_count r9 (iI (t + 1))) (iI ((hd + tn) % 64))) (iI (x + g * WX ((hd + tn) % 64) / 16))) (iI (y + g * WY ((hd + tn) % 64) / 16))) c1 sg1 = some (iI 1, sX2_hit (sX2_y (sX2_x (sX2_head (sX2_count r9 (iI (t + 1))) (iI ((hd + tn) % 64))) (iI (x + g * WX ((hd + tn) % 64) / 16))) (iI (y + g * WY ((hd + tn) % 64) / 16))) (iI z), c1, sg1) := by
      intro z hz
      unfold f_X3_step_b196
      rw [gd_t (by rcases hz with e | e <;> rw [e] <;> decide), lt_e]
      rfl
    have res : ∀ z : Int, (z = 0 ∨ z = 1) → ∀ fl2 : BX2, fl2 = sX2_hit (sX2_y (sX2_x (sX2_head (sX2_count r9 (iI (t + 1))) (iI ((hd + tn) % 64))) (iI (x + g * WX ((hd + tn) % 64) / 16))) (iI (y + g * WY ((hd + tn) % 64) / 16))) (iI z) → pX2_rested fl2 = pX2_rested fl ∧ pX2_over fl2 = iI (o + k) ∧ pX2_count fl2 = iI (t + 1) ∧ pX2_x fl2 = iI (x + g * WX ((hd + tn) % 64) / 16) ∧ pX2_y fl2 = iI (y + g * WY ((hd + tn) % 64) / 16) ∧ pX2_head fl2 = iI ((hd + tn) % 64) ∧ pX2_hit fl2 = iI z ∧ pX2_begun fl2 = pX2_begun fl ∧ pX2_lenses fl2 = pX2_lenses fl ∧ pX2_pairs fl2 = pX2_pairs fl ∧ pX2_rows fl2 = pX2_rows r9 ∧ pX2_takes fl2 = pX2_takes fl1 := by
      intro z _ fl2 e2
      rw [e2]
      exact ⟨by rw [q2_rested_hit, q2_rested_y, q2_rested_x, q2_rested_head, q2_rested_count, n1.rested, q2_rested_over, fs.rested], by rw [q2_over_hit, q2_over_y, q2_over_x, q2_over_head, q2_over_count, n1.over, q2_over_over], by rw [q2_count_hit, q2_count_y, q2_count_x, q2_count_head, q2_count_count], by rw [q2_x_hit, q2_x_y, q2_x_x], by rw [q2_y_hit, q2_y_y], by rw [q2_head_hit, q2_head_y, q2_head_x, q2_head_head], by rw [q2_hit_hit], by rw [q2_begun_hit, q2_begun_y, q2_begun_x, q2_begun_head, q2_begun_count, n1.begun, q2_begun_over, fs.begun], by rw [q2_lenses_hit, q2_lenses_y, q2_lenses_x, q2_lenses_head, q2_lenses_count, n1.lenses, q2_lenses_over, fs.lenses], by rw [q2_pairs_hit, q2_pairs_y, q2_pairs_x, q2_pairs_head, q2_pairs_count, n1.pairs, q2_pairs_over, fs.pairs], by rw [q2_rows_hit, q2_rows_y, q2_rows_x, q2_rows_head, q2_rows_count], by rw [q2_takes_hit, q2_takes_y, q2_takes_x, q2_takes_head, q2_takes_count, n1.takes, q2_takes_over]⟩
    have hdec : Decidable (sFree w h A (x + g * WX ((hd + tn) % 64) / 16) (y + g * WY ((hd + tn) % 64) / 16) (t + 1)) := Classical.propDecidable _
    rw [z_isFree (x := x + g * WX ((hd + tn) % 64) / 16) (y := y + g * WY ((hd + tn) % 64) / 16) (t := t + 1) hW hI (by omega) (by omega) (by omega) (by omega) (by omega) (by omega), bind_s]
    by_cases hf : sFree w h A (x + g * WX ((hd + tn) % 64) / 16) (y + g * WY ((hd + tn) % 64) / 16) (t + 1)
    · obtain ⟨b1, b2, b3, b4, b5, b6, b7, b8, b9, b10, b11, b12⟩ := res 0 (Or.inl rfl) _ rfl
      rw [bI_t hf, if_neg (show ¬ (1 : Int32) = iI 0 by decide), cl 0 (Or.inl rfl)]
      refine ⟨_, rfl, b1, b2, b3, b4, b5, b6, ?_, b8, b9, b10, ?_, ?_, b12⟩
      · intro _
        rw [if_pos hf]
      · intro j j1 j2
        rw [b11]
        exact n2 j j1 j2
      · intro j j1 j2
        rw [b11, n3 j j1 j2, q2_rows_over, fs.rows]
    · obtain ⟨b1, b2, b3, b4, b5, b6, b7, b8, b9, b10, b11, b12⟩ := res 1 (Or.inr rfl) _ rfl
      rw [bI_f hf, if_pos (show (0 : Int32) = iI 0 from rfl), cl 1 (Or.inr rfl)]
      refine ⟨_, rfl, b1, b2, b3, b4, b5, b6, ?_, b8, b9, b10, ?_, ?_, b12⟩
      · intro _
        rw [if_neg hf]
      · intro j j1 j2
        rw [b11]
        exact n2 j j1 j2
      · intro j j1 j2
        rw [b11, n3 j j1 j2, q2_rows_over, fs.rows]
