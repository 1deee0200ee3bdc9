-- layer 2: a tick, both sides
theorem sPair_o {A : Int → Int} {tk : Int → Int → Int} {t s p : Int} {g : Int → Int} (hE : InE A) (p1 : 0 ≤ p) (p2 : p < A 2) (hs : s < t) : sPair A (tkX tk t g) p s = sPair A tk p s := by
  have hq := hE.2.2.2 p p1 p2
  unfold sPair
  rw [tkX_o (by omega), tkX_o (by omega), tkX_o (by omega), tkX_o (by omega)]
theorem z_senseAll {fl : BX2} {sg : BX7} {v5 : BX8} {ey : BX1} {u : BX10} {w h : Int} {A : Int → Int} (hV : REy ey A) (hE : InE A) (hW : RWo u w h A) (hI : InW w h A) {x y t hd : Int} (hx : 0 ≤ x ∧ x < 16 * w) (hy : 0 ≤ y ∧ y < 16 * h) (ht : 0 ≤ t) (ht2 : t < 60) (hh : 0 ≤ hd) (hh2 : hd < 64) (e1 : pX2_count fl = iI t) (e2 : pX2_x fl = iI x) (e3 : pX2_y fl = iI y) (e4 : pX2_head fl = iI hd) (hn : pX7_n sg = (w * h).toNat) : Wp (f_X3_sense fl () sg v5 ey u) (fun r => FrS fl r.1 ∧ (∀ j : Int, 0 ≤ j → j < A 1 → pX2_takes r.1 (t * 16 + j).toNat = iI (sTg w h A x y t hd j)) ∧ (∀ j : Int, 0 ≤ j → j < t * 16 → pX2_takes r.1 j.toNat = pX2_takes fl j.toNat) ∧ SG r.2 w h A x y t) := by
  have h3 := hE.1
  unfold f_X3_sense
  simp only [iLit, e1, e2, e3, iI_mul, lt_e]
  refine wp_bind (wp_mono (z_lookC (v := sg) (x := x) (y := y) hW hI hn ht (by omega)) (fun q hq => ?_))
  exact z_sense hV hE hW hI hx hy ht ht2 hh hh2 e4 (A 1).toNat 0 fl q (FrS.refl fl) hq (by omega) (by omega) (fun j j1 j2 => by omega) (fun j j1 j2 => rfl) fU (by rw [fU_v]; omega)
theorem z_tick {n : Nat} {code : Nat → Int32} {fl : BX2} {ey : BX1} {c : BX6} {sg : BX7} {u : BX10} {v5 : BX8} {m : BX12} {w h : Int} {A : Int → Int} {tk rw_ : Int → Int → Int} {t x y hd B r nn : Int} (hM : MW m w h A) (hI : InW w h A) (hE : InE A) (hW : RWo u w h A) (hV : REy ey A) (hn : pX7_n sg = (w * h).toNat) (hB : 7 ≤ B) (hB2 : B ≤ 1000000) (hb : pX6_bound c = iI B) (hb2 : pX12_bound m = lI B) (r1 : 0 ≤ r) (r2 : r < 8) (hR : RO n code (pX12_texts m) r) (hF : FI w h fl m A tk rw_ t x y hd 0 0) (tn1 : t < nn) (nn60 : nn ≤ 60) :
    ∃ (fl4 : BX2) (sg4 : BX7) (fl' : BX2) (c' : BX6) (rs' t' x' y' hd' ht' : Int) (tk' rw' : Int → Int → Int), f_X3_sense fl () sg v5 ey u = some (fl4, sg4) ∧ f_X6_run n code fl4 c ey = some c' ∧ f_X3_step n fl code () c sg v5 ey u = some (iI (1 - rs'), fl', c', sg4) ∧ pX6_bound c' = iI B ∧ pX7_n sg4 = (w * h).toNat ∧ (rs' = 0 ∨ rs' = 1) ∧ (rs' = 1 → t' = t) ∧ (rs' = 0 → t' = t + 1) ∧ pX6_rests c' = iI rs' ∧ (rs' = 0 → pX6_turn c' = iI (rw' t 0)) ∧ (∀ s j : Int, s < t → rw' s j = rw_ s j) ∧
      ∀ (J : Int32 × Int32 × BX12 → Option BX12) (Q : BX12 → Prop), (rs' = 1 → ∀ m', FrR m m' → FI w h fl' m' A tk' rw' t' x' y' hd' ht' 1 → Q m') → (rs' = 0 → ∀ m', FrR m m' → FI w h fl' m' A tk' rw' t' x' y' hd' ht' 0 → Wp (J (iI r, iI nn, m')) Q) → Wp (f_X12_run_b36B J (iI r) (iI nn) m) Q := by
  obtain ⟨⟨t1, t60⟩, ⟨a1, a2⟩, ⟨a3, a4, a5⟩, ⟨a6, a7, a8⟩, ⟨a9, a10, a11⟩, ⟨a12, a13, _⟩, ⟨a14, a15, _⟩, ⟨o, a16, a17⟩, ⟨a18, a19, a20⟩, hrow, htk, hrw0, hpl⟩ := hF
  have hp := hpl rfl
  have h3 := hE.1
  have h4 := hE.2.1
  have hw4 := hI.1
  obtain ⟨⟨fl4, sg4⟩, fs, fs1, fs2, fs3, fs4⟩ := z_senseAll (v5 := v5) hV hE hW hI hp.1 hp.2 t1 (by omega) a11.1 a11.2 a1 a3 a6 a9 hn
  dsimp only at fs1 fs2 fs3 fs4
  -- the reference sees
  have fr1 : FrR m (sX12_now m (iI t)) := (FrR.refl m).s_now _
  obtain ⟨m8, s1, s2, s3, s4, s5, s6⟩ := z_see (m := sX12_now m (iI t)) (tk := tk) (fr1.mw hM) hE hI t1 (show t < 60 by omega) a11.1 a11.2 (by rw [q12_atX_now]; exact a4) (by rw [q12_atY_now]; exact a7) (by rw [q12_heading_now]; exact a10) (by rw [q12_now_now]) hp.1 hp.2 (fun s z1 z2 k k1 k2 => by rw [q12_rows_now]; exact ((hrow s z1 z2).2.1 k k1 k2).2)
  obtain ⟨b1, b2, b3, b4, b5, b6, b7, b8⟩ := s3
  rw [q12_heading_now] at b1
  rw [q12_now_now] at b2
  rw [q12_ticks_now] at b3
  rw [q12_atX_now] at b4
  rw [q12_atY_now] at b5
  rw [q12_hit_now] at b6
  rw [q12_rested_now] at b7
  rw [q12_over_now] at b8
  rw [q12_rows_now] at s6
  have fr8 : FrR m m8 := fr1.trans s2
  have hEV : EV fl4 ey m8 A (tkX tk t (sTg w h A x y t hd)) t := by
    refine ⟨by omega, hE, hV, by rw [fr8.a]; exact hM.2.2, ⟨fs1.count.trans a1, fs1.lenses.trans a19, fs1.pairs.trans a20⟩, fun s z1 z2 k k1 k2 => ?_, fun s k => ?_, b2, fun k k1 k2 => by rw [tkX_n k1 (by omega)]; exact s4 k k1 k2, s5⟩
    · by_cases hs : s = t
      · rw [hs, tkX_n k1 (by omega)]
        exact fs2 k k1 k2
      · rw [tkX_o hs, fs3 _ (by omega) (by omega)]
        exact ((hrow s z1 (by omega)).2.1 k k1 k2).1
    · unfold tkX
      split
      · rename_i hc
        have hk := hE.2.2.1 k hc.2.1 hc.2.2
        exact sTake_255 (sT_bd hI x y t) hk.2.1 hk.2.2
      · exact htk s k
  obtain ⟨c', m9, rs', z1, z2, z3, z4, z5⟩ := z_runner hEV hB hB2 hb (fr8.bound.trans hb2) (b8.trans a17) r1 r2 (by rw [fr8.texts]; exact hR)
  obtain ⟨⟨k, y1, y2⟩, ⟨tn, y3, y4, y5⟩, ⟨g, y6, y7, y8⟩, y9, y10⟩ := z3
  have cls := z_stepC (sg1 := sg4) (v5 := v5) hW hI t1 (show t < 60 by omega) a1 fs fs1 z1 a16 y1 y10 y9 y4 y3 y7 y6 a3 a6 a9 (by omega) (by omega) a11 rw_
  have fr9 : FrR m m9 := fr8.trans z5.toR
  have oldm : ∀ m' : BX12, (∀ j : Int, 0 ≤ j → j < 38 * t → pX12_rows m' j.toNat = pX12_rows m9 j.toNat) → ∀ j : Int, 0 ≤ j → j < 38 * t → pX12_rows m' j.toNat = pX12_rows m j.toNat := by
    intro m' hm j j1 j2
    rw [hm j j1 j2, z5.rows, s6 j j1 j2]
  -- the body of the reference up to its rest
  have body : ∀ (J : Int32 × Int32 × BX12 → Option BX12), f_X12_run_b36B J (iI r) (iI nn) m = (if (pX12_rested (sX12_rested m9 (iI rs')) : Int32) = 0 then (g_lt (((38 : Int32) * (pX12_now (sX12_rested m9 (iI rs')))) : Int32) (fun x6_13 => g_lt ((pX12_turn (sX12_rested m9 (iI rs'))) : Int32) (fun x_14 => g_gd (inB x6_13 2280) (g_lt (sX12_rows (sX12_rested m9 (iI rs')) (upd (pX12_rows (sX12_rested m9 (iI rs'))) (x6_13 : Int32).toNatClampNeg x_14)) (fun v0_16 => g_lt ((pX12_go v0_16) : Int32) (fun x_17 => g_gd (inB (x6_13 + 1) 2280) (g_lt (sX12_rows v0_16 (upd (pX12_rows v0_16) ((x6_13 + 1) : Int32).toNatClampNeg x_17)) (fun v0_19 => g_lt ((pX12_atX v0_19) : Int32) (fun x_20 => g_gd (inB (x6_13 + 2) 2280) (g_lt (sX12_rows v0_19 (upd (pX12_rows v0_19) ((x6_13 + 2) : Int32).toNatClampNeg x_20)) (fun v0_22 => g_lt ((pX12_atY v0_22) : Int32) (fun x_23 => g_gd (inB (x6_13 + 3) 2280) (g_lt (sX12_rows v0_22 (upd (pX12_rows v0_22) ((x6_13 + 3) : Int32).toNatClampNeg x_23)) (fun v0_25 => g_lt ((pX12_heading v0_25) : Int32) (fun x_26 => g_gd (inB (x6_13 + 4) 2280) (g_lt (sX12_rows v0_25 (upd (pX12_rows v0_25) ((x6_13 + 4) : Int32).toNatClampNeg x_26)) (fun v0_28 => g_lt (((((pX12_heading v0_28) + (pX12_turn v0_28)) + 64) - (((pX12_heading v0_28) + (pX12_turn v0_28)) + 64) / 64 * 64) : Int32) (fun x_30 => g_lt (sX12_heading v0_28 x_30) (fun v0_31 => (f_X12_wayX (pX12_heading v0_31)).bind (fun r_32 => (f_X12_floor ((pX12_go v0_31) * r_32) 16).bind (fun r_33 => g_lt (((pX12_atX v0_31) + r_33) : Int32) (fun x_34 => g_lt (sX12_atX v0_31 x_34) (fun v0_35 => (f_X12_wayY (pX12_heading v0_35)).bind (fun r_36 => (f_X12_floor ((pX12_go v0_35) * r_36) 16).bind (fun r_37 => g_lt (((pX12_atY v0_35) + r_37) : Int32) (fun x_38 => g_lt (sX12_atY v0_35 x_38) (fun v0_39 => g_lt (((pX12_ticks v0_39) + 1) : Int32) (fun x_40 => g_lt (sX12_ticks v0_39 x_40) (fun v0_41 => (f_X12_isPlace v0_41 (pX12_atX v0_41) (pX12_atY v0_41)).bind (fun r_42 => if (r_42 : Int32) = 0 then (f_X12_run_b288 J (iI r) (iI nn) v0_41) else ((f_X12_markAt v0_41 ((((pX12_atY v0_41) / 16) * (pX12_w v0_41)) + ((pX12_atX v0_41) / 16)) (pX12_ticks v0_41)).bind (fun r_46 => if (r_46 : Int32) ≤ 0 then (f_X12_run_b293 J (iI r) (iI nn) 0 v0_41) else (f_X12_run_b288 J (iI r) (iI nn) v0_41))))))))))))))))))))))))))))))))) else (some (sX12_rested m9 (iI rs')))) := by
    intro J
    unfold f_X12_run_b36B
    rw [a2, if_neg (show ¬ iI nn ≤ iI t by rw [iI_le (by omega) (by omega) (by omega) (by omega)]; omega), a13, if_pos (show iI 0 = (0 : Int32) from rfl), a15, if_pos (show iI 0 = (0 : Int32) from rfl), lt_e, lt_e, s1, bind_s, z2, bind_s]
    dsimp only
    rw [gd_t (by rcases y9 with e | e <;> rw [e] <;> decide), lt_e]
  rcases y9 with e | e
  · -- it goes on
    obtain ⟨fl2, c1, c2, c3, c4, c5, c6, c7, c8, c9, c10, c11, c12, c13, c14⟩ := cls.2 e
    have hdec : Decidable (sFree w h A (x + g * WX ((hd + tn) % 64) / 16) (y + g * WY ((hd + tn) % 64) / 16) (t + 1)) := Classical.propDecidable _
    have aw1 := WX_bd (s := (hd + tn) % 64) (by omega) (by omega)
    have aw2 := WY_bd (s := (hd + tn) % 64) (by omega) (by omega)
    have aw3 := go_bd y6.1 y6.2 aw1.1 aw1.2
    have aw4 := go_bd y6.1 y6.2 aw2.1 aw2.2
    refine ⟨fl4, sg4, fl2, c', 0, t + 1, x + g * WX ((hd + tn) % 64) / 16, y + g * WY ((hd + tn) % 64) / 16, (hd + tn) % 64, (if sFree w h A (x + g * WX ((hd + tn) % 64) / 16) (y + g * WY ((hd + tn) % 64) / 16) (t + 1) then 0 else 1), tkX tk t (sTg w h A x y t hd), rwX rw_ t tn g x y hd, fs, z1, c1, z4, fs4.1, Or.inl rfl, fun e0 => absurd e0 (by omega), fun _ => rfl, by rw [y10, e], fun _ => ?_, fun s j hs => rwX_o (by omega), fun J Q _ hQ => ?_⟩
    · rw [y4]
      unfold rwX
      rw [if_pos rfl, if_pos rfl]
    · rw [body J, e, q12_rested_rested, if_pos (show iI 0 = (0 : Int32) from rfl)]
      have frz : FrR m (sX12_rested m9 (iI 0)) := fr9.s_rested _
      refine z_runM (w := w) (h := h) (A := A) (frz.mw hM) hI t1 (show t < 60 by omega) (by rw [q12_now_rested, z5.now]; exact b2) (by rw [q12_turn_rested]; exact y5) y3 (by rw [q12_go_rested]; exact y8) y6 (by rw [q12_atX_rested, z5.atX, b4]; exact a4) (by rw [q12_atY_rested, z5.atY, b5]; exact a7) (by rw [q12_heading_rested, z5.heading, b1]; exact a10) (by omega) (by omega) a11 (by rw [q12_ticks_rested, z5.ticks, b3]; exact a2) rw_ (fun m' d1 d2 d3 d4 d5 d6 d7 d8 d9 d10 => ?_)
      rw [q12_rested_rested] at d7
      rw [q12_over_rested, y2] at d8
      rw [q12_rows_rested] at d10
      have oldr : ∀ j : Int, 0 ≤ j → j < 38 * t → pX12_rows m' j.toNat = pX12_rows m j.toNat := oldm m' (fun j j1 j2 => d10 j j1 (Or.inl j2))
      refine hQ rfl m' (frz.trans d1) ⟨by omega, ⟨c4, d2⟩, ⟨c5, d3, by omega, by omega⟩, ⟨c6, d4, by omega, by omega⟩, ⟨c7, d5, by omega, by omega⟩, ⟨c8, d6, by split <;> omega⟩, ⟨c2.trans a14, d7, Or.inl rfl⟩, ⟨o + k, c3, d8⟩, ⟨c9.trans a18, c10.trans a19, c11.trans a20⟩, fun s p1 p2 => ?_, hEV.2.2.2.2.2.2.1, fun s p1 p2 => ?_, fun e0 => ?_⟩
      · by_cases hs : s = t
        · subst hs
          refine ⟨fun j j1 j2 => ⟨c12 j j1 j2, d9 j j1 j2⟩, fun j j1 j2 => ⟨?_, ?_⟩, fun p q1 q2 => ?_⟩
          · rw [c14, tkX_n j1 (by omega)]
            exact fs2 j j1 j2
          · rw [d10 _ (by omega) (by omega), z5.rows, tkX_n j1 (by omega)]
            exact s4 j j1 j2
          · rw [d10 _ (by omega) (by omega), z5.rows]
            exact s5 p q1 q2
        · obtain ⟨u1, u2, u3⟩ := hrow s p1 (by omega)
          refine ⟨fun j j1 j2 => ?_, fun j j1 j2 => ⟨?_, ?_⟩, fun p q1 q2 => ?_⟩
          · rw [rwX_o hs, c13 _ (by omega) (by omega), oldr _ (by omega) (by omega)]
            exact u1 j j1 j2
          · rw [c14, tkX_o hs, fs3 _ (by omega) (by omega)]
            exact (u2 j j1 j2).1
          · rw [tkX_o hs, oldr _ (by omega) (by omega)]
            exact (u2 j j1 j2).2
          · rw [sPair_o hE q1 q2 (show s < t by omega), oldr _ (by omega) (by omega)]
            exact u3 p q1 q2
      · by_cases hs : s = t
        · subst hs
          unfold rwX
          rw [if_pos rfl, if_pos rfl]
          exact y3
        · rw [rwX_o hs]
          exact hrw0 s p1 (by omega)
      · by_cases hf : sFree w h A (x + g * WX ((hd + tn) % 64) / 16) (y + g * WY ((hd + tn) % 64) / 16) (t + 1)
        · exact hf.1
        · rw [if_neg hf] at e0
          omega
  · -- it rests
    obtain ⟨fl2, c1, c2, c3, c4, c5, c6, c7, c8, c9, c10, c11, c12, c13⟩ := cls.1 e
    refine ⟨fl4, sg4, fl2, c', 1, t, x, y, hd, 0, tk, rw_, fs, z1, c1, z4, fs4.1, Or.inr rfl, fun _ => rfl, fun e0 => absurd e0 (by omega), by rw [y10, e], fun e0 => absurd e0 (by omega), fun s j hs => rfl, fun J Q hQ _ => ?_⟩
    rw [body J, e, q12_rested_rested, if_neg (show ¬ iI 1 = (0 : Int32) by decide)]
    have oldr : ∀ j : Int, 0 ≤ j → j < 38 * t → pX12_rows (sX12_rested m9 (iI 1)) j.toNat = pX12_rows m j.toNat := oldm _ (fun j j1 j2 => by rw [q12_rows_rested])
    refine wp_some (hQ rfl _ (fr9.s_rested _) ⟨by omega, ⟨c4, by rw [q12_ticks_rested, z5.ticks, b3]; exact a2⟩, ⟨c5, by rw [q12_atX_rested, z5.atX, b4]; exact a4, a5⟩, ⟨c6, by rw [q12_atY_rested, z5.atY, b5]; exact a7, a8⟩, ⟨c7, by rw [q12_heading_rested, z5.heading, b1]; exact a10, a11⟩, ⟨c8.trans a12, by rw [q12_hit_rested, z5.hit, b6]; exact a13, Or.inl rfl⟩, ⟨c2, by rw [q12_rested_rested], Or.inr rfl⟩, ⟨o + k, c3, by rw [q12_over_rested]; exact y2⟩, ⟨c9.trans a18, c10.trans a19, c11.trans a20⟩, fun s p1 p2 => ?_, htk, hrw0, fun _ => hp⟩)
    obtain ⟨u1, u2, u3⟩ := hrow s p1 p2
    refine ⟨fun j j1 j2 => ?_, fun j j1 j2 => ⟨?_, ?_⟩, fun p q1 q2 => ?_⟩
    · rw [c12, oldr _ (by omega) (by omega)]
      exact u1 j j1 j2
    · rw [c13, fs3 _ (by omega) (by omega)]
      exact (u2 j j1 j2).1
    · rw [oldr _ (by omega) (by omega)]
      exact (u2 j j1 j2).2
    · rw [oldr _ (by omega) (by omega)]
      exact u3 p q1 q2
