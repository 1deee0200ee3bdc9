-- layer 2: a flight, both sides
theorem z_goOn {n : Nat} {code : Nat → Int32} {ey : BX1} {u : BX10} {v5 : BX8} {w h : Int} {A : Int → Int} {B r nn : Int} (hI : InW w h A) (hE : InE A) (hW : RWo u w h A) (hV : REy ey A) (hB : 7 ≤ B) (hB2 : B ≤ 1000000) (r1 : 0 ≤ r) (r2 : r < 8) (nn60 : nn ≤ 60) : ∀ (k : Nat) (t : Int) (fl : BX2) (c : BX6) (sg : BX7) (m : BX12) (tk rw_ : Int → Int → Int) (x y hd ht rs : Int), FI w h fl m A tk rw_ t x y hd ht rs → (k : Int) + t = nn → MW m w h A → RO n code (pX12_texts m) r → pX6_bound c = iI B → pX12_bound m = lI B → pX7_n sg = (w * h).toNat →
    ∃ R : BX2 × BX6 × BX7, (∀ F, k < F → f_X3_goOn_b3 n code () v5 ey u F (iI nn, iI t, fl, c, sg) = some R) ∧ pX6_bound R.2.1 = iI B ∧ pX7_n R.2.2 = (w * h).toNat ∧ ∀ F, k < F → Wp (f_X12_run_b36 F (iI r, iI nn, m)) (fun m' => FrR m m' ∧ ∃ (t' x' y' hd' ht' rs' : Int) (tk' rw' : Int → Int → Int), FI w h R.1 m' A tk' rw' t' x' y' hd' ht' rs' ∧ (t ≤ t' ∧ t' ≤ nn) ∧ (t' < nn → ht' = 1 ∨ rs' = 1) ∧ ∀ s j : Int, s < t → rw' s j = rw_ s j) := by
  intro k
  induction k with
  | zero =>
    intro t fl c sg m tk rw_ x y hd ht rs hF hk hM hR hb hb2 hn
    have hF' := hF
    obtain ⟨⟨t1, t60⟩, ⟨a1, a2⟩, _⟩ := hF'
    refine ⟨(fl, c, sg), fun F hFl => ?_, hb, hn, fun F hFl => ?_⟩
    · obtain ⟨F, rfl⟩ : ∃ F', F = F' + 1 := ⟨F - 1, by omega⟩
      show f_X3_goOn_b3B n code () v5 ey u (f_X3_goOn_b3 n code () v5 ey u F) (iI nn) (iI t) fl c sg = _
      unfold f_X3_goOn_b3B
      rw [if_pos (by rw [iI_le (by omega) (by omega) (by omega) (by omega)]; omega)]
    · obtain ⟨F, rfl⟩ : ∃ F', F = F' + 1 := ⟨F - 1, by omega⟩
      show Wp (f_X12_run_b36B (f_X12_run_b36 F) (iI r) (iI nn) m) _
      unfold f_X12_run_b36B
      rw [a2, if_pos (by rw [iI_le (by omega) (by omega) (by omega) (by omega)]; omega)]
      exact wp_some ⟨FrR.refl m, t, x, y, hd, ht, rs, tk, rw_, hF, by omega, fun e => by omega, fun s j _ => rfl⟩
  | succ k ih =>
    intro t fl c sg m tk rw_ x y hd ht rs hF hk hM hR hb hb2 hn
    have hF' := hF
    obtain ⟨⟨t1, t60⟩, ⟨a1, a2⟩, _, _, _, ⟨b1, b2, b3⟩, ⟨b4, b5, b6⟩, _⟩ := hF'
    by_cases hstop : ht = 1 ∨ rs = 1
    · refine ⟨(fl, c, sg), fun F hFl => ?_, hb, hn, fun F hFl => ?_⟩
      · obtain ⟨F, rfl⟩ : ∃ F', F = F' + 1 := ⟨F - 1, by omega⟩
        show f_X3_goOn_b3B n code () v5 ey u (f_X3_goOn_b3 n code () v5 ey u F) (iI nn) (iI t) fl c sg = _
        unfold f_X3_goOn_b3B
        rw [if_neg (by rw [iI_le (by omega) (by omega) (by omega) (by omega)]; omega), b1, b4]
        rcases hstop with e | e
        · rw [e, if_neg (show ¬ iI 1 = (0 : Int32) by decide)]
        · rw [e, if_neg (show ¬ iI 1 = (0 : Int32) by decide)]
          split <;> rfl
      · obtain ⟨F, rfl⟩ : ∃ F', F = F' + 1 := ⟨F - 1, by omega⟩
        show Wp (f_X12_run_b36B (f_X12_run_b36 F) (iI r) (iI nn) m) _
        have fin : Wp (some m) (fun m' => FrR m m' ∧ ∃ (t' x' y' hd' ht' rs' : Int) (tk' rw' : Int → Int → Int), FI w h fl m' A tk' rw' t' x' y' hd' ht' rs' ∧ (t ≤ t' ∧ t' ≤ nn) ∧ (t' < nn → ht' = 1 ∨ rs' = 1) ∧ ∀ s j : Int, s < t → rw' s j = rw_ s j) := wp_some ⟨FrR.refl m, t, x, y, hd, ht, rs, tk, rw_, hF, by omega, fun _ => hstop, fun s j _ => rfl⟩
        unfold f_X12_run_b36B
        rw [a2, if_neg (by rw [iI_le (by omega) (by omega) (by omega) (by omega)]; omega), b2, b5]
        rcases hstop with e | e
        · rw [e, if_neg (show ¬ iI 1 = (0 : Int32) by decide)]
          exact fin
        · rw [e, if_neg (show ¬ iI 1 = (0 : Int32) by decide)]
          by_cases h0 : iI ht = (0 : Int32)
          · rw [if_pos h0]
            exact fin
          · rw [if_neg h0]
            exact fin
    · have e0 : ht = 0 := by omega
      have e1 : rs = 0 := by omega
      subst e0 e1
      obtain ⟨fl4, sg4, fl1, c1, rs1, t', x', y', hd', ht', tk1, rw1, g1, g2, g3, g4, g5, g6, g7, g8, g9, g10, g11, g12⟩ := z_tick (v5 := v5) (nn := nn) hM hI hE hW hV hn hB hB2 hb hb2 r1 r2 hR hF (by omega) nn60
      have cls : ∀ F, f_X3_goOn_b3 n code () v5 ey u (F + 1) (iI nn, iI t, fl, c, sg) = f_X3_goOn_b3 n code () v5 ey u F (iI nn, iI (t + 1), fl1, c1, sg4) := by
        intro F
        show f_X3_goOn_b3B n code () v5 ey u (f_X3_goOn_b3 n code () v5 ey u F) (iI nn) (iI t) fl c sg = _
        unfold f_X3_goOn_b3B
        rw [if_neg (by rw [iI_le (by omega) (by omega) (by omega) (by omega)]; omega), b1, b4, if_pos (show iI 0 = (0 : Int32) from rfl), if_pos (show iI 0 = (0 : Int32) from rfl), g3, bind_s, lt_e, show (1 : Int32) = iI 1 from rfl, iI_add]
      rcases g6 with e | e
      · -- it went on
        have et := g8 e
        subst et
        obtain ⟨ma, fa, faR, faF⟩ := g12 (fun z => some z.2.2) (fun m' => FrR m m' ∧ FI w h fl1 m' A tk1 rw1 (t + 1) x' y' hd' ht' 0) (fun e1 => by omega) (fun _ m' q1 q2 => wp_some ⟨q1, q2⟩)
        obtain ⟨R, i1, i2, i3, _⟩ := ih (t + 1) fl1 c1 sg4 ma tk1 rw1 x' y' hd' ht' 0 faF (by omega) (faR.mw hM) (by rw [faR.texts]; exact hR) g4 (by rw [faR.bound]; exact hb2) g5
        refine ⟨R, fun F hFl => ?_, i2, i3, fun F hFl => ?_⟩
        · obtain ⟨F, rfl⟩ : ∃ F', F = F' + 1 := ⟨F - 1, by omega⟩
          rw [cls]
          exact i1 F (by omega)
        · obtain ⟨F, rfl⟩ : ∃ F', F = F' + 1 := ⟨F - 1, by omega⟩
          show Wp (f_X12_run_b36B (f_X12_run_b36 F) (iI r) (iI nn) m) _
          refine g12 (f_X12_run_b36 F) _ (fun e1 => by omega) (fun _ m' q1 q2 => ?_)
          obtain ⟨R', j1, _, _, j4⟩ := ih (t + 1) fl1 c1 sg4 m' tk1 rw1 x' y' hd' ht' 0 q2 (by omega) (q1.mw hM) (by rw [q1.texts]; exact hR) g4 (by rw [q1.bound]; exact hb2) g5
          have eR : R' = R := Option.some.inj ((j1 (k + 1) (by omega)).symm.trans (i1 (k + 1) (by omega)))
          subst eR
          refine wp_mono (j4 F (by omega)) (fun m2 hm2 => ?_)
          obtain ⟨z1, t2, x2, y2, hd2, ht2, rs2, tk2, rw2, z2, z3, z4, z5⟩ := hm2
          exact ⟨q1.trans z1, t2, x2, y2, hd2, ht2, rs2, tk2, rw2, z2, by omega, z4, fun s j hs => (z5 s j (by omega)).trans (g11 s j hs)⟩
      · -- it rests
        have et := g7 e
        subst et
        refine ⟨(fl1, c1, sg4), fun F hFl => ?_, g4, g5, fun F hFl => ?_⟩
        · obtain ⟨F, rfl⟩ : ∃ F', F = F' + 1 := ⟨F - 1, by omega⟩
          obtain ⟨ma, fa, faR, faF⟩ := g12 (fun z => some z.2.2) (fun m' => FrR m m' ∧ FI w h fl1 m' A tk1 rw1 t' x' y' hd' ht' 1) (fun _ m' q1 q2 => ⟨q1, q2⟩) (fun e1 => by omega)
          obtain ⟨_, _, _, _, _, _, ⟨d4, d5, d6⟩, _⟩ := faF
          obtain ⟨F, rfl⟩ : ∃ F', F = F' + 1 := ⟨F - 1, by omega⟩
          rw [cls]
          show f_X3_goOn_b3B n code () v5 ey u (f_X3_goOn_b3 n code () v5 ey u F) (iI nn) (iI (t' + 1)) fl1 c1 sg4 = _
          unfold f_X3_goOn_b3B
          rw [d4, if_neg (show ¬ iI 1 = (0 : Int32) by decide)]
          split
          · rfl
          · split <;> rfl
        · obtain ⟨F, rfl⟩ : ∃ F', F = F' + 1 := ⟨F - 1, by omega⟩
          show Wp (f_X12_run_b36B (f_X12_run_b36 F) (iI r) (iI nn) m) _
          refine g12 (f_X12_run_b36 F) _ (fun _ m' q1 q2 => ⟨q1, t', x', y', hd', ht', 1, tk1, rw1, q2, by omega, fun _ => Or.inr rfl, g11⟩) (fun e1 => by omega)
/-- a flight begins -/
theorem z_begin (fl : BX2) (v2 : BX8) (ey : BX1) (x y hd : Int32) : Wp (f_X3_begin fl () v2 ey x y hd) (fun r => pX2_begun r = iI 1 ∧ pX2_hit r = iI 0 ∧ pX2_rested r = iI 0 ∧ pX2_count r = iI 0 ∧ pX2_over r = iI 0 ∧ pX2_x r = x ∧ pX2_y r = y ∧ pX2_head r = hd ∧ pX2_lenses r = pX1_lenses ey ∧ pX2_pairs r = pX1_pairs ey) := by
  unfold f_X3_begin
  simp only [lt_e]
  exact wp_some ⟨by rw [q2_begun_pairs, q2_begun_lenses, q2_begun_head, q2_begun_y, q2_begun_x, q2_begun_over, q2_begun_count, q2_begun_rested, q2_begun_hit, q2_begun_begun]; rfl, by rw [q2_hit_pairs, q2_hit_lenses, q2_hit_head, q2_hit_y, q2_hit_x, q2_hit_over, q2_hit_count, q2_hit_rested, q2_hit_hit]; rfl, by rw [q2_rested_pairs, q2_rested_lenses, q2_rested_head, q2_rested_y, q2_rested_x, q2_rested_over, q2_rested_count, q2_rested_rested]; rfl, by rw [q2_count_pairs, q2_count_lenses, q2_count_head, q2_count_y, q2_count_x, q2_count_over, q2_count_count]; rfl, by rw [q2_over_pairs, q2_over_lenses, q2_over_head, q2_over_y, q2_over_x, q2_over_over]; rfl, by rw [q2_x_pairs, q2_x_lenses, q2_x_head, q2_x_y, q2_x_x], by rw [q2_y_pairs, q2_y_lenses, q2_y_head, q2_y_y], by rw [q2_head_pairs, q2_head_lenses, q2_head_head], by rw [q2_lenses_pairs, q2_lenses_lenses], by rw [q2_pairs_pairs]⟩
/-- the reference's state as its run begins -/
def mB (m : BX12) (x y hd : Int) : BX12 := sX12_over (sX12_rested (sX12_hit (sX12_heading (sX12_atY (sX12_atX (sX12_ticks m (iI 0)) (iI x)) (iI y)) (iI hd)) (iI 0)) (iI 0)) (iI 0)
theorem mB_fr (m : BX12) (x y hd : Int) : FrR m (mB m x y hd) := (((((((FrR.refl m).s_ticks _).s_atX _).s_atY _).s_heading _).s_hit _).s_rested _).s_over _
theorem z_FI0 {w h : Int} {A : Int → Int} {fl : BX2} {ey : BX1} {m : BX12} {x y hd : Int} (hI : InW w h A) (hV : REy ey A) (hx : (0 ≤ x ∧ x < 16 * w) ∧ 0 ≤ y ∧ y < 16 * h) (hh : 0 ≤ hd ∧ hd < 64) (hf : pX2_begun fl = iI 1 ∧ pX2_hit fl = iI 0 ∧ pX2_rested fl = iI 0 ∧ pX2_count fl = iI 0 ∧ pX2_over fl = iI 0 ∧ pX2_x fl = iI x ∧ pX2_y fl = iI y ∧ pX2_head fl = iI hd ∧ pX2_lenses fl = pX1_lenses ey ∧ pX2_pairs fl = pX1_pairs ey) : FI w h fl (mB m x y hd) A (fun _ _ => 0) (fun _ _ => 0) 0 x y hd 0 0 := by
  obtain ⟨h1, h2, h3, h4, h5, h6, h7, h8, h9, h10⟩ := hf
  have hw4 := hI.1
  unfold mB
  exact ⟨by omega, ⟨h4, by rw [q12_ticks_over, q12_ticks_rested, q12_ticks_hit, q12_ticks_heading, q12_ticks_atY, q12_ticks_atX, q12_ticks_ticks]⟩, ⟨h6, by rw [q12_atX_over, q12_atX_rested, q12_atX_hit, q12_atX_heading, q12_atX_atY, q12_atX_atX], by omega, by omega⟩, ⟨h7, by rw [q12_atY_over, q12_atY_rested, q12_atY_hit, q12_atY_heading, q12_atY_atY], by omega, by omega⟩, ⟨h8, by rw [q12_heading_over, q12_heading_rested, q12_heading_hit, q12_heading_heading], hh⟩, ⟨h2, by rw [q12_hit_over, q12_hit_rested, q12_hit_hit], Or.inl rfl⟩, ⟨h3, by rw [q12_rested_over, q12_rested_rested], Or.inl rfl⟩, ⟨0, h5, by rw [q12_over_over]⟩, ⟨h1, h9.trans hV.1, h10.trans hV.2.1⟩, fun s s1 s2 => by omega, fun s k => ⟨Int.le_refl 0, (by decide : (0 : Int) ≤ 255)⟩, fun s s1 s2 => by omega, fun _ => hx⟩
theorem run_eq (m : BX12) (r x y hd nn : Int) : f_X12_run m (iI r) (iI x) (iI y) (iI hd) (iI nn) = f_X12_run_b36 fU (iI r, iI nn, mB m x y hd) := rfl
/-- a flight from a start: both sides -/
theorem z_flight {n : Nat} {code : Nat → Int32} {fl1 : BX2} {c : BX6} {sg : BX7} {ey : BX1} {u : BX10} {v5 : BX8} {m : BX12} {w h : Int} {A : Int → Int} {B r nn x y hd : Int} (hM : MW m w h A) (hI : InW w h A) (hE : InE A) (hW : RWo u w h A) (hV : REy ey A) (hB : 7 ≤ B) (hB2 : B ≤ 1000000) (hb : pX6_bound c = iI B) (hb2 : pX12_bound m = lI B) (hn : pX7_n sg = (w * h).toNat) (r1 : 0 ≤ r) (r2 : r < 8) (hR : RO n code (pX12_texts m) r) (n1 : 0 ≤ nn) (nn60 : nn ≤ 60) (hF : FI w h fl1 (mB m x y hd) A (fun _ _ => 0) (fun _ _ => 0) 0 x y hd 0 0) :
    ∃ R : BX2 × BX6 × BX7, f_X3_goOn n fl1 code () c sg v5 ey u (iI nn) = some R ∧ pX6_bound R.2.1 = iI B ∧ pX7_n R.2.2 = (w * h).toNat ∧ Wp (f_X12_run m (iI r) (iI x) (iI y) (iI hd) (iI nn)) (fun m' => FrR m m' ∧ ∃ (t' x' y' hd' ht' rs' : Int) (tk' rw' : Int → Int → Int), FI w h R.1 m' A tk' rw' t' x' y' hd' ht' rs' ∧ (0 ≤ t' ∧ t' ≤ nn) ∧ (t' < nn → ht' = 1 ∨ rs' = 1)) := by
  have f0 := mB_fr m x y hd
  obtain ⟨R, g1, g2, g3, g4⟩ := z_goOn (v5 := v5) (n := n) (code := code) hI hE hW hV hB hB2 r1 r2 nn60 nn.toNat 0 fl1 c sg (mB m x y hd) (fun _ _ => 0) (fun _ _ => 0) x y hd 0 0 hF (by omega) (f0.mw hM) (by rw [f0.texts]; exact hR) hb (by rw [f0.bound]; exact hb2) hn
  refine ⟨R, g1 fU (by rw [fU_v]; omega), g2, g3, ?_⟩
  rw [run_eq]
  refine wp_mono (g4 fU (by rw [fU_v]; omega)) (fun m' hm' => ?_)
  obtain ⟨z1, t2, x2, y2, hd2, ht2, rs2, tk2, rw2, z2, z3, z4, z5⟩ := hm'
  exact ⟨f0.trans z1, t2, x2, y2, hd2, ht2, rs2, tk2, rw2, z2, z3, z4⟩
