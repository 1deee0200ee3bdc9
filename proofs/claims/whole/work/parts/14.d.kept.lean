-- layer 2: kept
theorem z_keepIn {n : Nat} {code : Nat → Int32} {ey : BX1} {u : BX10} {v3 : BX8} {re : BX5} {b : PB} {w h : Int} {A tu : Int → Int} {r nn i : Int} {q : Nat} (hI : InW w h A) (hE : InE A) (hW : RWo u w h A) (hV : REy ey A) (r1 : 0 ≤ r) (r2 : r < 8) (nn20 : nn ≤ 20) (i1 : 0 ≤ i) (i2 : i < 6) (hq1 : pX8_codes v3 r.toNat = some q) (hq2 : q ∈ b.1) (hqn : n = b.2.1 q) (hqc : code = b.2.2 q) (hsz : pX5_size re i.toNat = iI nn) (htu : ∀ j : Int, 0 ≤ j → j < 20 → pX5_turns re (i * 20 + j).toNat = iI (tu j) ∧ -8 ≤ tu j ∧ tu j ≤ 8) : ∀ (k : Nat) (t : Int) (fl : BX2) (c : BX6) (sg : BX7) (m : BX12) (tk rw_ : Int → Int → Int) (x y hd ht : Int), FI w h fl m A tk rw_ t x y hd ht 0 → (k : Int) + t = nn → MW m w h A → RO n code (pX12_texts m) r → pX6_bound c = iI 1000000 → pX12_bound m = lI 1000000 → pX7_n sg = (w * h).toNat →
    ∃ (kp : Int) (c' : BX6) (sg' : BX7) (tr' : BX2), (kp = 0 ∨ kp = 1) ∧ (∀ J F, k + 1 < F → f_X3_keepsAll_b91 () v3 ey re u b J F (iI r, iI 1, iI i, iI t, c, sg, fl) = J (iI r, iI kp, iI (i + 1), c', sg', tr')) ∧ pX6_bound c' = iI 1000000 ∧ pX7_n sg' = (w * h).toNat ∧ ∀ F, k < F → Wp (f_X12_run_b36 F (iI r, iI nn, m)) (fun m' => FrR m m' ∧ ∃ (t' : Int) (rw' : Int → Int), pX12_ticks m' = iI t' ∧ (0 ≤ t' ∧ t' ≤ nn) ∧ (∀ s : Int, 0 ≤ s → s < t' → pX12_rows m' (38 * s).toNat = iI (rw' s) ∧ -8 ≤ rw' s ∧ rw' s ≤ 8) ∧ (∀ s : Int, s < t → rw' s = rw_ s 0) ∧ (kp = 1 → t' = nn ∧ ∀ s : Int, t ≤ s → s < nn → rw' s = tu s) ∧ (kp = 0 → t' < nn ∨ ∃ s : Int, t ≤ s ∧ s < t' ∧ rw' s ≠ tu s)) := by
  intro k
  have rowsOf : ∀ {fl : BX2} {m' : BX12} {tk' rw' : Int → Int → Int} {t' x' y' hd' ht' rs' : Int}, FI w h fl m' A tk' rw' t' x' y' hd' ht' rs' → ∀ s : Int, 0 ≤ s → s < t' → pX12_rows m' (38 * s).toNat = iI (rw' s 0) ∧ -8 ≤ rw' s 0 ∧ rw' s 0 ≤ 8 := by
    intro fl m' tk' rw' t' x' y' hd' ht' rs' hFI s s1 s2
    obtain ⟨_, _, _, _, _, _, _, _, _, hrow, _, hrw0, _⟩ := hFI
    have e := ((hrow s s1 s2).1 0 (by omega) (by omega)).2
    rw [Int.add_zero] at e
    exact ⟨e, hrw0 s s1 s2⟩
  -- with 0 it leaves the row of turns at once
  have leave : ∀ (t : Int) (c : BX6) (sg : BX7) (fl : BX2) (J : _) (F : Nat), 0 < F → f_X3_keepsAll_b91 () v3 ey re u b J F (iI r, iI 0, iI i, iI t, c, sg, fl) = J (iI r, iI 0, iI (i + 1), c, sg, fl) := by
    intro t c sg fl J F hF
    obtain ⟨F, rfl⟩ : ∃ F', F = F' + 1 := ⟨F - 1, by omega⟩
    show f_X3_keepsAll_b91B () v3 ey re u b J (f_X3_keepsAll_b91 () v3 ey re u b J F) (iI r) (iI 0) (iI i) (iI t) c sg fl = _
    unfold f_X3_keepsAll_b91B f_X3_keepsAll_b175
    rw [if_pos (show iI 0 = (0 : Int32) from rfl), lt_e, show (1 : Int32) = iI 1 from rfl, iI_add]
  induction k with
  | zero =>
    intro t fl c sg m tk rw_ x y hd ht hF hk hM hR hb hb2 hn
    have hF' := hF
    obtain ⟨⟨t1, t60⟩, ⟨a1, a2⟩, _⟩ := hF'
    refine ⟨1, c, sg, fl, Or.inr rfl, fun J F hFl => ?_, hb, hn, fun F hFl => ?_⟩
    · obtain ⟨F, rfl⟩ : ∃ F', F = F' + 1 := ⟨F - 1, by omega⟩
      show f_X3_keepsAll_b91B () v3 ey re u b J (f_X3_keepsAll_b91 () v3 ey re u b J F) (iI r) (iI 1) (iI i) (iI t) c sg fl = _
      unfold f_X3_keepsAll_b91B f_X3_keepsAll_b175
      rw [if_neg (show ¬ iI 1 = (0 : Int32) by decide), gd_t (by rw [iI_inB (by omega) (by omega)]; omega), iI_cl i1 (by omega), hsz, if_pos (by rw [iI_le (by omega) (by omega) (by omega) (by omega)]; omega), lt_e, show (1 : Int32) = iI 1 from rfl, iI_add]
    · obtain ⟨F, rfl⟩ : ∃ F', F = F' + 1 := ⟨F - 1, by omega⟩
      show Wp (f_X12_run_b36B (f_X12_run_b36 F) (iI r) (iI nn) m) _
      unfold f_X12_run_b36B
      rw [a2, if_pos (by rw [iI_le (by omega) (by omega) (by omega) (by omega)]; omega)]
      exact wp_some ⟨FrR.refl m, t, fun s => rw_ s 0, a2, by omega, rowsOf hF, fun s _ => rfl, fun _ => ⟨by omega, fun s s1 s2 => by omega⟩, fun e => by omega⟩
  | succ k ih =>
    intro t fl c sg m tk rw_ x y hd ht hF hk hM hR hb hb2 hn
    have hF' := hF
    obtain ⟨⟨t1, t60⟩, ⟨a1, a2⟩, _, _, _, ⟨b1, b2, b3⟩, ⟨b4, b5, b6⟩, _⟩ := hF'
    have hJ0 : ∀ (J : _) (F : Nat), f_X3_keepsAll_b91 () v3 ey re u b J (F + 1) (iI r, iI 1, iI i, iI t, c, sg, fl) = (if (iI ht : Int32) = 0 then ((f_X3_step n fl code () c sg v3 ey u).bind (fun r_9 => if (r_9.1 : Int32) = 0 then (f_X3_keepsAll_b167 () v3 ey re u b J (f_X3_keepsAll_b91 () v3 ey re u b J F) (iI r) (iI i) (iI t) r_9.2.2.1 r_9.2.2.2 r_9.2.1) else ((f_X2_noted r_9.2.1 (iI t) 0).bind (fun r_12 => if (r_12 : Int32) = iI (tu t) then (f_X3_keepsAll_b168 () v3 ey re u b J (f_X3_keepsAll_b91 () v3 ey re u b J F) (iI r) (iI i) (iI t) 1 r_9.2.2.1 r_9.2.2.2 r_9.2.1) else (f_X3_keepsAll_b167 () v3 ey re u b J (f_X3_keepsAll_b91 () v3 ey re u b J F) (iI r) (iI i) (iI t) r_9.2.2.1 r_9.2.2.2 r_9.2.1))))) else (f_X3_keepsAll_b167 () v3 ey re u b J (f_X3_keepsAll_b91 () v3 ey re u b J F) (iI r) (iI i) (iI t) c sg fl)) := by
      intro J F
      show f_X3_keepsAll_b91B () v3 ey re u b J (f_X3_keepsAll_b91 () v3 ey re u b J F) (iI r) (iI 1) (iI i) (iI t) c sg fl = _
      unfold f_X3_keepsAll_b91B
      have ei : iI i * (20 : Int32) + iI t = iI (i * 20 + t) := by rw [show (20 : Int32) = iI 20 from rfl, iI_mul, iI_add]
      rw [if_neg (show ¬ iI 1 = (0 : Int32) by decide), gd_t (by rw [iI_inB (by omega) (by omega)]; omega), iI_cl i1 (by omega), hsz, if_neg (by rw [iI_le (by omega) (by omega) (by omega) (by omega)]; omega), b1, gd_t (by rw [iI_inB (by omega) (by omega)]; omega), iI_cl r1 (by omega), hq1, bind_s, gd_t hq2, ei, iI_cl (by omega) (by omega), (htu t t1 (by omega)).1, ← hqn, ← hqc]
      have hgd : ∀ (kk : Option (Int32 × BX6 × BX7 × BX2)), g_gd (inB (iI (i * 20 + t)) 120) kk = kk := fun kk => gd_t (by rw [iI_inB (by omega) (by omega)]; omega)
      simp only [hgd]
    have go0 : ∀ (J : _) (F : Nat) (c' : BX6) (sg' : BX7) (fl' : BX2), f_X3_keepsAll_b167 () v3 ey re u b J (f_X3_keepsAll_b91 () v3 ey re u b J (F + 1)) (iI r) (iI i) (iI t) c' sg' fl' = J (iI r, iI 0, iI (i + 1), c', sg', fl') := by
      intro J F c' sg' fl'
      unfold f_X3_keepsAll_b167 f_X3_keepsAll_b168
      rw [lt_e, show (1 : Int32) = iI 1 from rfl, iI_add]
      exact leave (t + 1) c' sg' fl' J (F + 1) (by omega)
    by_cases hht : ht = 1
    · -- it has hit
      subst hht
      refine ⟨0, c, sg, fl, Or.inl rfl, fun J F hFl => ?_, hb, hn, fun F hFl => ?_⟩
      · obtain ⟨F, rfl⟩ : ∃ F', F = F' + 2 := ⟨F - 2, by omega⟩
        rw [hJ0, if_neg (show ¬ iI 1 = (0 : Int32) by decide), go0]
      · obtain ⟨F, rfl⟩ : ∃ F', F = F' + 1 := ⟨F - 1, by omega⟩
        show Wp (f_X12_run_b36B (f_X12_run_b36 F) (iI r) (iI nn) m) _
        unfold f_X12_run_b36B
        rw [a2, if_neg (by rw [iI_le (by omega) (by omega) (by omega) (by omega)]; omega), b2, if_neg (show ¬ iI 1 = (0 : Int32) by decide)]
        exact wp_some ⟨FrR.refl m, t, fun s => rw_ s 0, a2, by omega, rowsOf hF, fun s _ => rfl, fun e => by omega, fun _ => Or.inl (by omega)⟩
    · have e0 : ht = 0 := by omega
      subst e0
      obtain ⟨fl4, sg4, fl1, c1, rs1, t', x', y', hd', ht', tk1, rw1, g1, g2, g3, g4, g5, g6, g7, g8, g9, g10, g11, g12⟩ := z_tick (v5 := v3) (nn := nn) hM hI hE hW hV hn (by omega) (by omega) hb hb2 r1 r2 hR hF (by omega) (by omega)
      rcases g6 with e | e
      · -- it went on
        subst e
        have et := g8 rfl
        subst et
        obtain ⟨ma, fa, faR, faF⟩ := g12 (fun z => some z.2.2) (fun m' => FrR m m' ∧ FI w h fl1 m' A tk1 rw1 (t + 1) x' y' hd' ht' 0) (fun e1 => by omega) (fun _ m' q1 q2 => wp_some ⟨q1, q2⟩)
        have faF' := faF
        obtain ⟨_, _, _, _, _, _, _, _, _, hrow, _, hrw0, _⟩ := faF'
        have hrt := hrw0 t t1 (by omega)
        have hnote : f_X2_noted fl1 (iI t) 0 = some (iI (rw1 t 0)) := by
          unfold f_X2_noted
          simp (disch := omega) only [iLit, iI_mul, iI_add, lt_e, iI_lt, iI_le, iI_inB, gd_t, iI_cl]
          rw [if_neg (by omega), if_neg (by omega), ((hrow t t1 (by omega)).1 0 (by omega) (by omega)).1]
        have htut := htu t t1 (by omega)
        by_cases hm : rw1 t 0 = tu t
        · obtain ⟨kp, c2, sg2, tr2, i1', i2', i3', i4', _⟩ := ih (t + 1) fl1 c1 sg4 ma tk1 rw1 x' y' hd' ht' faF (by omega) (faR.mw hM) (by rw [faR.texts]; exact hR) g4 (by rw [faR.bound]; exact hb2) g5
          refine ⟨kp, c2, sg2, tr2, i1', fun J F hFl => ?_, i3', i4', fun F hFl => ?_⟩
          · obtain ⟨F, rfl⟩ : ∃ F', F = F' + 1 := ⟨F - 1, by omega⟩
            rw [hJ0, if_pos (show iI 0 = (0 : Int32) from rfl), g3, bind_s]
            dsimp only
            rw [show (1 : Int) - 0 = 1 by omega, if_neg (show ¬ iI 1 = (0 : Int32) by decide), hnote, bind_s, if_pos (by rw [hm])]
            unfold f_X3_keepsAll_b168
            rw [lt_e, show (1 : Int32) = iI 1 from rfl, iI_add]
            exact i2' J F (by omega)
          · obtain ⟨F, rfl⟩ : ∃ F', F = F' + 1 := ⟨F - 1, by omega⟩
            show Wp (f_X12_run_b36B (f_X12_run_b36 F) (iI r) (iI nn) m) _
            refine g12 (f_X12_run_b36 F) _ (fun e1 => by omega) (fun _ m' q1 q2 => ?_)
            obtain ⟨kp', c2', sg2', tr2', j1, j2, _, _, j5⟩ := ih (t + 1) fl1 c1 sg4 m' tk1 rw1 x' y' hd' ht' q2 (by omega) (q1.mw hM) (by rw [q1.texts]; exact hR) g4 (by rw [q1.bound]; exact hb2) g5
            have ekp : iI kp' = iI kp := by
              have z1 := (j2 (fun z => some (z.2.1, z.2.2.2)) (k + 2) (by omega)).symm.trans (i2' (fun z => some (z.2.1, z.2.2.2)) (k + 2) (by omega))
              have z2 := Option.some.inj z1
              exact congrArg Prod.fst z2
            have ekp2 : kp' = kp := (iI_eq (by omega) (by omega) (by omega) (by omega)).mp ekp
            subst ekp2
            refine wp_mono (j5 F (by omega)) (fun m2 hm2 => ?_)
            obtain ⟨z1, t2, rw2, z2, z3, z4, z5, z6, z7⟩ := hm2
            refine ⟨q1.trans z1, t2, rw2, z2, z3, z4, fun s hs => (z5 s (by omega)).trans (g11 s 0 hs), fun e => ⟨(z6 e).1, fun s s1 s2 => ?_⟩, fun e => ?_⟩
            · by_cases he : s = t
              · rw [he, z5 t (by omega), hm]
              · exact (z6 e).2 s (by omega) s2
            · rcases z7 e with z8 | ⟨s, s1, s2, s3⟩
              · exact Or.inl z8
              · exact Or.inr ⟨s, by omega, s2, s3⟩
        · -- another turn
          refine ⟨0, c1, sg4, fl1, Or.inl rfl, fun J F hFl => ?_, g4, g5, fun F hFl => ?_⟩
          · obtain ⟨F, rfl⟩ : ∃ F', F = F' + 2 := ⟨F - 2, by omega⟩
            rw [hJ0, if_pos (show iI 0 = (0 : Int32) from rfl), g3, bind_s]
            dsimp only
            rw [show (1 : Int) - 0 = 1 by omega, if_neg (show ¬ iI 1 = (0 : Int32) by decide), hnote, bind_s, if_neg (by rw [iI_eq (by omega) (by omega) (by omega) (by omega)]; exact hm), go0]
          · obtain ⟨F, rfl⟩ : ∃ F', F = F' + 1 := ⟨F - 1, by omega⟩
            show Wp (f_X12_run_b36B (f_X12_run_b36 F) (iI r) (iI nn) m) _
            refine g12 (f_X12_run_b36 F) _ (fun e1 => by omega) (fun _ m' q1 q2 => ?_)
            obtain ⟨R, j1, j2, j3, j4⟩ := z_goOn (v5 := v3) (n := n) (code := code) (nn := nn) hI hE hW hV (show (7 : Int) ≤ 1000000 by omega) (by omega) r1 r2 (by omega) k (t + 1) fl1 c1 sg4 m' tk1 rw1 x' y' hd' ht' 0 q2 (by omega) (q1.mw hM) (by rw [q1.texts]; exact hR) g4 (by rw [q1.bound]; exact hb2) g5
            refine wp_mono (j4 F (by omega)) (fun m2 hm2 => ?_)
            obtain ⟨z1, t2, x2, y2, hd2, ht2, rs2, tk2, rw2, z2, z3, z4, z5⟩ := hm2
            have z2' := z2
            obtain ⟨_, ⟨_, w2⟩, _⟩ := z2'
            refine ⟨q1.trans z1, t2, fun s => rw2 s 0, w2, by omega, rowsOf z2, fun s hs => (z5 s 0 (by omega)).trans (g11 s 0 hs), fun e => by omega, fun _ => Or.inr ⟨t, by omega, by omega, ?_⟩⟩
            show rw2 t 0 ≠ tu t
            rw [z5 t 0 (by omega)]
            exact hm
      · -- it rests
        subst e
        have et := g7 rfl
        subst et
        refine ⟨0, c1, sg4, fl1, Or.inl rfl, fun J F hFl => ?_, g4, g5, fun F hFl => ?_⟩
        · obtain ⟨F, rfl⟩ : ∃ F', F = F' + 2 := ⟨F - 2, by omega⟩
          rw [hJ0, if_pos (show iI 0 = (0 : Int32) from rfl), g3, bind_s]
          dsimp only
          rw [show (1 : Int) - 1 = 0 by omega, if_pos (show iI 0 = (0 : Int32) from rfl), go0]
        · obtain ⟨F, rfl⟩ : ∃ F', F = F' + 1 := ⟨F - 1, by omega⟩
          show Wp (f_X12_run_b36B (f_X12_run_b36 F) (iI r) (iI nn) m) _
          refine g12 (f_X12_run_b36 F) _ (fun _ m' q1 q2 => ?_) (fun e1 => by omega)
          have q2' := q2
          obtain ⟨_, ⟨_, w2⟩, _⟩ := q2'
          exact ⟨q1, t', fun s => rw1 s 0, w2, by omega, rowsOf q2, fun s hs => g11 s 0 hs, fun e => by omega, fun _ => Or.inl (by omega)⟩
