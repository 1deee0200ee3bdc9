-- layer 2: parts
theorem z_run1 {n : Nat} {code : Nat → Int32} {fl1 : BX2} {c : BX6} {sg : BX7} {ey : BX1} {u : BX10} {v5 : BX8} {m : BX12} {w h : Int} {A : Int → Int} {r x y hd : Int} (hM : MW m w h A) (hI : InW w h A) (hE : InE A) (hW : RWo u w h A) (hV : REy ey A) (hb : pX6_bound c = iI 1000000) (hb2 : pX12_bound m = lI 1000000) (hn : pX7_n sg = (w * h).toNat) (r1 : 0 ≤ r) (r2 : r < 8) (hR : RO n code (pX12_texts m) r) (hF : FI w h fl1 (mB m x y hd) A (fun _ _ => 0) (fun _ _ => 0) 0 x y hd 0 0) :
    ∃ (fl4 : BX2) (sg4 : BX7) (c' : BX6) (rs tn : Int) (m' : BX12), f_X3_sense fl1 () sg v5 ey u = some (fl4, sg4) ∧ pX7_n sg4 = (w * h).toNat ∧ f_X6_run n code fl4 c ey = some c' ∧ pX6_bound c' = iI 1000000 ∧ (rs = 0 ∨ rs = 1) ∧ pX6_rests c' = iI rs ∧ (rs = 0 → pX6_turn c' = iI tn) ∧ (-8 ≤ tn ∧ tn ≤ 8) ∧ f_X12_run m (iI r) (iI x) (iI y) (iI hd) (iI 1) = some m' ∧ FrR m m' ∧ pX12_rested m' = iI rs ∧ (rs = 0 → pX12_rows m' 0 = iI tn) := by
  have f0 := mB_fr m x y hd
  obtain ⟨fl4, sg4, fl1', c1, rs1, t', x', y', hd', ht', tk1, rw1, g1, g2, g3, g4, g5, g6, g7, g8, g9, g10, g11, g12⟩ := z_tick (v5 := v5) (nn := 1) (f0.mw hM) hI hE hW hV hn (show (7 : Int) ≤ 1000000 by omega) (by omega) hb (by rw [f0.bound]; exact hb2) r1 r2 (by rw [f0.texts]; exact hR) hF (by omega) (by omega)
  obtain ⟨H, hH⟩ : ∃ H, fU = H + 1 + 1 := ⟨fU - 2, by rw [fU_v]⟩
  rcases g6 with e | e
  · subst e
    have et := g8 rfl
    subst et
    obtain ⟨m', q0, q1, q2, q3, q4⟩ := g12 (f_X12_run_b36 (H + 1)) (fun m' => FrR (mB m x y hd) m' ∧ pX12_rested m' = iI 0 ∧ pX12_rows m' 0 = iI (rw1 0 0) ∧ -8 ≤ rw1 0 0 ∧ rw1 0 0 ≤ 8) (fun e1 => by omega) (fun _ m' q1 q2 => by
      obtain ⟨_, ⟨_, a2⟩, _, _, _, _, ⟨_, a15, _⟩, _, _, hrow, _, hrw0, _⟩ := q2
      show Wp (f_X12_run_b36B (f_X12_run_b36 H) (iI r) (iI 1) m') _
      unfold f_X12_run_b36B
      rw [a2, if_pos (by rw [iI_le (by omega) (by omega) (by omega) (by omega)]; omega)]
      exact wp_some ⟨q1, a15, ((hrow 0 (by omega) (by omega)).1 0 (by omega) (by omega)).2, hrw0 0 (by omega) (by omega)⟩)
    refine ⟨fl4, sg4, c1, 0, rw1 0 0, m', g1, g5, g2, g4, Or.inl rfl, g9, fun _ => g10 rfl, q4, ?_, f0.trans q1, q2, fun _ => q3⟩
    rw [run_eq, hH]
    exact q0
  · subst e
    obtain ⟨m', q0, q1, q2⟩ := g12 (f_X12_run_b36 (H + 1)) (fun m' => FrR (mB m x y hd) m' ∧ pX12_rested m' = iI 1) (fun _ m' q1 q2 => by
      obtain ⟨_, _, _, _, _, _, ⟨_, a15, _⟩, _⟩ := q2
      exact ⟨q1, a15⟩) (fun e1 => by omega)
    refine ⟨fl4, sg4, c1, 1, 0, m', g1, g5, g2, g4, Or.inr rfl, g9, fun e => by omega, by omega, ?_, f0.trans q1, q2, fun e => by omega⟩
    rw [run_eq, hH]
    exact q0
theorem sh8 : ∀ t : Nat, t < 17 → ((8 : Int32) + iI ((t : Int) - 8) = nI t) ∧ (iI ((t : Int) - 8) + 8 = nI t) := by decide +kernel
theorem sh8i {t : Int} (h1 : -8 ≤ t) (h2 : t ≤ 8) : ((8 : Int32) + iI t = nI (t + 8).toNat) ∧ (iI t + 8 = nI (t + 8).toNat) := by
  have h := sh8 (t + 8).toNat (by omega)
  rw [show (((t + 8).toNat : Nat) : Int) - 8 = t by omega] at h
  exact h
theorem z_unlike {tr : BX2} {c : BX6} {sg : BX7} {ey : BX1} {u : BX10} {v3 : BX8} {b : PB} {m : BX12} {w h : Int} {A : Int → Int} {x y hd : Int} {S : Nat} (hS : S < 2 ^ 8) (hM : MW m w h A) (hI : InW w h A) (hE : InE A) (hW : RWo u w h A) (hV : REy ey A) (h3 : 0 ≤ A 3 ∧ A 3 ≤ 8) (hv : pX8_rules v3 = iI (A 3)) (hC : CR RO v3 b (pX12_texts m) (A 3)) (hb : pX6_bound c = iI 1000000) (hb2 : pX12_bound m = lI 1000000) (hn : pX7_n sg = (w * h).toNat) (hp : (0 ≤ x ∧ x < 16 * w) ∧ 0 ≤ y ∧ y < 16 * h) (hh : 0 ≤ hd ∧ hd < 64) (hkp : ∀ j : Int, 0 ≤ j → j < A 3 → pX12_keeps m j.toNat = nI (S / 2 ^ j.toNat % 2)) :
    ∃ (T : Nat) (c' : BX6) (sg' : BX7) (tr' : BX2) (m' : BX12), T < 2 ^ 17 ∧ f_X3_unlikeTurns () c sg v3 tr ey u b (nI S) (iI x) (iI y) (iI hd) = some (iI (bcN T : Int), c', sg', tr') ∧ f_X12_unlike m (iI x) (iI y) (iI hd) = some (iI (bcN T : Int), m') ∧ pX6_bound c' = iI 1000000 ∧ pX7_n sg' = (w * h).toNat ∧ FrR m m' := by
  obtain ⟨fl1, f1, hbeg⟩ := z_begin tr v3 ey (iI x) (iI y) (iI hd)
  obtain ⟨⟨fl4, sg4⟩, fs, _, _, _, fs4⟩ := z_senseAll (fl := fl1) (sg := sg) (v5 := v3) hV hE hW hI hp.1 hp.2 (t := 0) (by omega) (by omega) hh.1 hh.2 hbeg.2.2.2.1 hbeg.2.2.2.2.2.1 hbeg.2.2.2.2.2.2.1 hbeg.2.2.2.2.2.2.2.1 hn
  dsimp only at fs4
  have key : ∀ (k : Nat) (i : Int) (T : Nat) (c : BX6) (m : BX12), 0 ≤ i → (k : Int) + i = A 3 → T < 2 ^ 17 → MW m w h A → CR RO v3 b (pX12_texts m) (A 3) → pX6_bound c = iI 1000000 → pX12_bound m = lI 1000000 → (∀ j : Int, 0 ≤ j → j < A 3 → pX12_keeps m j.toNat = nI (S / 2 ^ j.toNat % 2)) → ∀ F G, k < F → k < G → ∃ (T' : Nat) (c' : BX6) (m' : BX12), T' < 2 ^ 17 ∧ f_X3_unlikeTurns_b26 () v3 ey u b F (nI S, nI T, iI i, c, sg4, fl4) = some (iI (bcN T' : Int), c', sg4, fl4) ∧ f_X12_unlike_b9 G (iI x, iI y, iI hd, nI T, iI (bcN T : Int), iI i, m) = some (iI (bcN T' : Int), m') ∧ pX6_bound c' = iI 1000000 ∧ FrR m m' := by
    intro k
    induction k with
    | zero =>
      intro i T c m i1 i2 hT hM hC hb hb2 hkp F G hF hG
      obtain ⟨F, rfl⟩ : ∃ F', F = F' + 1 := ⟨F - 1, by omega⟩
      obtain ⟨G, rfl⟩ : ∃ F', G = F' + 1 := ⟨G - 1, by omega⟩
      refine ⟨T, c, m, hT, ?_, ?_, hb, FrR.refl m⟩
      · show f_X3_unlikeTurns_b26B () v3 ey u b (f_X3_unlikeTurns_b26 () v3 ey u b F) (nI S) (nI T) (iI i) c sg4 fl4 = _
        unfold f_X3_unlikeTurns_b26B
        rw [hv, if_pos (by rw [iI_le (by omega) (by omega) (by omega) (by omega)]; omega), z_bitCount hT, bind_s, nI_iI]
      · show f_X12_unlike_b9B (f_X12_unlike_b9 G) (iI x) (iI y) (iI hd) (nI T) (iI (bcN T : Int)) (iI i) m = _
        unfold f_X12_unlike_b9B
        simp (disch := omega) only [iLit, iI_inB, gd_t, iI_cl, hM.at, iI_le]
        rw [if_pos (by omega)]
    | succ k ih =>
      intro i T c m i1 i2 hT hM hC hb hb2 hkp F G hF hG
      obtain ⟨F, rfl⟩ : ∃ F', F = F' + 1 := ⟨F - 1, by omega⟩
      obtain ⟨G, rfl⟩ : ∃ F', G = F' + 1 := ⟨G - 1, by omega⟩
      have hki := hkp i i1 (by omega)
      have hi31 : iI i + (1 : Int32) = iI (i + 1) := by rw [show (1 : Int32) = iI 1 from rfl, iI_add]
      have hgb : (nI S >>> (iI i &&& 31)) &&& 1 = nI (S / 2 ^ i.toNat % 2) := by
        rw [iI_nI i1]
        exact bit_get (Nat.lt_of_lt_of_le hS (by decide)) (by omega)
      have hz01 : S / 2 ^ i.toNat % 2 = 0 ∨ S / 2 ^ i.toNat % 2 = 1 := Nat.mod_two_eq_zero_or_one _
      rcases hz01 with e0 | e0
      · -- not kept
        obtain ⟨T', c', m', a1, a2, a3, a4, a5⟩ := ih (i + 1) T c m (by omega) (by omega) hT hM hC hb hb2 hkp F G (by omega) (by omega)
        refine ⟨T', c', m', a1, ?_, ?_, a4, a5⟩
        · show f_X3_unlikeTurns_b26B () v3 ey u b (f_X3_unlikeTurns_b26 () v3 ey u b F) (nI S) (nI T) (iI i) c sg4 fl4 = _
          unfold f_X3_unlikeTurns_b26B f_X3_unlikeTurns_b99
          rw [hv, if_neg (by rw [iI_le (by omega) (by omega) (by omega) (by omega)]; omega), hgb, e0, if_pos (show nI 0 = (0 : Int32) from rfl), lt_e, hi31]
          exact a2
        · show f_X12_unlike_b9B (f_X12_unlike_b9 G) (iI x) (iI y) (iI hd) (nI T) (iI (bcN T : Int)) (iI i) m = _
          unfold f_X12_unlike_b9B f_X12_unlike_b90
          rw [gd_t (by decide), show (Int32.toNatClampNeg 3) = Int.toNat 3 from rfl, hM.at (by omega) (by omega), if_neg (by rw [iI_le (by omega) (by omega) (by omega) (by omega)]; omega), gd_t (by rw [iI_inB (by omega) (by omega)]; omega), iI_cl i1 (by omega), hki, e0, if_pos (show nI 0 = (0 : Int32) from rfl), lt_e, hi31]
          exact a3
      · -- kept
        obtain ⟨q, hq1, hq2⟩ := hC.1 i i1 (by omega)
        have hRO := hC.2 i i1 (by omega) q hq1
        obtain ⟨fl4', sg4', c1, rs, tn, m1, b1, b2, b3, b4, b5, b6, b7, b8, b9, b10, b11, b12⟩ := z_run1 (n := b.2.1 q) (code := b.2.2 q) (c := c) (sg := sg) (v5 := v3) (r := i) hM hI hE hW hV hb hb2 hn i1 (by omega) hRO (z_FI0 (m := m) hI hV hp hh hbeg)
        have ef : (fl4', sg4') = (fl4, sg4) := Option.some.inj (b1.symm.trans fs)
        have ef1 : fl4' = fl4 := congrArg Prod.fst ef
        subst ef1
        have hM1 := b10.mw hM
        -- the turn that counts
        obtain ⟨tv, htv1, htvc, htvm⟩ : ∃ tv : Int, (-8 ≤ tv ∧ tv ≤ 8) ∧ (if (pX6_rests c1 : Int32) = 0 then pX6_turn c1 else 0) = iI tv ∧ (if (pX12_rested m1 : Int32) = 0 then pX12_rows m1 0 else 0) = iI tv := by
          rcases b5 with e | e
          · refine ⟨tn, b8, ?_, ?_⟩
            · rw [b6, e, if_pos (show iI 0 = (0 : Int32) from rfl), b7 e]
            · rw [b11, e, if_pos (show iI 0 = (0 : Int32) from rfl), b12 e]
          · refine ⟨0, by omega, ?_, ?_⟩
            · rw [b6, e, if_neg (show ¬ iI 1 = (0 : Int32) by decide)]
              rfl
            · rw [b11, e, if_neg (show ¬ iI 1 = (0 : Int32) by decide)]
              rfl
        obtain ⟨s8a, s8b⟩ := sh8i htv1.1 htv1.2
        have hT2 : (T ||| 2 ^ (tv + 8).toNat) < 2 ^ 17 := Nat.or_lt_two_pow hT (Nat.pow_lt_pow_right (by omega) (by omega))
        obtain ⟨T', c', m', a1, a2, a3, a4, a5⟩ := ih (i + 1) (T ||| 2 ^ (tv + 8).toNat) c1 m1 (by omega) (by omega) hT2 hM1 (by rw [b10.texts]; exact hC) b4 (by rw [b10.bound]; exact hb2) (by rw [b10.keeps]; exact hkp) F G (by omega) (by omega)
        have putT : nI T ||| ((1 : Int32) <<< (nI (tv + 8).toNat &&& 31)) = nI (T ||| 2 ^ (tv + 8).toNat) := bit_put (by omega)
        have getT : (nI T >>> (nI (tv + 8).toNat &&& 31)) &&& 1 = nI (T / 2 ^ (tv + 8).toNat % 2) := bit_get (Nat.lt_of_lt_of_le hT (by decide)) (by omega)
        have hcnt := bc_or (b := (tv + 8).toNat) hT (by omega)
        refine ⟨T', c', m', a1, ?_, ?_, a4, b10.trans a5⟩
        · show f_X3_unlikeTurns_b26B () v3 ey u b (f_X3_unlikeTurns_b26 () v3 ey u b F) (nI S) (nI T) (iI i) c sg4 fl4' = _
          have body : f_X3_unlikeTurns_b26B () v3 ey u b (f_X3_unlikeTurns_b26 () v3 ey u b F) (nI S) (nI T) (iI i) c sg4 fl4' = f_X3_unlikeTurns_b94 () v3 ey u b (f_X3_unlikeTurns_b26 () v3 ey u b F) (nI S) (iI i) (nI T) 1 8 (if (pX6_rests c1 : Int32) = 0 then pX6_turn c1 else 0) c1 sg4 fl4' := by
            unfold f_X3_unlikeTurns_b26B
            rw [hv, if_neg (by rw [iI_le (by omega) (by omega) (by omega) (by omega)]; omega), hgb, e0, if_neg (show ¬ nI 1 = (0 : Int32) by decide), gd_t (by rw [iI_inB (by omega) (by omega)]; omega), iI_cl i1 (by omega), hq1, bind_s, gd_t hq2, b3, bind_s]
            split <;> rfl
          rw [body, htvc]
          unfold f_X3_unlikeTurns_b94 f_X3_unlikeTurns_b99
          rw [lt_e, lt_e, hi31, s8a, putT]
          exact a2
        · show f_X12_unlike_b9B (f_X12_unlike_b9 G) (iI x) (iI y) (iI hd) (nI T) (iI (bcN T : Int)) (iI i) m = _
          have body : f_X12_unlike_b9B (f_X12_unlike_b9 G) (iI x) (iI y) (iI hd) (nI T) (iI (bcN T : Int)) (iI i) m = f_X12_unlike_b60 (f_X12_unlike_b9 G) (iI x) (iI y) (iI hd) (nI T) (iI (bcN T : Int)) (iI i) (if (pX12_rested m1 : Int32) = 0 then pX12_rows m1 0 else 0) m1 := by
            unfold f_X12_unlike_b9B
            rw [gd_t (by decide), show (Int32.toNatClampNeg 3) = Int.toNat 3 from rfl, hM.at (by omega) (by omega), if_neg (by rw [iI_le (by omega) (by omega) (by omega) (by omega)]; omega), gd_t (by rw [iI_inB (by omega) (by omega)]; omega), iI_cl i1 (by omega), hki, e0, if_neg (show ¬ nI 1 = (0 : Int32) by decide), show (1 : Int32) = iI 1 from rfl, b9, bind_s, gd_t (by decide), show (Int32.toNatClampNeg 0) = 0 from rfl]
            split <;> rfl
          rw [body, htvm]
          unfold f_X12_unlike_b60 f_X12_unlike_b78 f_X12_unlike_b90
          simp only [lt_e]
          rw [s8b, getT, putT, hi31]
          rcases Nat.mod_two_eq_zero_or_one (T / 2 ^ (tv + 8).toNat) with e | e
          · rw [e] at hcnt
            rw [e, if_pos (show nI 0 = (0 : Int32) from rfl), show iI (bcN T : Int) + (1 : Int32) = iI ((bcN T : Int) + 1) by rw [show (1 : Int32) = iI 1 from rfl, iI_add], show ((bcN T : Int) + 1) = ((bcN (T ||| 2 ^ (tv + 8).toNat) : Nat) : Int) by omega]
            exact a3
          · rw [e] at hcnt
            rw [e, if_neg (show ¬ nI 1 = (0 : Int32) by decide), show (bcN T : Int) = ((bcN (T ||| 2 ^ (tv + 8).toNat) : Nat) : Int) by omega]
            exact a3
  obtain ⟨T', c', m', a1, a2, a3, a4, a5⟩ := key (A 3).toNat 0 0 c m (by omega) (by omega) (by decide) hM hC hb hb2 hkp fU fU (by rw [fU_v]; omega) (by rw [fU_v]; omega)
  refine ⟨T', c', sg4, fl4, m', a1, ?_, a3, a4, fs4.1, a5⟩
  unfold f_X3_unlikeTurns
  rw [f1, bind_s, fs, bind_s]
  exact a2
