-- layer 2: feed, about, flown
def sByte (v : Int) (n : Int) : Int := if n = 4 then v / 16777216 % 256 else if n = 3 then v / 65536 % 256 else if n = 2 then v / 256 % 256 else v % 256
theorem sByte_bd (v n : Int) : 0 ≤ sByte v n ∧ sByte v n ≤ 255 := by
  unfold sByte
  split
  · omega
  · split
    · omega
    · split <;> omega
theorem n14 {n : Int} (h1 : 1 ≤ n) (h2 : n ≤ 4) : n = 1 ∨ n = 2 ∨ n = 3 ∨ n = 4 := by omega
theorem byt_s {v n : Int} (v1 : -2147483648 ≤ v) (v2 : v < 2147483648) (h1 : 1 ≤ n) (h2 : n ≤ 4) : (iI v >>> (iI (8 * n - 8) &&& iI 31)) &&& iI 255 = iI (sByte v n) := by
  rcases n14 h1 h2 with h | h | h | h <;> subst h
  · rw [i32_nat (iI v >>> (iI (8 * 1 - 8) &&& iI 31)), ← i32_nat, show (iI v >>> (iI (8 * 1 - 8) &&& iI 31)) = iI (v / 1) by
      apply Int32.toInt_inj.mp
      rw [pk_shr (iI v) _ 0 (by decide), iI_toInt v1 v2, iI_toInt (by omega) (by omega), Int.shiftRight_eq_div_pow]
      rfl, iI_and255]
    congr 1
    unfold sByte
    rw [if_neg (by decide), if_neg (by decide), if_neg (by decide), Int.ediv_one]
  · rw [show (iI v >>> (iI (8 * 2 - 8) &&& iI 31)) = iI (v / 256) by
      apply Int32.toInt_inj.mp
      rw [pk_shr (iI v) _ 8 (by decide), iI_toInt v1 v2, iI_toInt (by omega) (by omega), Int.shiftRight_eq_div_pow]
      rfl, iI_and255]
    rfl
  · rw [show (iI v >>> (iI (8 * 3 - 8) &&& iI 31)) = iI (v / 65536) by
      apply Int32.toInt_inj.mp
      rw [pk_shr (iI v) _ 16 (by decide), iI_toInt v1 v2, iI_toInt (by omega) (by omega), Int.shiftRight_eq_div_pow]
      rfl, iI_and255]
    rfl
  · rw [show (iI v >>> (iI (8 * 4 - 8) &&& iI 31)) = iI (v / 16777216) by
      apply Int32.toInt_inj.mp
      rw [pk_shr (iI v) _ 24 (by decide), iI_toInt v1 v2, iI_toInt (by omega) (by omega), Int.shiftRight_eq_div_pow]
      rfl, iI_and255]
    rfl
theorem byt_u {v n : Int} (h1 : 1 ≤ n) (h2 : n ≤ 4) : ((iI v).toUInt32 >>> ((iI (8 * n - 8)).toUInt32 &&& Int32.toUInt32 (iI 31))).toInt32 &&& iI 255 = iI (sByte v n) := by
  show ((iI v).toUInt32 >>> ((iI (8 * n - 8)).toUInt32 &&& Int32.toUInt32 31)).toInt32 &&& iI 255 = _
  rcases n14 h1 h2 with h | h | h | h <;> subst h
  · rw [i32_nat ((iI v).toUInt32 >>> ((iI (8 * 1 - 8)).toUInt32 &&& Int32.toUInt32 31)).toInt32, pk_ushr (iI v) (iI (8 * 1 - 8)) 0 (by decide), iI_bv, iI_and255]
    congr 1
    show _ = v % 256
    omega
  · rw [i32_nat ((iI v).toUInt32 >>> ((iI (8 * 2 - 8)).toUInt32 &&& Int32.toUInt32 31)).toInt32, pk_ushr (iI v) (iI (8 * 2 - 8)) 8 (by decide), iI_bv, iI_and255]
    congr 1
    show _ = v / 256 % 256
    omega
  · rw [i32_nat ((iI v).toUInt32 >>> ((iI (8 * 3 - 8)).toUInt32 &&& Int32.toUInt32 31)).toInt32, pk_ushr (iI v) (iI (8 * 3 - 8)) 16 (by decide), iI_bv, iI_and255]
    congr 1
    show _ = v / 65536 % 256
    omega
  · rw [i32_nat ((iI v).toUInt32 >>> ((iI (8 * 4 - 8)).toUInt32 &&& Int32.toUInt32 31)).toInt32, pk_ushr (iI v) (iI (8 * 4 - 8)) 24 (by decide), iI_bv, iI_and255]
    congr 1
    show _ = v / 16777216 % 256
    omega
def sPut (v : Int) : Nat → Int → (Int → Int) → Int → Int
  | 0, _, Z => Z
  | n + 1, T, Z => sPut v n (T + 1) (up Z T (sByte v ((n : Int) + 1)))
theorem sPut_bd {v : Int} : ∀ (n : Nat) (T : Int) (Z : Int → Int), (∀ k : Int, 0 ≤ k → k < T → 0 ≤ Z k ∧ Z k ≤ 255) → ∀ k : Int, 0 ≤ k → k < T + n → 0 ≤ sPut v n T Z k ∧ sPut v n T Z k ≤ 255 := by
  intro n
  induction n with
  | zero => exact fun T Z h k k1 k2 => h k k1 (by omega)
  | succ n ih =>
    intro T Z h k k1 k2
    unfold sPut
    refine ih (T + 1) _ (fun j j1 j2 => ?_) k k1 (by omega)
    unfold up
    split
    · exact sByte_bd v _
    · exact h j j1 (by omega)
theorem ai_put {f : Nat → Int32} {Z : Int → Int} {T x : Int} (h : AI f Z T) (hT : 0 ≤ T) : AI (upd f T.toNat (iI x)) (up Z T x) (T + 1) := by
  intro j j1 j2
  rw [ai_upd hT j1]
  unfold up
  split
  · rfl
  · exact h j j1 (by omega)
theorem z_four {v : Int} (v1 : -2147483648 ≤ v) (v2 : v < 2147483648) : ∀ (n : Nat) (T : Int) (Z : Int → Int) (m : BX12), n ≤ 4 → 0 ≤ T → T + n ≤ 300 → pX12_taped m = iI T → AI (pX12_tape m) Z T → ∀ F : Nat, n < F → Wp (f_X12_four_b3 F (iI v, iI (8 * (n : Int) - 8), m)) (fun r => FrT m r ∧ pX12_taped r = iI (T + n) ∧ AI (pX12_tape r) (sPut v n T Z) (T + n)) := by
  intro n
  induction n with
  | zero =>
    intro T Z m _ _ _ ht hz F hF
    obtain ⟨F, rfl⟩ : ∃ F', F = F' + 1 := ⟨F - 1, by omega⟩
    show Wp (f_X12_four_b3B (f_X12_four_b3 F) (iI v) (iI (8 * ((0 : Nat) : Int) - 8)) m) _
    unfold f_X12_four_b3B
    simp (disch := omega) only [iLit, iI_lt]
    rw [if_pos (by omega)]
    exact wp_some ⟨FrT.refl m, by rw [ht]; congr 1; omega, fun k k1 k2 => hz k k1 (by omega)⟩
  | succ n ih =>
    intro T Z m n4 t1 t2 ht hz F hF
    obtain ⟨F, rfl⟩ : ∃ F', F = F' + 1 := ⟨F - 1, by omega⟩
    show Wp (f_X12_four_b3B (f_X12_four_b3 F) (iI v) (iI (8 * ((n + 1 : Nat) : Int) - 8)) m) _
    have e1 : (((n + 1 : Nat) : Int)) = (n : Int) + 1 := by omega
    rw [e1]
    unfold f_X12_four_b3B
    simp (disch := omega) only [iLit, iI_lt, ht, iI_inB, gd_t, iI_cl, lt_e, q12_taped_tape, byt_s v1 v2, iI_add, iI_neg]
    rw [if_neg (by omega), show 8 * ((n : Int) + 1) - 8 + -8 = 8 * (n : Int) - 8 by omega]
    refine wp_mono (ih (T + 1) (up Z T (sByte v ((n : Int) + 1))) _ (by omega) (by omega) (by omega) (by rw [q12_taped_taped]) (by rw [q12_tape_taped, q12_tape_tape]; exact ai_put hz t1) F (by omega)) (fun r hr => ?_)
    exact ⟨(((FrT.refl m).s_tape _).s_taped _).trans hr.1, by rw [hr.2.1]; congr 1; omega, fun k k1 k2 => hr.2.2 k k1 (by omega)⟩
theorem z_putBytes {v : Int} : ∀ (n : Nat) (T : Int) (Z : Int → Int) (m : BX11), n ≤ 4 → 0 ≤ T → T + n ≤ 300 → pX11_tapeSize m = iI T → AI (pX11_tape m) Z T → ∀ F : Nat, n < F → Wp (f_X11_putBytes_b3 F (iI v, iI (8 * (n : Int) - 8), m)) (fun r => pX11_textRead r = pX11_textRead m ∧ pX11_tapeSize r = iI (T + n) ∧ AI (pX11_tape r) (sPut v n T Z) (T + n)) := by
  intro n
  induction n with
  | zero =>
    intro T Z m _ _ _ ht hz F hF
    obtain ⟨F, rfl⟩ : ∃ F', F = F' + 1 := ⟨F - 1, by omega⟩
    show Wp (f_X11_putBytes_b3B (f_X11_putBytes_b3 F) (iI v) (iI (8 * ((0 : Nat) : Int) - 8)) m) _
    unfold f_X11_putBytes_b3B
    simp (disch := omega) only [iLit, iI_lt]
    rw [if_pos (by omega)]
    exact wp_some ⟨rfl, by rw [ht]; congr 1; omega, fun k k1 k2 => hz k k1 (by omega)⟩
  | succ n ih =>
    intro T Z m n4 t1 t2 ht hz F hF
    obtain ⟨F, rfl⟩ : ∃ F', F = F' + 1 := ⟨F - 1, by omega⟩
    show Wp (f_X11_putBytes_b3B (f_X11_putBytes_b3 F) (iI v) (iI (8 * ((n + 1 : Nat) : Int) - 8)) m) _
    have e1 : (((n + 1 : Nat) : Int)) = (n : Int) + 1 := by omega
    rw [e1]
    unfold f_X11_putBytes_b3B
    simp (disch := omega) only [iLit, iI_lt, iI_le, ht, iI_inB, gd_t, iI_cl, lt_e, q11_tapeSize_tape, byt_u, iI_add, iI_neg]
    rw [if_neg (by omega), if_neg (by omega), show 8 * ((n : Int) + 1) - 8 + -8 = 8 * (n : Int) - 8 by omega]
    refine wp_mono (ih (T + 1) (up Z T (sByte v ((n : Int) + 1))) _ (by omega) (by omega) (by omega) (by rw [q11_tapeSize_tapeSize]) (by rw [q11_tape_tapeSize, q11_tape_tape]; exact ai_put hz t1) F (by omega)) (fun r hr => ?_)
    exact ⟨by rw [hr.1, q11_textRead_tapeSize, q11_textRead_tape], by rw [hr.2.1]; congr 1; omega, fun k k1 k2 => hr.2.2 k k1 (by omega)⟩
theorem o_feed (RO : ROT) : Op_feed (Rel RO) := by
  intro v0 v1 v2 v3 v4 v5 v6 v7 v8 v9 v10 v11 v12 v13 v14 v15 v16 v17 v18 hR p0 p1 p2 p3 p4
  have hR' := hR
  obtain ⟨w, h, A, G, r1, r2, r3, r4, r5, r6, r7, r8, ⟨T, Z, t1, t2, t3, t4, t5, t6⟩, r10⟩ := hR'
  obtain ⟨a, a1, a2, rfl⟩ := iI_of p0
  obtain ⟨b, b1, b2, rfl⟩ := iI_of p1
  obtain ⟨c, c1, c2, rfl⟩ := iI_of p2
  obtain ⟨d, d1, d2, rfl⟩ := iI_of p3
  obtain ⟨e, e1, e2, rfl⟩ := iI_of p4
  unfold f_X11_feed f_X12_feed f_X11_putBytes f_X12_four
  simp (disch := omega) only [iLit, t2, t3, iI_le, iI_add]
  by_cases ht : T ≤ 280
  · rw [if_pos ht, if_pos (show T + 20 ≤ 300 by omega)]
    have e24 : iI 24 = iI (8 * ((4 : Nat) : Int) - 8) := rfl
    rw [e24]
    have fl : (4 : Nat) < fU := by rw [fU_v]; omega
    obtain ⟨m1, f1, g1, g2, g3⟩ := z_four a1 a2 4 T Z v17 (by omega) t1.1 (by omega) t2 t4 fU fl
    obtain ⟨u1, k1, h1, h2, h3⟩ := z_putBytes (v := a) 4 T Z v0 (by omega) t1.1 (by omega) t3 t5 fU fl
    obtain ⟨m2, f2, g4, g5, g6⟩ := z_four b1 b2 4 _ _ m1 (by omega) (by omega) (by omega) g2 g3 fU fl
    obtain ⟨u2, k2, h4, h5, h6⟩ := z_putBytes (v := b) 4 _ _ u1 (by omega) (by omega) (by omega) h2 h3 fU fl
    obtain ⟨m3, f3, g7, g8, g9⟩ := z_four c1 c2 4 _ _ m2 (by omega) (by omega) (by omega) g5 g6 fU fl
    obtain ⟨u3, k3, h7, h8, h9⟩ := z_putBytes (v := c) 4 _ _ u2 (by omega) (by omega) (by omega) h5 h6 fU fl
    obtain ⟨m4, f4, g10, g11, g12⟩ := z_four d1 d2 4 _ _ m3 (by omega) (by omega) (by omega) g8 g9 fU fl
    obtain ⟨u4, k4, h10, h11, h12⟩ := z_putBytes (v := d) 4 _ _ u3 (by omega) (by omega) (by omega) h8 h9 fU fl
    obtain ⟨m5, f5, g13, g14, g15⟩ := z_four e1 e2 4 _ _ m4 (by omega) (by omega) (by omega) g11 g12 fU fl
    obtain ⟨u5, k5, h13, h14, h15⟩ := z_putBytes (v := e) 4 _ _ u4 (by omega) (by omega) (by omega) h11 h12 fU fl
    rw [f1, k1, bind_s, bind_s, f2, k2, bind_s, bind_s, f3, k3, bind_s, bind_s, f4, k4, bind_s, bind_s, f5, k5, bind_s, bind_s, g14, h14]
    have fr := (((g1.trans g4).trans g7).trans g10).trans g13
    have er := (((h13.trans h10).trans h7).trans h4).trans h1
    refine ⟨_, _, _, rfl, rfl, w, h, A, G, ⟨fr.w.trans r1.1, fr.h.trans r1.2.1, by rw [fr.a]; exact r1.2.2⟩, by rw [fr.image]; exact r2, r3, r4, r5, r6, by rw [fr.texts]; exact r7, r8, ⟨_, _, by omega, g14, h14, g15, h15, ?_⟩, ?_⟩
    · exact sPut_bd 4 _ _ (sPut_bd 4 _ _ (sPut_bd 4 _ _ (sPut_bd 4 _ _ (sPut_bd 4 _ _ t6))))
    · unfold FT
      rw [er, fr.fault, fr.faultPlace]
      exact r10
  · rw [if_neg ht, if_neg (show ¬ T + 20 ≤ 300 by omega)]
    exact ⟨_, _, _, rfl, rfl, hR⟩
theorem o_flown (RO : ROT) : Op_flown (Rel RO) := by
  intro v0 v1 v2 v3 v4 v5 v6 v7 v8 v9 v10 v11 v12 v13 v14 v15 v16 v17 v18 hR p0
  have hR' := hR
  obtain ⟨w, h, A, G, hM, _, hA, _, ⟨_, _, _, hF⟩, _⟩ := hR'
  obtain ⟨k, k1, k2, rfl⟩ := iI_of p0
  have hI := hA.2.2.2.1
  unfold f_X11_flown f_X12_flown
  have n1 : -2147483648 ≤ A 880 ∧ A 880 < 2147483648 := by
    rcases hI with e | ⟨e, _⟩ <;> omega
  simp (disch := omega) only [iLit, iI_inB, gd_t, iI_cl, hM.at, iI_lt, sz_isIn, bind_s, bI_0I, ite_not, iI_add, iI_eq]
  rcases hF.2 with ⟨e1, e2, e3⟩ | ⟨e1, e2, e3, e4, e5, e6, e7, e8, e9, _⟩
  · rw [e2, if_pos rfl, if_pos (by omega)]
    exact ⟨_, rfl, rfl, hR⟩
  · rcases hI with e | ⟨hc, h4, h5, _⟩
    · exact absurd e e1
    · rw [e2, if_neg (by decide), if_neg (show ¬ A 880 < 0 by omega), e4, e5, e6, e7, e8, e9]
      by_cases hk : 0 ≤ k ∧ k ≤ 5
      · rw [if_pos hk]
        have : k = 0 ∨ k = 1 ∨ k = 2 ∨ k = 3 ∨ k = 4 ∨ k = 5 := by omega
        rcases this with e | e | e | e | e | e <;> subst e
        · exact ⟨_, rfl, rfl, hR⟩
        · exact ⟨_, rfl, rfl, hR⟩
        · exact ⟨_, rfl, rfl, hR⟩
        · rcases h4 with e | e
          · exact ⟨iI 0, by rw [e]; rfl, by rw [show (881 : Int) + 3 = 884 from rfl, e], hR⟩
          · exact ⟨iI 1, by rw [e]; rfl, by rw [show (881 : Int) + 3 = 884 from rfl, e], hR⟩
        · rcases h5 with e | e
          · exact ⟨iI 0, by rw [e]; rfl, by rw [show (881 : Int) + 4 = 885 from rfl, e], hR⟩
          · exact ⟨iI 1, by rw [e]; rfl, by rw [show (881 : Int) + 4 = 885 from rfl, e], hR⟩
        · exact ⟨_, rfl, rfl, hR⟩
      · rw [if_neg hk, if_neg (by omega), if_neg (by omega), if_neg (by omega), if_neg (by omega), if_neg (by omega), if_neg (by omega)]
        exact ⟨_, rfl, rfl, hR⟩
