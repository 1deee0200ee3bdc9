-- layer 2: the operation rule
theorem o_rule : Op_rule (Rel RO) := by
  intro v0 v1 v2 v3 v4 v5 v6 v7 v8 v9 v10 v11 v12 v13 v14 v15 v16 v17 v18 hR
  have hR' := hR
  obtain ⟨w, h, A, G, hM, r2, hA, r4, ⟨hW, hV, hRe, hFl⟩, r6, ⟨c1, c2, c3, c4, c5⟩, r8, r9, r10⟩ := hR'
  have a38 := hA.2.2.2.2
  have ha3 : pX12_a v17 3 = iI (A 3) := hM.2.2 3 (by omega) (by omega)
  have hG3 := r4.2.2.2.2
  by_cases h8 : A 3 < 8
  · obtain ⟨T, Z, t1, t2, t3, t4, t5, t6⟩ := r9
    obtain ⟨D, hD, ⟨r, er, hr⟩⟩ := parse_all (c := v3) (t := v12) ⟨t1, t2, t4, t6⟩ t5 ha3 a38.1 h8
    have hlt : pX8_rules v2 < 8 := by
      rw [c1]
      exact (iI_lt (b := 8) (by omega) (by omega) (by omega) (by omega)).mpr h8
    have hn8 : ¬ pX12_a v17 (3 : Int32).toNatClampNeg = 8 := by
      show ¬ pX12_a v17 3 = 8
      rw [ha3]
      exact iI_ne (b := 8) (by omega) (by omega) (by omega) (by omega) (by omega)
    rcases hr with ⟨m', j', p', a', q1, q2, q3, q4⟩ | ⟨f, m', j', f1, f2, f3, f4, f5, f6⟩
    · -- the text is read
      obtain ⟨i1, i2, i3, i4, i5, i6, i7, i8, i9, i10, i11⟩ := q2
      have jb := i1.n
      have hpv := pLen_v p'
      have hpn := pOps_nn p'
      rw [hD] at i4 i10 q4
      obtain ⟨wc, ew, hw⟩ := z_copyCode (c := r.1) (s := (pLen p' : Int)) (by omega) (by omega) i3.2.2.2.2.2
      have eC : f_X11_rule v0 v2 v3 v12 v18 = some (iI (A 3), sX11_tapeSize (sX11_textRead v0 1) 0, sX8_rules v2 (iI (A 3 + 1)), r.1, r.2, some ((pLen p' : Int).toNat, wc)) := by
        unfold f_X11_rule
        rw [if_pos hlt, t3, er, bind_s, lt_e, lt_e, if_pos (show pX4_fault r.1 = 0 from i3.2.1), lt_e, ew, bind_s, c1, gd_t ((iI_inB (by omega) (by omega)).mpr (by omega)), show (iI (A 3) + 1 : Int32) = iI (A 3 + 1) from iI_add _ 1, lt_e, lt_e]
      have am' : pX12_a m' 3 = iI (A 3) := by rw [q3.a]; exact ha3
      have eM : f_X12_rule v17 = some (iI (A 3), sX12_a (sX12_texts (sX12_taped (sX12_faultPlace (sX12_fault m' 0) (-1)) 0) (upd (pX12_texts m') (800 * A 3).toNat (iI (p'.length : Int)))) (upd (pX12_a m') 3 (iI (A 3 + 1)))) := by
        unfold f_X12_rule
        rw [gd_t (by decide), if_neg hn8, q1, bind_s, lt_e]
        rw [if_pos (show pX12_fault (sX12_fault ((0 : Int32), m').2 ((0 : Int32), m').1) = 0 from rfl)]
        unfold f_X12_rule_b37
        rw [lt_e, lt_e, if_pos (show pX12_fault (sX12_taped (sX12_faultPlace (sX12_fault ((0 : Int32), m').2 ((0 : Int32), m').1) (-1)) 0) = 0 from rfl), lt_e]
        have e1 : pX12_text0 (sX12_taped (sX12_faultPlace (sX12_fault ((0 : Int32), m').2 ((0 : Int32), m').1) (-1)) 0) = iI (800 * A 3) := i4.2.2.1
        have e2 : pX12_clauses (sX12_taped (sX12_faultPlace (sX12_fault ((0 : Int32), m').2 ((0 : Int32), m').1) (-1)) 0) = iI (p'.length : Int) := i4.2.2.2.1
        have e3 : pX12_texts (sX12_taped (sX12_faultPlace (sX12_fault ((0 : Int32), m').2 ((0 : Int32), m').1) (-1)) 0) = pX12_texts m' := rfl
        rw [e1, e2, e3, gd_t ((iI_inB (by omega) (by omega)).mpr (by omega)), iI_cl (by omega) (by omega), lt_e, gd_t (by decide)]
        have e4 : pX12_a (sX12_texts (sX12_taped (sX12_faultPlace (sX12_fault ((0 : Int32), m').2 ((0 : Int32), m').1) (-1)) 0) (upd (pX12_texts m') (800 * A 3).toNat (iI (p'.length : Int)))) = pX12_a m' := rfl
        rw [e4, show (3 : Int32).toNatClampNeg = 3 from rfl, am', show (iI (A 3) + 1 : Int32) = iI (A 3 + 1) from iI_add _ 1, lt_e, gd_t (by decide), lt_e, gd_t (by decide)]
        have e5 : pX12_a (sX12_a (sX12_texts (sX12_taped (sX12_faultPlace (sX12_fault ((0 : Int32), m').2 ((0 : Int32), m').1) (-1)) 0) (upd (pX12_texts m') (800 * A 3).toNat (iI (p'.length : Int)))) (upd (pX12_a m') 3 (iI (A 3 + 1)))) 3 = iI (A 3 + 1) := by
          show upd (pX12_a m') 3 (iI (A 3 + 1)) 3 = _
          unfold upd
          rw [if_pos rfl]
        rw [e5, show (iI (A 3 + 1) - 1 : Int32) = iI (A 3 + 1 - 1) from iI_sub _ 1, show A 3 + 1 - 1 = A 3 by omega]
      have z1 : pX12_w (sX12_a (sX12_texts (sX12_taped (sX12_faultPlace (sX12_fault m' 0) (-1)) 0) (upd (pX12_texts m') (800 * A 3).toNat (iI (p'.length : Int)))) (upd (pX12_a m') 3 (iI (A 3 + 1)))) = pX12_w m' := rfl
      have z2 : pX12_h (sX12_a (sX12_texts (sX12_taped (sX12_faultPlace (sX12_fault m' 0) (-1)) 0) (upd (pX12_texts m') (800 * A 3).toNat (iI (p'.length : Int)))) (upd (pX12_a m') 3 (iI (A 3 + 1)))) = pX12_h m' := rfl
      have z3 : pX12_a (sX12_a (sX12_texts (sX12_taped (sX12_faultPlace (sX12_fault m' 0) (-1)) 0) (upd (pX12_texts m') (800 * A 3).toNat (iI (p'.length : Int)))) (upd (pX12_a m') 3 (iI (A 3 + 1)))) = upd (pX12_a m') 3 (iI (A 3 + 1)) := rfl
      have z4 : pX12_image (sX12_a (sX12_texts (sX12_taped (sX12_faultPlace (sX12_fault m' 0) (-1)) 0) (upd (pX12_texts m') (800 * A 3).toNat (iI (p'.length : Int)))) (upd (pX12_a m') 3 (iI (A 3 + 1)))) = pX12_image m' := rfl
      have z5 : pX12_texts (sX12_a (sX12_texts (sX12_taped (sX12_faultPlace (sX12_fault m' 0) (-1)) 0) (upd (pX12_texts m') (800 * A 3).toNat (iI (p'.length : Int)))) (upd (pX12_a m') 3 (iI (A 3 + 1)))) = upd (pX12_texts m') (800 * A 3).toNat (iI (p'.length : Int)) := rfl
      have z6 : pX12_taped (sX12_a (sX12_texts (sX12_taped (sX12_faultPlace (sX12_fault m' 0) (-1)) 0) (upd (pX12_texts m') (800 * A 3).toNat (iI (p'.length : Int)))) (upd (pX12_a m') 3 (iI (A 3 + 1)))) = iI 0 := rfl
      have z7 : pX12_fault (sX12_a (sX12_texts (sX12_taped (sX12_faultPlace (sX12_fault m' 0) (-1)) 0) (upd (pX12_texts m') (800 * A 3).toNat (iI (p'.length : Int)))) (upd (pX12_a m') 3 (iI (A 3 + 1)))) = iI 0 := rfl
      have z8 : pX12_faultPlace (sX12_a (sX12_texts (sX12_taped (sX12_faultPlace (sX12_fault m' 0) (-1)) 0) (upd (pX12_texts m') (800 * A 3).toNat (iI (p'.length : Int)))) (upd (pX12_a m') 3 (iI (A 3 + 1)))) = iI (-1) := rfl
      generalize sX12_a (sX12_texts (sX12_taped (sX12_faultPlace (sX12_fault m' 0) (-1)) 0) (upd (pX12_texts m') (800 * A 3).toNat (iI (p'.length : Int)))) (upd (pX12_a m') 3 (iI (A 3 + 1))) = y at eM z1 z2 z3 z4 z5 z6 z7 z8
      have tx : ∀ k : Int, 0 ≤ k → k ≠ 800 * A 3 → pX12_texts y k.toNat = pX12_texts m' k.toNat := by
        intro k k1 k2
        rw [z5, ai_upd (by omega) k1, if_neg k2]
      have txo : ∀ k : Int, 0 ≤ k → k < 800 * A 3 → pX12_texts y k.toNat = pX12_texts v17 k.toNat := fun k k1 k2 => (tx k k1 (by omega)).trans (q4 k k1 k2)
      have eB : ∀ k : Int, k ≠ 3 → up A 3 (A 3 + 1) k = A k := fun k hk => up_n hk
      have hMy : MW y w h (up A 3 (A 3 + 1)) := by
        refine ⟨z1.trans (q3.w.trans hM.1), z2.trans (q3.h.trans hM.2.1), ?_⟩
        rw [z3, q3.a]
        exact ai_set hM.2.2 (k := 3) (by omega)
      have hro : RO (pLen p' : Int).toNat wc (pX12_texts y) (A 3) := by
        refine ⟨p', i6, by omega, by omega, i8, ?_, LayT_cg (by omega) p' 0 0 (by omega) (by omega) (fun k k1 k2 => tx k k1 (by omega)) i10, LayC_cg p' 0 (by omega) (fun k k1 k2 => hw k k1 (by omega)) i11⟩
        rw [z5, ai_upd (by omega) (by omega), if_pos rfl]
      refine ⟨_, _, _, eC, eM, fun q hq => ?_⟩
      have hq := hq (by simp)
      have old : ∀ (v : BX8) (N : Int), N ≤ A 3 → CR RO v v18 (pX12_texts v17) N → ∀ i : Int, 0 ≤ i → i < N → ∀ u, pX8_codes v i.toNat = some u → RO (va_up v18.2.1 q (pLen p' : Int).toNat u) (va_up v18.2.2 q wc u) (pX12_texts y) i := by
        intro v N hN hc i i1 i2 u hu
        obtain ⟨u', hu', hmem⟩ := hc.1 i i1 (by omega)
        have eu : u' = u := Option.some.inj (hu'.symm.trans hu)
        rw [eu] at hmem
        have ne : u ≠ q := fun e => hq (by rw [← e]; exact hmem)
        have e1 : va_up v18.2.1 q (pLen p' : Int).toNat u = v18.2.1 u := if_neg ne
        have e2 : va_up v18.2.2 q wc u = v18.2.2 u := if_neg ne
        rw [e1, e2]
        exact RO_cg i1 (hc.2 i i1 i2 u hu) (fun k k1 k2 => txo k k1 (by omega))
      refine ⟨w, h, up A 3 (A 3 + 1), G, hMy, by rw [z4, q3.image]; exact r2, ⟨hA.1.cg (fun j hj => eB j (by omega)), hA.2.1.cg (fun j hj => eB j (by omega)), hA.2.2.1.cg (fun j hj => eB j (by omega)), hA.2.2.2.1.mono hA.2.1 (by rw [eB 1 (by omega)]; omega) (by rw [eB 2 (by omega)]; omega) (fun j j1 j2 => eB j (by omega)) (fun p p1 p2 => ⟨eB _ (by omega), eB _ (by omega), eB _ (by omega)⟩), by rw [up_s]; omega⟩, r4, ⟨hW.cg hA.1 (fun j hj => eB j (by omega)), hV.cg (fun j hj => eB j (by omega)), hRe.cg (fun j hj => eB j (by omega)), RFl.cg hA.2.2.2.1 hA.2.1 hFl (fun j j1 j2 => eB j (by omega))⟩, r6, ⟨?_, c2, ?_, ?_, ?_⟩, r8, ⟨0, fun _ => 0, by omega, z6, rfl, fun k k1 k2 => by omega, fun k k1 k2 => by omega, fun k k1 k2 => by omega⟩, Or.inr ⟨rfl, z7.trans i3.2.1.symm, z8.trans i3.2.2.1.symm⟩⟩
      · rw [up_s]
      · rw [up_s]
        omega
      · rw [up_s]
        have cd : ∀ i : Int, 0 ≤ i → pX8_codes (sX8_codes (sX8_rules v2 (iI (A 3 + 1))) (cdPut (pX8_codes (sX8_rules v2 (iI (A 3 + 1)))) (iI (A 3)) q (some ((pLen p' : Int).toNat, wc)))) i.toNat = if i = A 3 then some q else pX8_codes v2 i.toNat := by
          intro i i1
          show va_up (pX8_codes v2) (iI (A 3)).toNatClampNeg (some q) i.toNat = _
          rw [iI_cl (by omega) (by omega)]
          unfold va_up
          by_cases ei : i = A 3
          · rw [if_pos (by rw [ei]), if_pos ei]
          · rw [if_neg (by omega), if_neg ei]
        refine ⟨fun i i1 i2 => ?_, fun i i1 i2 u hu => ?_⟩
        · rw [cd i i1]
          by_cases ei : i = A 3
          · rw [if_pos ei]
            exact ⟨q, rfl, List.mem_append_right _ (List.mem_singleton.mpr rfl)⟩
          · rw [if_neg ei]
            obtain ⟨u, hu, hm⟩ := c4.1 i i1 i2
            exact ⟨u, hu, List.mem_append_left _ hm⟩
        · rw [cd i i1] at hu
          by_cases ei : i = A 3
          · rw [if_pos ei] at hu
            have eu : q = u := Option.some.inj hu
            have e1 : va_up v18.2.1 q (pLen p' : Int).toNat u = (pLen p' : Int).toNat := if_pos eu.symm
            have e2 : va_up v18.2.2 q wc u = wc := if_pos eu.symm
            show RO (va_up v18.2.1 q (pLen p' : Int).toNat u) (va_up v18.2.2 q wc u) (pX12_texts y) i
            rw [e1, e2, ei]
            exact hro
          · rw [if_neg ei] at hu
            exact old v2 (A 3) (by omega) c4 i i1 (by omega) u hu
      · refine ⟨fun i i1 i2 => ?_, old v4 (G 3) c3 c5⟩
        obtain ⟨u, hu, hm⟩ := c5.1 i i1 i2
        exact ⟨u, hu, List.mem_append_left _ hm⟩
    · -- a fault
      rw [hD] at f6
      have fne : ¬ iI f = 0 := iI_ne (b := 0) (by omega) (by omega) (by omega) (by omega) (by omega)
      have eC : f_X11_rule v0 v2 v3 v12 v18 = some (-1, sX11_tapeSize (sX11_textRead v0 1) 0, v2, r.1, r.2, none) := by
        unfold f_X11_rule
        rw [if_pos hlt, t3, er, bind_s, lt_e, lt_e, if_neg (show ¬ pX4_fault r.1 = 0 by rw [f2.1]; exact fne)]
      have eM : f_X12_rule v17 = some (-1, sX12_taped (sX12_faultPlace (sX12_fault m' (iI f)) (pX12_place m')) 0) := by
        unfold f_X12_rule
        rw [gd_t (by decide), if_neg hn8, f4, bind_s, lt_e, if_neg (show ¬ pX12_fault (sX12_fault (iI f, m').2 (iI f, m').1) = 0 from fne)]
        unfold f_X12_rule_b37
        rw [lt_e, lt_e, if_neg (show ¬ pX12_fault (sX12_taped (sX12_faultPlace (sX12_fault (iI f, m').2 (iI f, m').1) (pX12_place (sX12_fault (iI f, m').2 (iI f, m').1))) 0) = 0 from fne)]
      have z1 : pX12_w (sX12_taped (sX12_faultPlace (sX12_fault m' (iI f)) (pX12_place m')) 0) = pX12_w m' := rfl
      have z2 : pX12_h (sX12_taped (sX12_faultPlace (sX12_fault m' (iI f)) (pX12_place m')) 0) = pX12_h m' := rfl
      have z3 : pX12_a (sX12_taped (sX12_faultPlace (sX12_fault m' (iI f)) (pX12_place m')) 0) = pX12_a m' := rfl
      have z4 : pX12_image (sX12_taped (sX12_faultPlace (sX12_fault m' (iI f)) (pX12_place m')) 0) = pX12_image m' := rfl
      have z5 : pX12_texts (sX12_taped (sX12_faultPlace (sX12_fault m' (iI f)) (pX12_place m')) 0) = pX12_texts m' := rfl
      have z6 : pX12_taped (sX12_taped (sX12_faultPlace (sX12_fault m' (iI f)) (pX12_place m')) 0) = iI 0 := rfl
      have z7 : pX12_fault (sX12_taped (sX12_faultPlace (sX12_fault m' (iI f)) (pX12_place m')) 0) = iI f := rfl
      have z8 : pX12_faultPlace (sX12_taped (sX12_faultPlace (sX12_fault m' (iI f)) (pX12_place m')) 0) = pX12_place m' := rfl
      generalize sX12_taped (sX12_faultPlace (sX12_fault m' (iI f)) (pX12_place m')) 0 = y at eM z1 z2 z3 z4 z5 z6 z7 z8
      have txo : ∀ k : Int, 0 ≤ k → k < 800 * A 3 → pX12_texts y k.toNat = pX12_texts v17 k.toNat := fun k k1 k2 => by
        rw [z5]
        exact f6 k k1 k2
      have old : ∀ (v : BX8) (N : Int), N ≤ A 3 → CR RO v v18 (pX12_texts v17) N → CR RO v v18 (pX12_texts y) N := fun v N hN hc => ⟨hc.1, fun i i1 i2 u hu => RO_cg i1 (hc.2 i i1 i2 u hu) (fun k k1 k2 => txo k k1 (by omega))⟩
      refine ⟨_, _, _, eC, eM, fun q hq => ?_⟩
      exact ⟨w, h, A, G, ⟨z1.trans (f5.w.trans hM.1), z2.trans (f5.h.trans hM.2.1), by rw [z3, f5.a]; exact hM.2.2⟩, by rw [z4, f5.image]; exact r2, hA, r4, ⟨hW, hV, hRe, hFl⟩, r6, ⟨c1, c2, c3, old v2 (A 3) (by omega) c4, old v4 (G 3) c3 c5⟩, r8, ⟨0, fun _ => 0, by omega, z6, rfl, fun k k1 k2 => by omega, fun k k1 k2 => by omega, fun k k1 k2 => by omega⟩, Or.inr ⟨rfl, z7.trans f2.1.symm, z8.trans (f3.trans f2.2.1.symm)⟩⟩
  · have e8 : A 3 = 8 := by omega
    have eC : f_X11_rule v0 v2 v3 v12 v18 = some (-1, v0, v2, v3, v12, none) := by
      unfold f_X11_rule
      rw [if_neg (by rw [c1, e8]; decide)]
    have eM : f_X12_rule v17 = some (-1, v17) := by
      unfold f_X12_rule
      rw [gd_t (by decide), if_pos (show pX12_a v17 (3 : Int32).toNatClampNeg = 8 by show pX12_a v17 3 = 8; rw [ha3, e8]; rfl)]
    exact ⟨_, _, _, eC, eM, fun q _ => hR⟩
