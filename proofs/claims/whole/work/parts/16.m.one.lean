-- layer 2: one, the leaves
def Flt (D : PD) (m : BX12) (j : Int) (r : Int32 × BX4 × BX9) : Prop := ∃ (f : Int) (m' : BX12) (j' : Int) (st : Nat), (1 ≤ f ∧ f ≤ 6) ∧ (j ≤ j' ∧ j' ≤ dn D) ∧ FA r.2.1 f (dS D j') ∧ pX12_place m' = iI (dS D j') ∧ FrQ m m' ∧ TBl m m' (db D) (dw D) ∧ (st : Int) ≤ j' - j + 1 ∧ Stop m f m' st
def OneOut (D : PD) (c : BX4) (m : BX12) (j o : Int) (E : OpL) (Q : Int → Int) (hq : Int) (k : Nat) (nv nb : Int) (r : Int32 × BX4 × BX9) : Prop :=
  (r.1 = 1 ∧ ∃ (m' : BX12) (j' : Int) (ops : OpL) (st : Nat), j < j' ∧ CJ D r.2.2 j' ∧ Beh D m m' j' Q hq (o - (k : Int)) (E ++ ops ++ negs k) ∧ WC r.2.1 (ds D) (E ++ ops) ∧ FrZ c r.2.1 ∧ CBl c r.2.1 (ds D) ∧ oLen ops ≤ j' - j ∧ Sh (bitK (pX4_told c)) ops nv nb (nv + 1) nb ∧ (st : Int) ≤ j' - j ∧ Go m m' st) ∨
  (r.1 = 0 ∧ Flt D m j r)
def OneS (D : PD) (X : BX4 → BX9 → Option (Int32 × BX4 × BX9)) (o : Int) : Prop := ∀ (c : BX4) (t : BX9) (m : BX12) (j : Int) (E : OpL) (Q : Int → Int) (hq : Int) (k : Nat) (nv nb : Int), PS D c t m j o E E → pX12_opens m = iI o → pX12_isWhole m = iI 0 → NP m Q hq k → hq + (k : Int) ≤ 3 * o + 2 → ds D + oLen E + (k : Int) ≤ j → (0 ≤ nv ∧ 0 ≤ nb ∧ nv + nb ≤ 3 * o + 5) → Wp (X c t) (OneOut D c m j o E Q hq k nv nb)
/-- a refusal at the token where both stand -/
theorem z_ref {c : BX4} {t : BX9} {f pl : Int} {P : Int32 × BX4 × BX9 → Prop} (hz : SzB c) (hf : pX4_fault c = iI 0) (hs : pX9_start t = iI pl) (h : ∀ r : Int32 × BX4 × BX9, r.1 = 0 → FA r.2.1 f pl → P r) : Wp ((f_X4_refuse c t (iI f)).bind (fun r_5 => g_gd (r_5.1 = 0 ∨ r_5.1 = 1) (some (r_5.1, r_5.2, t)))) P := by
  refine wp_bind (wp_mono (z_refuse hz hf hs) ?_)
  rintro r ⟨r1, r2⟩
  exact wp_gd (Or.inl r1) (wp_some (h _ r1 r2))
theorem one_wrap {x : Option (Int32 × BX4 × BX9)} {P : Int32 × BX4 × BX9 → Prop} (hx : Wp x (fun r => (r.1 = 0 ∨ r.1 = 1) ∧ P r)) : Wp (x.bind (fun r_3 => g_gd (r_3.1 = 0 ∨ r_3.1 = 1) (some (r_3.1, r_3.2.1, r_3.2.2)))) P := by
  refine wp_bind (wp_mono hx ?_)
  rintro r ⟨r1, r2⟩
  exact wp_gd r1 (wp_some r2)
theorem OneOut.r01 {D : PD} {c : BX4} {m : BX12} {j o : Int} {E : OpL} {Q : Int → Int} {hq : Int} {k : Nat} {nv nb : Int} {r : Int32 × BX4 × BX9} (h : OneOut D c m j o E Q hq k nv nb r) : (r.1 = 0 ∨ r.1 = 1) ∧ OneOut D c m j o E Q hq k nv nb r := by
  refine ⟨?_, h⟩
  rcases h with h | h
  · exact Or.inr h.1
  · exact Or.inl h.1
theorem flt_here {D : PD} {m : BX12} {j f : Int} {r : Int32 × BX4 × BX9} (f1 : 1 ≤ f) (f2 : f ≤ 6) (hj : MJ D m j) (hi : pX12_isWhole m = iI 0) (hb : f_X12_beginOne m = some (iI f, m)) (hr : FA r.2.1 f (dS D j)) : Flt D m j r :=
  ⟨f, m, j, 1, ⟨f1, f2⟩, ⟨Int.le_refl j, hj.n.1.2⟩, hr, hj.place, FrQ.refl m, TBl.of rfl, by omega, stop_begin f1 f2 hi hb⟩
theorem one_number {D : PD} {c : BX4} {t : BX9} {m : BX12} {j o : Int} {E : OpL} {Q : Int → Int} {hq : Int} {k : Nat} {nv nb : Int} (hS : PS D c t m j o E E) (ho : pX12_opens m = iI o) (hi : pX12_isWhole m = iI 0) (hp : NP m Q hq k) (hl : ds D + oLen E + (k : Int) ≤ j) (hnv : 0 ≤ nv ∧ 0 ≤ nb ∧ nv + nb ≤ 3 * o + 5) (hK : dK D j = -3) : Wp (f_X4_number c t 0 9999) (OneOut D c m j o E Q hq k nv nb) := by
  obtain ⟨h1, h2, h3, h4, h5, h6, h7, h8⟩ := hS
  obtain ⟨n1, n2, n3⟩ := h1.n
  have jn := n3 (by omega)
  have tk := h1.tk
  rw [hK] at tk
  obtain ⟨w, w1, w2, w3⟩ := tk.num
  have ht := h2.2.2.2.1
  have hv := h2.2.2.2.2.2.1
  rw [hK] at ht
  have tok := tk.low.2.1.mpr rfl
  unfold f_X4_number
  rw [ht, if_pos (show iI (-3) = -3 from rfl), hv]
  by_cases c9 : w ≤ 9999
  · rw [if_pos (by omega)] at w3
    rw [w3, if_pos (show iI w ≤ 9999 from (iI_le (b := 9999) (by omega) (by omega) (by omega) (by omega)).mpr c9)]
    have hb : Wp (f_X12_beginOne m) (fun r => r.1 = 0 ∧ Beh D m r.2 (j + 1) Q hq (o - (k : Int)) (E ++ [(0, w)] ++ negs k)) := by
      unfold f_X12_beginOne
      rw [if_pos (show pX12_token m = 1 from tok), w1, if_pos (show iI w ≤ 9999 from (iI_le (b := 9999) (by omega) (by omega) (by omega) (by omega)).mpr c9)]
      exact z_leafM (x := 0) (v := w) h1 jn h7 (by omega) ho hp
    obtain ⟨⟨r0, m'⟩, hb1, hb2, hb3⟩ := hb
    have hb2 : r0 = 0 := hb2
    rw [hb2] at hb1
    refine wp_mono (z_leafC (x := 0) (x' := 0) (v := w) h6 (by omega) h2 jn n2.2 rfl) ?_
    rintro r ⟨r1, r2, r3, r4, r5⟩
    refine Or.inl ⟨r1, m', j + 1, [(0, w)], 1, by omega, r5, hb3, r3, r2, r4, by rw [oLen_1]; omega, ⟨nv + 1, nb, Or.inl ⟨Or.inl ⟨rfl, by omega, by omega⟩, by omega, rfl, rfl⟩, rfl, rfl⟩, by omega, go_begin hi hb1⟩
  · rw [if_neg (by omega)] at w3
    rw [w3, if_neg (show ¬ iI 10000 ≤ 9999 by decide)]
    have hb : f_X12_beginOne m = some (iI 2, m) := by
      unfold f_X12_beginOne
      rw [if_pos (show pX12_token m = 1 from tok), w1, if_neg (show ¬ iI w ≤ 9999 from fun e => c9 ((iI_le (b := 9999) (by omega) (by omega) (by omega) (by omega)).mp e))]
      rfl
    exact z_ref (f := 2) h6.sz h4 h2.2.2.2.2.1 (fun r r1 r2 => Or.inr ⟨r1, flt_here (by omega) (by omega) h1 hi hb r2⟩)
/-- the reference's beginning of a one that is no number and no letter -/
theorem z_beginK {m : BX12} {k v : Int} (h : TKM m k v) (h3 : k ≠ -3) (h4 : k ≠ -4) : f_X12_beginOne m =
    if k = 1953063787 then ((f_X12_emit m 30 0).bind (fun r_34 => (f_X12_nextToken r_34).bind (fun r_35 => (f_X12_whole r_35).bind (fun r_36 => some (0, r_36)))))
    else if k = 1818586739 then (f_X12_eye m 31).bind (fun r_10 => some (r_10.1, r_10.2))
    else if k = 1885432178 then (f_X12_eye m 32).bind (fun r_10 => some (r_10.1, r_10.2))
    else if k = 7170414 then f_X12_beginOne_b252 41 m
    else if k = 7168376 then f_X12_beginOne_b252 42 m
    else if k = 40 then f_X12_beginOne_b252 40 m
    else if k = 45 then f_X12_beginOne_b252 2 m
    else f_X12_beginOne_b252 0 m := by
  have hl := (z_letterOf h).1
  rw [if_neg h4] at hl
  have e1 : ¬ pX12_token m = 1 := fun e => h3 (h.low.2.1.mp e)
  have e2 : (pX12_token m = 40) ↔ k = 40 := h.sign (g := 40) (by decide)
  have e3 : (pX12_token m = 45) ↔ k = 45 := h.sign (g := 45) (by decide)
  unfold f_X12_beginOne
  rw [if_neg e1, hl, bind_s, if_pos (show iI (-1) < 0 by decide), w_tick, bind_s, z_isWord h (by omega) (by omega), bind_s]
  by_cases c1 : k = 1953063787
  · rw [bI_t c1, if_neg (by decide), if_pos c1]
  · rw [bI_f c1, if_pos rfl, if_neg c1, w_lens, bind_s, z_isWord h (by omega) (by omega), bind_s]
    unfold f_X12_beginOne_b152 f_X12_beginOne_b178
    rw [w_lens, bind_s, z_isWord h (by omega) (by omega), bind_s]
    by_cases c2 : k = 1818586739
    · rw [bI_t c2, if_neg (by decide), if_neg (by decide), if_pos c2]
    · rw [bI_f c2, if_pos rfl, if_pos rfl, if_neg c2, w_pair, bind_s, z_isWord h (by omega) (by omega), bind_s]
      by_cases c3 : k = 1885432178
      · rw [bI_t c3, if_neg (by decide), if_pos c3]
      · rw [bI_f c3, if_pos rfl, if_neg c3, w_min, bind_s, z_isWord h (by omega) (by omega), bind_s]
        by_cases c4 : k = 7170414
        · rw [bI_t c4, if_neg (by decide), if_pos c4]
        · rw [bI_f c4, if_pos rfl, if_neg c4, w_max, bind_s, z_isWord h (by omega) (by omega), bind_s]
          by_cases c5 : k = 7168376
          · rw [bI_t c5, if_neg (by decide), if_pos c5]
          · rw [bI_f c5, if_pos rfl, if_neg c5]
            simp only [e2, e3]
