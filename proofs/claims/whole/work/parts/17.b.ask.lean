-- layer 2: asks
def cmO (k : Int) : Int := if k = 60 then 10 else if k = -5 then 11 else if k = 62 then 12 else if k = -6 then 13 else if k = 61 then 14 else if k = 35 then 15 else -1
theorem z_compareM {m : BX12} {k v : Int} (h : TKM m k v) : f_X12_compareOf m = some (iI (cmO k)) := by
  unfold f_X12_compareOf cmO
  have e1 : (pX12_token m = 60) ↔ k = 60 := h.sign (g := 60) (by decide)
  have e2 : (pX12_token m = 4) ↔ k = -5 := h.low.2.2.1
  have e3 : (pX12_token m = 62) ↔ k = 62 := h.sign (g := 62) (by decide)
  have e4 : (pX12_token m = 5) ↔ k = -6 := h.low.2.2.2
  have e5 : (pX12_token m = 61) ↔ k = 61 := h.sign (g := 61) (by decide)
  have e6 : (pX12_token m = 35) ↔ k = 35 := h.sign (g := 35) (by decide)
  by_cases c1 : k = 60
  · rw [if_pos (e1.mpr c1), if_pos c1]; rfl
  rw [if_neg (fun x => c1 (e1.mp x)), if_neg c1]
  by_cases c2 : k = -5
  · rw [if_pos (e2.mpr c2), if_pos c2]; rfl
  rw [if_neg (fun x => c2 (e2.mp x)), if_neg c2]
  by_cases c3 : k = 62
  · rw [if_pos (e3.mpr c3), if_pos c3]; rfl
  rw [if_neg (fun x => c3 (e3.mp x)), if_neg c3]
  by_cases c4 : k = -6
  · rw [if_pos (e4.mpr c4), if_pos c4]; rfl
  rw [if_neg (fun x => c4 (e4.mp x)), if_neg c4]
  by_cases c5 : k = 61
  · rw [if_pos (e5.mpr c5), if_pos c5]; rfl
  rw [if_neg (fun x => c5 (e5.mp x)), if_neg c5]
  by_cases c6 : k = 35
  · rw [if_pos (e6.mpr c6), if_pos c6]; rfl
  rw [if_neg (fun x => c6 (e6.mp x)), if_neg c6]
  rfl
theorem cmO_bd (k : Int) : cmO k = -1 ∨ (10 ≤ cmO k ∧ cmO k ≤ 15 ∧ k ≠ -1 ∧ (cmO k = 10 ∨ cmO k = 11 ∨ cmO k = 12 ∨ cmO k = 13 ∨ cmO k = 14 ∨ cmO k = 15)) := by
  unfold cmO
  split
  · omega
  · split
    · omega
    · split
      · omega
      · split
        · omega
        · split
          · omega
          · split <;> omega
theorem z_compareC {k : Int} (kb : -6 ≤ k ∧ k < 2147483648) : f_X4_compareOperation (iI k) = some (iI (if cmO k = -1 then -1 else cmO k + 3)) := by
  unfold f_X4_compareOperation
  by_cases c1 : k = -6
  · rw [c1]; rfl
  by_cases c2 : k = -5
  · rw [c2]; rfl
  by_cases c3 : k = 35
  · rw [c3]; rfl
  by_cases c4 : k = 60
  · rw [c4]; rfl
  by_cases c5 : k = 61
  · rw [c5]; rfl
  by_cases c6 : k = 62
  · rw [c6]; rfl
  have ne : ∀ g : Int, -10 ≤ g → g ≤ 255 → k ≠ g → ¬ iI k = iI g := fun g g1 g2 hn => iI_ne (by omega) (by omega) (by omega) (by omega) hn
  rw [if_neg (show ¬ iI k = -6 from ne (-6) (by omega) (by omega) c1), if_neg (show ¬ iI k = -5 from ne (-5) (by omega) (by omega) c2), if_neg (show ¬ iI k = 35 from ne 35 (by omega) (by omega) c3), if_neg (show ¬ iI k = 60 from ne 60 (by omega) (by omega) c4), if_neg (show ¬ iI k = 61 from ne 61 (by omega) (by omega) c5), if_neg (show ¬ iI k = 62 from ne 62 (by omega) (by omega) c6)]
  have : cmO k = -1 := by
    unfold cmO
    rw [if_neg c4, if_neg c2, if_neg c6, if_neg c1, if_neg c5, if_neg c3]
  rw [if_pos this]
  rfl
def nots : Nat → OpL
  | 0 => []
  | k + 1 => (20, 0) :: nots k
theorem nots_len : ∀ k : Nat, oLen (nots k) = (k : Int)
  | 0 => rfl
  | k + 1 => by
    show oLen ((20, 0) :: nots k) = _
    rw [oLen_c, nots_len k]
    omega
theorem nots_Sh {K : Int → Bool} {nb : Int} (h : 1 ≤ nb) : ∀ k : Nat, Sh K (nots k) 0 nb 0 nb
  | 0 => ⟨rfl, rfl⟩
  | k + 1 => ⟨0, nb, Or.inr (Or.inr (Or.inr (Or.inr (Or.inl ⟨rfl, rfl, rfl, h, rfl, rfl⟩)))), nots_Sh h k⟩
theorem nots_a (E : OpL) (k : Nat) : E ++ [(20, 0)] ++ nots k = E ++ nots (k + 1) := by
  rw [List.append_assoc]
  rfl
/-- class: the nots are emitted, and their opening taken back -/
theorem z_notsC {s0 i o : Int} {t : BX9} (i8 : i ≤ 8) : ∀ (n : Nat) (k : Int) (c : BX4) (E : OpL) (F : Nat), WC c s0 E → k + (n : Int) = i → 0 ≤ k → s0 + oLen E + (n : Int) ≤ 300 → pX4_open c = iI o → n < F → Wp (f_X4_ask_b90 F (iI i, iI k, c, t)) (fun r => r.1 = 1 ∧ r.2.2 = t ∧ pX4_open r.2.1 = iI (o - i) ∧ pX4_told r.2.1 = pX4_told c ∧ pX4_used r.2.1 = pX4_used c ∧ pX4_fault r.2.1 = pX4_fault c ∧ pX4_place r.2.1 = pX4_place c ∧ WC r.2.1 s0 (E ++ nots n) ∧ CBl c r.2.1 s0) := by
  intro n
  induction n with
  | zero =>
    intro k c E F hw hk k0 hl ho hF
    obtain ⟨F, rfl⟩ : ∃ f, F = f + 1 := ⟨F - 1, by omega⟩
    show Wp (f_X4_ask_b90B (f_X4_ask_b90 F) (iI i) (iI k) c t) _
    unfold f_X4_ask_b90B
    rw [if_pos ((iI_le (by omega) (by omega) (by omega) (by omega)).mpr (by omega)), ho, iI_sub]
    refine wp_lt (wp_lt (wp_some ⟨rfl, rfl, rfl, rfl, rfl, rfl, rfl, ?_, CBl.of rfl⟩))
    rw [show E ++ nots 0 = E from List.append_nil _]
    exact hw.cg rfl rfl
  | succ n ih =>
    intro k c E F hw hk k0 hl ho hF
    obtain ⟨F, rfl⟩ : ∃ f, F = f + 1 := ⟨F - 1, by omega⟩
    show Wp (f_X4_ask_b90B (f_X4_ask_b90 F) (iI i) (iI k) c t) _
    unfold f_X4_ask_b90B
    rw [if_neg (fun x => absurd ((iI_le (by omega) (by omega) (by omega) (by omega)).mp x) (by omega))]
    refine wp_bind (wp_mono (show Wp (f_X4_emit c (iI 6) (iI 0)) _ from z_emitC (o := 20) (v := 0) hw (by omega) (o' := 6) rfl) ?_)
    rintro u ⟨u1, u2, u3⟩
    rw [show (iI k + 1 : Int32) = iI (k + 1) from iI_add k 1]
    refine wp_lt (wp_mono (ih (k + 1) u (E ++ [(20, 0)]) F u2 (by omega) (by omega) (by rw [oLen_a, oLen_1]; omega) (u1.1.trans ho) (by omega)) ?_)
    rintro r ⟨r1, r2, r3, r4, r5, r6, r7, r8, r9⟩
    refine ⟨r1, r2, r3, r4.trans u1.2.1, r5.trans u1.2.2.1, r6.trans u1.2.2.2.1, r7.trans u1.2.2.2.2, ?_, u3.trans r9⟩
    rw [← nots_a]
    exact r8
theorem z_notsM {b w0 i : Int} (i8 : i ≤ 8) : ∀ (n : Nat) (k : Int) (m : BX12) (E : OpL) (F : Nat), WR m b w0 E → k + (n : Int) = i → 0 ≤ k → w0 + oLen E + (n : Int) ≤ 300 → n < F → Wp (f_X12_ask_b105 F (iI i, iI k, m)) (fun r => r.1 = 0 ∧ FrG m r.2 ∧ WR r.2 b w0 (E ++ nots n) ∧ TBl m r.2 b w0) := by
  intro n
  induction n with
  | zero =>
    intro k m E F hw hk k0 hl hF
    obtain ⟨F, rfl⟩ : ∃ f, F = f + 1 := ⟨F - 1, by omega⟩
    show Wp (f_X12_ask_b105B (f_X12_ask_b105 F) (iI i) (iI k) m) _
    unfold f_X12_ask_b105B
    rw [if_pos ((iI_le (by omega) (by omega) (by omega) (by omega)).mpr (by omega))]
    refine wp_some ⟨rfl, FrG.refl m, ?_, TBl.of rfl⟩
    rw [show E ++ nots 0 = E from List.append_nil _]
    exact hw
  | succ n ih =>
    intro k m E F hw hk k0 hl hF
    obtain ⟨F, rfl⟩ : ∃ f, F = f + 1 := ⟨F - 1, by omega⟩
    show Wp (f_X12_ask_b105B (f_X12_ask_b105 F) (iI i) (iI k) m) _
    unfold f_X12_ask_b105B
    rw [if_neg (fun x => absurd ((iI_le (by omega) (by omega) (by omega) (by omega)).mp x) (by omega))]
    refine wp_bind (wp_mono (show Wp (f_X12_emit m (iI 20) (iI 0)) _ from z_emitM (o := 20) (v := 0) hw (by omega)) ?_)
    rintro u ⟨u1, u2, u3⟩
    rw [show (iI k + 1 : Int32) = iI (k + 1) from iI_add k 1]
    refine wp_lt (wp_mono (ih (k + 1) u (E ++ [(20, 0)]) F u2 (by omega) (by omega) (by rw [oLen_a, oLen_1]; omega) (by omega)) ?_)
    rintro r ⟨r1, r2, r3, r4⟩
    refine ⟨r1, u1.trans r2, ?_, u3.trans r4⟩
    rw [← nots_a]
    exact r3
/-- the reference's ask behind its nots -/
def askR (x1 : Int32) (v0 : BX12) : Option (Int32 × BX12) := (f_X12_summed v0).bind (fun r_7 => if (r_7.1 : Int32) = 0 then ((f_X12_compareOf r_7.2).bind (fun r_9 => if (0 : Int32) ≤ r_9 then ((f_X12_nextToken r_7.2).bind (fun r_11 => (f_X12_summed r_11).bind (fun r_12 => if (r_12.1 : Int32) = 0 then ((f_X12_emit r_12.2 r_9 0).bind (fun r_14 => g_lt (((pX12_opens r_14) - x1) : Int32) (fun x_15 => g_lt (sX12_opens r_14 x_15) (fun v0_16 => f_X12_ask_b105 fU (x1, 0, v0_16))))) else (some (r_12.1, r_12.2))))) else (some (1, r_7.2)))) else (some (r_7.1, r_7.2)))
theorem ask_core {D : PD} {c0 c : BX4} {t : BX9} {m : BX12} {j i : Int} {E : OpL} {nb : Int} (hS : PS D c t m j i E E) (ho : pX12_opens m = iI i) (hl : ds D + oLen E + i ≤ j) (hnb : 0 ≤ nb ∧ nb ≤ 2) (hc : pX4_open c0 = iI 0 ∧ pX4_told c = pX4_told c0 ∧ pX4_used c = pX4_used c0 ∧ pX4_fault c = pX4_fault c0 ∧ pX4_place c = pX4_place c0 ∧ CBl c0 c (ds D)) : Wp (f_X4_ask_b35 (iI i) c t) (TopO D c0 m (j - i) 0 E 0 nb 0 (nb + 1) (askR (iI i) m)) := by
  have i8 := hS.2.2.1.2
  have hf := hS.2.2.2.1
  have hn := hS.1.n
  unfold f_X4_ask_b35
  refine wp_bind (wp_mono (summed_top (nv := 0) (nb := nb) hS ho (by omega) (by omega)) ?_)
  rintro r (⟨r1, m1, j1, ops1, q1, q2, q3, q4, q5, q6, q7, q8, q9, q10⟩ | ⟨r1, f, m', j', f1, f2, f3, f4, f5, f6, f7⟩)
  · rw [if_neg (by rw [r1]; decide)]
    have kb := q3.1.tk.kb
    have jb1 := q3.1.n
    rw [q3.2.1.2.2.2.1, z_compareC kb, bind_s]
    have hM := z_compareM q3.1.tk
    rcases cmO_bd (dK D j1) with hc1 | ⟨c1, c2, c3, c4⟩
    · rw [if_pos hc1, if_pos (show iI (-1) = -1 from rfl)]
      refine z_ref (f := 1) q3.2.2.2.2.2.1.sz q3.2.2.2.1 q3.2.1.2.2.2.2.1 (fun u u1 u2 => Or.inr ⟨u1, 1, m1, j1, by omega, by omega, u2, q3.1.place, q8, q7, ?_⟩)
      unfold askR
      rw [q2, bind_s, if_pos (show ((0 : Int32), m1).1 = 0 from rfl), hM, bind_s, hc1, if_neg (show ¬ (0 : Int32) ≤ iI (-1) by decide)]
      rfl
    · have jn1 := jb1.2.2 c3
      rw [if_neg (show ¬ cmO (dK D j1) = -1 by omega), if_neg (show ¬ iI (cmO (dK D j1) + 3) = -1 from iI_ne (b := -1) (by omega) (by omega) (by omega) (by omega) (by omega))]
      refine wp_bind (wp_mono (CT.adv q3.2.1 jb1.2.1.2) ?_)
      intro t1 ht1
      obtain ⟨m2, e2, g1, g2⟩ := MJ.next q3.1
      have ht1 : CJ D t1 (nx (dn D) j1) := ht1
      rw [nx_in jn1] at ht1 g2
      have hS2 : PS D r.2.1 t1 m2 (j1 + 1) i (E ++ ops1) (E ++ ops1) := ⟨g2, ht1, q3.2.2.1, q3.2.2.2.1, q3.2.2.2.2.1.trans g1.q.letters.symm, q3.2.2.2.2.2.1, q3.2.2.2.2.2.2.1.cg g1.text0 g1.written g1.texts, q3.2.2.2.2.2.2.2⟩
      have hlen1 : oLen (E ++ ops1) = oLen E + oLen ops1 := oLen_a E ops1
      have ask0 : askR (iI i) m = (f_X12_summed m2).bind (fun r_12 => if (r_12.1 : Int32) = 0 then ((f_X12_emit r_12.2 (iI (cmO (dK D j1))) 0).bind (fun r_14 => g_lt (((pX12_opens r_14) - iI i) : Int32) (fun x_15 => g_lt (sX12_opens r_14 x_15) (fun v0_16 => f_X12_ask_b105 fU (iI i, 0, v0_16))))) else (some (r_12.1, r_12.2))) := by
        unfold askR
        rw [q2, bind_s, if_pos (show ((0 : Int32), m1).1 = 0 from rfl), hM, bind_s, if_pos (show (0 : Int32) ≤ iI (cmO (dK D j1)) from (iI_le (a := 0) (by omega) (by omega) (by omega) (by omega)).mpr (by omega)), show f_X12_nextToken ((0 : Int32), m1).2 = some m2 from e2, bind_s]
      refine wp_bind (wp_mono (summed_top (nv := 0 + 1) (nb := nb) hS2 (g1.opens.trans q4) (by omega) (by omega)) ?_)
      rintro s (⟨s1, m3, j3, ops2, p1, p2, p3, p4, p5, p6, p7, p8, p9, p10⟩ | ⟨s1, f, m', j', f1, f2, f3, f4, f5, f6, f7⟩)
      · rw [if_neg (by rw [s1]; decide)]
        have jb3 := p3.1.n
        have hlen2 : oLen (E ++ ops1 ++ ops2) = oLen E + oLen ops1 + oLen ops2 := by rw [oLen_a, oLen_a]
        refine wp_bind (wp_mono (show Wp (f_X4_emit s.2.1 (iI (cmO (dK D j1) + 3)) (iI 0)) _ from z_emitC (o := cmO (dK D j1)) (v := 0) p3.2.2.2.2.2.1 (by omega) (o' := cmO (dK D j1) + 3) (by rcases c4 with e | e | e | e | e | e <;> rw [e] <;> rfl)) ?_)
        rintro u ⟨u1, u2, u3⟩
        obtain ⟨m4, e4, v1, v2, v3⟩ := z_emitM (o := cmO (dK D j1)) (v := 0) p3.2.2.2.2.2.2.1 (by have := p3.2.2.2.2.2.2.2; omega)
        have fO : FrJ m4 (sX12_opens m4 (iI 0)) := FrJ.s_opens (FrJ.refl m4) _
        have x1 : pX12_opens (sX12_opens m4 (iI 0)) = iI 0 := rfl
        have x2 : pX12_texts (sX12_opens m4 (iI 0)) = pX12_texts m4 := rfl
        have x3 : pX12_written (sX12_opens m4 (iI 0)) = pX12_written m4 := rfl
        have eop : pX12_opens m4 - iI i = iI 0 := by
          rw [v1.opens, p4, iI_sub]
          congr 1
          omega
        have ask1 : askR (iI i) m = f_X12_ask_b105 fU (iI i, iI 0, sX12_opens m4 (iI 0)) := by
          rw [ask0, p2, bind_s, if_pos (show ((0 : Int32), m3).1 = 0 from rfl), show f_X12_emit ((0 : Int32), m3).2 (iI (cmO (dK D j1))) 0 = some m4 from e4, bind_s, lt_e, lt_e, eop]
          rfl
        generalize sX12_opens m4 (iI 0) = m5 at fO x1 x2 x3 ask1
        obtain ⟨⟨r5, m6⟩, e6, y1, y2, y3, y4⟩ := z_notsM (b := db D) (w0 := dw D) (i := i) i8.2 i.toNat 0 m5 (E ++ ops1 ++ ops2 ++ [(cmO (dK D j1), 0)]) fU (v2.cg fO.q.text0 x3 x2) (by omega) (by omega) (by rw [oLen_a, oLen_1]; have := p3.2.2.2.2.2.2.2; omega) (by rw [fU_v]; omega)
        have y1 : r5 = 0 := y1
        rw [y1] at e6
        have od : pX4_open u = iI i := (u1.1.trans p5.1).trans (q5.1.trans hS.2.2.1.1)
        refine wp_mono (show Wp (f_X4_ask_b90 fU (iI i, iI 0, u, s.2.2)) _ from z_notsC (s0 := ds D) (i := i) (o := i) (t := s.2.2) i8.2 i.toNat 0 u (E ++ ops1 ++ ops2 ++ [(cmO (dK D j1), 0)]) fU u2 (by omega) (by omega) (by rw [oLen_a, oLen_1]; omega) od (by rw [fU_v]; omega)) ?_
        rintro ⟨r7, c7, t7⟩ ⟨z1, z2, z3, z4, z5, z6, z7, z8, z9⟩
        have z1 : r7 = 1 := z1
        have z2 : t7 = s.2.2 := z2
        have hopsE : E ++ (ops1 ++ ops2 ++ [(cmO (dK D j1), 0)] ++ nots i.toNat) = E ++ ops1 ++ ops2 ++ [(cmO (dK D j1), 0)] ++ nots i.toNat := by simp only [List.append_assoc]
        have tld : pX4_told c7 = pX4_told c := z4.trans (u1.2.1.trans (p5.2.1.trans q5.2.1))
        have fQ : FrQ m m6 := q8.trans (g1.q.trans (p8.trans (v1.q.trans (fO.q.trans y2.q))))
        refine Or.inl ⟨z1, m6, j3, ops1 ++ ops2 ++ [(cmO (dK D j1), 0)] ++ nots i.toNat, by omega, ?_, ⟨((p3.1.cg v1.j).cg fO).cg y2.j, by rw [show ((r7, c7, t7) : Int32 × BX4 × BX9).2.2 = s.2.2 from z2]; exact p3.2.1, ⟨?_, by omega, by omega⟩, ?_, ?_, ?_, ?_, hS.2.2.2.2.2.2.2⟩, y2.opens.trans x1, ⟨?_, ?_, ?_, ?_, ?_⟩, ?_, ?_, fQ, ?_, ?_⟩
        · rw [ask1]
          exact e6
        · rw [show pX4_open ((r7, c7, t7) : Int32 × BX4 × BX9).2.1 = iI (i - i) from z3]
          congr 1
          omega
        · exact z6.trans (u1.2.2.2.1.trans p3.2.2.2.1)
        · exact tld.trans (hS.2.2.2.2.1.trans fQ.letters.symm)
        · rw [hopsE]
          exact z8
        · rw [hopsE]
          exact y3
        · rw [show pX4_open ((r7, c7, t7) : Int32 × BX4 × BX9).2.1 = iI (i - i) from z3, hc.1]
          congr 1
          omega
        · exact tld.trans hc.2.1
        · exact (z5.trans (u1.2.2.1.trans (p5.2.2.1.trans q5.2.2.1))).trans hc.2.2.1
        · exact (z6.trans (u1.2.2.2.1.trans (p5.2.2.2.1.trans q5.2.2.2.1))).trans hc.2.2.2.1
        · exact (z7.trans (u1.2.2.2.2.trans (p5.2.2.2.2.trans q5.2.2.2.2))).trans hc.2.2.2.2.1
        · exact hc.2.2.2.2.2.trans (q6.trans (p6.trans (u3.trans z9)))
        · exact q7.trans ((TBl.of g1.texts).trans (p7.trans (v3.trans ((TBl.of x2).trans y4))))
        · rw [oLen_a, oLen_a, oLen_a, oLen_1, nots_len]
          omega
        · have k0 : bitK (pX4_told c0) = bitK (pX4_told c) := by rw [hc.2.1]
          have k1 : bitK (pX4_told r.2.1) = bitK (pX4_told c) := by rw [q5.2.1]
          rw [k1] at p10
          rw [k0]
          exact Sh_a _ _ 0 nb 0 (nb + 1) 0 (nb + 1) (Sh_a _ _ 0 nb (0 + 1 + 1) nb 0 (nb + 1) (Sh_a _ _ 0 nb (0 + 1) nb (0 + 1 + 1) nb q10 p10) ⟨0, nb + 1, Or.inr (Or.inr (Or.inr (Or.inl ⟨by omega, rfl, by omega, rfl, rfl⟩))), rfl, rfl⟩) (nots_Sh (by omega) _)
      · rw [if_pos s1]
        refine wp_some (Or.inr ⟨rfl, f, m', j', f1, by omega, f3, f4, q8.trans (g1.q.trans f5), q7.trans ((TBl.of g1.texts).trans f6), ?_⟩)
        rw [ask0, f7, bind_s, if_neg (show ¬ (iI f, m').1 = 0 from iI_ne (b := 0) (by omega) (by omega) (by omega) (by omega) (by omega))]
  · rw [if_pos r1]
    refine wp_some (Or.inr ⟨rfl, f, m', j', f1, by omega, f3, f4, f5, f6, ?_⟩)
    unfold askR
    rw [f7, bind_s, if_neg (show ¬ (iI f, m').1 = 0 from iI_ne (b := 0) (by omega) (by omega) (by omega) (by omega) (by omega))]
theorem TopO.from {D : PD} {c : BX4} {m m1 : BX12} {j j1 o : Int} {E : OpL} {nv nb a b : Int} {x : Option (Int32 × BX12)} {r : Int32 × BX4 × BX9} (h : TopO D c m1 j1 o E nv nb a b x r) (hj : j ≤ j1) (hf : FrQ m m1) (ht : TBl m m1 (db D) (dw D)) : TopO D c m j o E nv nb a b x r := by
  rcases h with ⟨r1, m', j', ops, q1, q2, q3, q4, q5, q6, q7, q8, q9, q10⟩ | ⟨r1, h⟩
  · exact Or.inl ⟨r1, m', j', ops, by omega, q2, q3, q4, q5, q6, ht.trans q7, hf.trans q8, by omega, q10⟩
  · exact Or.inr ⟨r1, h.from hj hf ht⟩
theorem ask_loop {D : PD} {c0 : BX4} {E : OpL} {nb : Int} (hnb : 0 ≤ nb ∧ nb ≤ 2) : ∀ (n : Nat) (i : Int) (c : BX4) (t : BX9) (m : BX12) (j : Int) (F G : Nat), (n : Int) + i = 8 → PS D c t m j i E E → pX12_opens m = iI i → ds D + oLen E + i ≤ j → (pX4_open c0 = iI 0 ∧ pX4_told c = pX4_told c0 ∧ pX4_used c = pX4_used c0 ∧ pX4_fault c = pX4_fault c0 ∧ pX4_place c = pX4_place c0 ∧ CBl c0 c (ds D)) → n < F → n < G → Wp (f_X4_ask_b2 F (iI i, c, t)) (TopO D c0 m (j - i) 0 E 0 nb 0 (nb + 1) (f_X12_ask_b2 G (iI i, m))) := by
  intro n
  induction n with
  | zero =>
    intro i c t m j F G hi hS ho hl hc hF hG
    obtain ⟨F, rfl⟩ : ∃ f, F = f + 1 := ⟨F - 1, by omega⟩
    obtain ⟨G, rfl⟩ : ∃ g, G = g + 1 := ⟨G - 1, by omega⟩
    have kb := hS.1.tk.kb
    show Wp (f_X4_ask_b2B (f_X4_ask_b2 F) (iI i) c t) (TopO D c0 m (j - i) 0 E 0 nb 0 (nb + 1) (f_X12_ask_b2B (f_X12_ask_b2 G) (iI i) m))
    unfold f_X4_ask_b2B f_X12_ask_b2B
    rw [w_not, bind_s, z_isWord hS.1.tk (by omega) (by omega), bind_s, if_neg (show ¬ 8 < iI i from fun x => absurd ((iI_lt (a := 8) (by omega) (by omega) (by omega) (by omega)).mp x) (by omega)), hS.2.1.2.2.2.1]
    by_cases ck : dK D j = 7237492
    · rw [bI_t ck, if_neg (show ¬ (1 : Int32) = 0 by decide), if_pos (show iI (dK D j) = 7237492 by rw [ck]; rfl), ho, show i = 8 by omega, if_pos (show iI 8 = 8 from rfl)]
      refine wp_bind (wp_mono (z_enter8 hS.2.2.2.2.2.1.sz (by rw [hS.2.2.1.1, show i = 8 by omega]) hS.2.2.2.1 hS.2.1.2.2.2.2.1) ?_)
      rintro r ⟨r1, r2⟩
      rw [if_pos r1]
      exact wp_some (Or.inr ⟨rfl, 3, m, j, by omega, by have := hS.1.n; omega, r2, hS.1.place, FrQ.refl m, TBl.of rfl, rfl⟩)
    · rw [bI_f ck, if_pos (show (0 : Int32) = 0 from rfl), if_neg (show ¬ iI (dK D j) = 7237492 from iI_ne (b := 7237492) (by omega) (by omega) (by omega) (by omega) ck)]
      exact ask_core hS ho hl hnb hc
  | succ n ih =>
    intro i c t m j F G hi hS ho hl hc hF hG
    obtain ⟨F, rfl⟩ : ∃ f, F = f + 1 := ⟨F - 1, by omega⟩
    obtain ⟨G, rfl⟩ : ∃ g, G = g + 1 := ⟨G - 1, by omega⟩
    have kb := hS.1.tk.kb
    have i0 := hS.2.2.1.2
    have jb := hS.1.n
    show Wp (f_X4_ask_b2B (f_X4_ask_b2 F) (iI i) c t) (TopO D c0 m (j - i) 0 E 0 nb 0 (nb + 1) (f_X12_ask_b2B (f_X12_ask_b2 G) (iI i) m))
    unfold f_X4_ask_b2B f_X12_ask_b2B
    rw [w_not, bind_s, z_isWord hS.1.tk (by omega) (by omega), bind_s, if_neg (show ¬ 8 < iI i from fun x => absurd ((iI_lt (a := 8) (by omega) (by omega) (by omega) (by omega)).mp x) (by omega)), hS.2.1.2.2.2.1]
    by_cases ck : dK D j = 7237492
    · have jn := jb.2.2 (by omega)
      obtain ⟨t1, et, ht1⟩ := z_enter (c := c) hS.2.1 jn jb.2.1.2 hS.2.2.1.1 i0.1 (show i < 8 by omega)
      rw [bI_t ck, if_neg (show ¬ (1 : Int32) = 0 by decide), if_pos (show iI (dK D j) = 7237492 by rw [ck]; rfl), ho, if_neg (show ¬ iI i = 8 from iI_ne (b := 8) (by omega) (by omega) (by omega) (by omega) (by omega)), et, bind_s, if_neg (show ¬ ((1 : Int32), sX4_open c (iI (i + 1)), t1).1 = 0 from (by decide : ¬ (1 : Int32) = 0)), show (iI i + 1 : Int32) = iI (i + 1) from iI_add i 1, lt_e, lt_e, lt_e, lt_e]
      have fO : FrJ m (sX12_opens m (iI (i + 1))) := FrJ.s_opens (FrJ.refl m) _
      have x1 : pX12_opens (sX12_opens m (iI (i + 1))) = iI (i + 1) := rfl
      have x2 : pX12_texts (sX12_opens m (iI (i + 1))) = pX12_texts m := rfl
      have x3 : pX12_written (sX12_opens m (iI (i + 1))) = pX12_written m := rfl
      generalize sX12_opens m (iI (i + 1)) = m1 at fO x1 x2 x3 ⊢
      obtain ⟨m2, e2, g1, g2⟩ := MJ.next (hS.1.cg fO)
      rw [nx_in jn] at g2
      rw [e2, bind_s]
      refine wp_mono (ih (i + 1) (sX4_open c (iI (i + 1))) t1 m2 (j + 1) F G (by omega) ⟨g2, ht1, ⟨rfl, by omega, by omega⟩, hS.2.2.2.1, hS.2.2.2.2.1.trans (fO.q.letters.symm.trans g1.q.letters.symm), hS.2.2.2.2.2.1.cg rfl rfl, (hS.2.2.2.2.2.2.1.cg fO.q.text0 x3 x2).cg g1.text0 g1.written g1.texts, hS.2.2.2.2.2.2.2⟩ (g1.opens.trans x1) (by omega) ⟨hc.1, hc.2.1, hc.2.2.1, hc.2.2.2.1, hc.2.2.2.2.1, hc.2.2.2.2.2⟩ (by omega) (by omega)) ?_
      intro r hr
      exact hr.from (by omega) (fO.q.trans g1.q) ((TBl.of x2).trans (TBl.of g1.texts))
    · rw [bI_f ck, if_pos (show (0 : Int32) = 0 from rfl), if_neg (show ¬ iI (dK D j) = 7237492 from iI_ne (b := 7237492) (by omega) (by omega) (by omega) (by omega) ck)]
      exact ask_core hS ho hl hnb hc
theorem ask_all {D : PD} {c : BX4} {t : BX9} {m : BX12} {j : Int} {E : OpL} {nb : Int} (hS : PS D c t m j 0 E E) (ho : pX12_opens m = iI 0) (hl : ds D + oLen E ≤ j) (hnb : 0 ≤ nb ∧ nb ≤ 2) : Wp (f_X4_ask c t) (TopO D c m j 0 E 0 nb 0 (nb + 1) (f_X12_ask m)) := by
  have h := ask_loop hnb 8 0 c t m j fU fU (by omega) hS ho (by omega) ⟨hS.2.2.1.1, rfl, rfl, rfl, rfl, CBl.of rfl⟩ (by rw [fU_v]; omega) (by rw [fU_v]; omega)
  rw [show j - 0 = j by omega] at h
  exact h
