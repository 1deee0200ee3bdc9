-- layer 2: either
theorem z_b35 {m : BX12} {k v : Int} {J : Int32 × Int32 × Int32 × BX12 → Option (Int32 × BX12)} (h : TKM m k v) (x2 : Int32) : f_X12_either_b35 J x2 m = f_X12_either_b73 J (bI (k = 6385252)) x2 (bI (k = 28530)) m := by
  have hw := z_isWord h (W := 28530) (by omega) (by omega)
  unfold f_X12_isWord at hw
  unfold f_X12_either_b35 f_X12_either_b72
  rw [w_and, bind_s, z_isWord h (by omega) (by omega), bind_s]
  by_cases c : pX12_token m = 2
  · rw [if_pos c] at hw ⊢
    by_cases d : lg_cmp (pX12_word m) (lI 28530) = 0
    · rw [if_pos d] at hw
      rw [if_pos (show lg_cmp (pX12_word m) 28530 = 0 from d), ← Option.some.inj hw]
    · rw [if_neg d] at hw
      rw [if_neg (show ¬ lg_cmp (pX12_word m) 28530 = 0 from d), ← Option.some.inj hw]
  · rw [if_neg c] at hw ⊢
    rw [← Option.some.inj hw]
theorem z_andOr {k : Int} (kb : -6 ≤ k ∧ k < 2147483648) : f_X4_isAndOr (iI k) = some (bI (k = 6385252 ∨ k = 28530)) := by
  unfold f_X4_isAndOr
  by_cases c1 : k = 6385252
  · rw [bI_t (Or.inl c1), c1]
    rfl
  · rw [if_neg (show ¬ iI k = 6385252 from iI_ne (b := 6385252) (by omega) (by omega) (by omega) (by omega) c1)]
    by_cases c2 : k = 28530
    · rw [bI_t (Or.inr c2), c2]
      rfl
    · rw [if_neg (show ¬ iI k = 28530 from iI_ne (b := 28530) (by omega) (by omega) (by omega) (by omega) c2), bI_f (by omega)]
theorem ei_flt9 {D : PD} {c : BX4} {t : BX9} {m0 : BX12} {j0 : Int} {y : Option (Int32 × BX12)} {P : Int32 × BX4 × BX9 → Prop} (h : FltT D m0 j0 (0, c, t) y) (hP : ∀ r : Int32 × BX4 × BX9, r.1 = 0 → FltT D m0 j0 r y → P r) (x1 x3 : Int32) (F : Nat) : Wp (f_X4_either_b9 (F + 1) (x1, 0, x3, c, t)) P := by
  have last : Wp (f_X4_either_b103 x1 0 c t) P := by
    unfold f_X4_either_b103
    by_cases h1 : x1 = 0
    · rw [if_pos h1]
      exact wp_gd (Or.inl rfl) (wp_some (hP _ rfl h))
    · rw [if_neg h1]
      refine wp_bind (wp_mono (h.emit 20 0) ?_)
      intro u hu
      exact wp_gd (Or.inl rfl) (wp_some (hP _ rfl hu))
  show Wp (f_X4_either_b9B (f_X4_either_b9 F) x1 0 x3 c t) P
  unfold f_X4_either_b9B
  by_cases h3 : (300 : Int32) ≤ x3
  · rw [if_pos h3]
    exact last
  · rw [if_neg h3, if_pos rfl]
    exact last
/-- reference: one more ask -/
theorem ei_go (G : Nat) (x1 x2 : Int32) (m : BX12) : f_X12_either_b6 (G + 1) (x1, x2, 1, m) = (f_X12_ask m).bind (fun r_13 => if (r_13.1 : Int32) = 0 then (if (x1 : Int32) = 0 then (f_X12_either_b35 (f_X12_either_b6 G) x2 r_13.2) else ((f_X12_emit r_13.2 21 0).bind (fun r_16 => f_X12_either_b35 (f_X12_either_b6 G) x2 r_16))) else (some (r_13.1, r_13.2))) := by
  show f_X12_either_b6B (f_X12_either_b6 G) x1 x2 1 m = _
  unfold f_X12_either_b6B
  rw [if_neg (show ¬ (1 : Int32) = 0 by decide)]
/-- the state at the loop's head: an or waits (w = 1) or not -/
def EiH (D : PD) (c0 : BX4) (m0 : BX12) (j0 : Int) (E : OpL) (w : Int) (c : BX4) (t : BX9) (m : BX12) (j : Int) : Prop := ∃ ops : OpL, j0 < j ∧ (w = 0 ∨ w = 1) ∧ PS D c t m j 0 (E ++ ops) (E ++ ops) ∧ pX12_opens m = iI 0 ∧ FrZ c0 c ∧ CBl c0 c (ds D) ∧ TBl m0 m (db D) (dw D) ∧ FrQ m0 m ∧ oLen ops + w ≤ j - j0 ∧ Sh (bitK (pX4_told c0)) ops 0 0 0 (1 + w)
theorem ei_loop {D : PD} {c0 : BX4} {m0 : BX12} {j0 : Int} {E : OpL} (hj0 : 0 ≤ j0) (hl : ds D + oLen E ≤ j0) : ∀ (d : Nat) (w : Int) (c : BX4) (t : BX9) (m : BX12) (j x3 : Int) (F G : Nat), EiH D c0 m0 j0 E w c t m j → dn D - j < (d : Int) → (0 ≤ x3 ∧ x3 < j) → d + 1 ≤ F → d ≤ G → Wp (f_X4_either_b9 F (iI w, 1, iI x3, c, t)) (TopO D c0 m0 j0 0 E 0 0 0 1 (f_X12_either_b35 (f_X12_either_b6 G) (iI w) m)) := by
  intro d
  induction d with
  | zero =>
    intro w c t m j x3 F G hH hd hx hF hG
    obtain ⟨ops, a1, a2, a3, _⟩ := hH
    have := a3.1.n
    omega
  | succ d ih =>
    intro w c t m j x3 F G hH hd hx hF hG
    obtain ⟨F, rfl⟩ : ∃ f, F = (f + 1) + 1 := ⟨F - 2, by omega⟩
    obtain ⟨G, rfl⟩ : ∃ g, G = g + 1 := ⟨G - 1, by omega⟩
    obtain ⟨ops, a1, a2, a3, a4, a5, a6, a7, a8, a9, a10⟩ := hH
    have jb := a3.1.n
    have kb := a3.1.tk.kb
    have hws := a3.2.2.2.2.2.2.2
    have hlen : oLen (E ++ ops) = oLen E + oLen ops := oLen_a E ops
    have x3e : (iI x3 + 1 : Int32) = iI (x3 + 1) := iI_add x3 1
    rw [z_b35 a3.1.tk]
    show Wp (f_X4_either_b9B (f_X4_either_b9 (F + 1)) (iI w) 1 (iI x3) c t) _
    unfold f_X4_either_b9B
    rw [if_neg (show ¬ 300 ≤ iI x3 from fun e => absurd ((iI_le (a := 300) (by omega) (by omega) (by omega) (by omega)).mp e) (by omega)), if_neg (show ¬ (1 : Int32) = 0 by decide), a3.2.1.2.2.2.1, z_andOr kb, bind_s]
    by_cases c1 : dK D j = 6385252
    · -- and
      have jn := jb.2.2 (by omega)
      rw [bI_t (Or.inl c1), if_neg (show ¬ (1 : Int32) = 0 by decide), if_pos (show iI (dK D j) = 6385252 by rw [c1]; rfl), bI_t c1, bI_f (show ¬ dK D j = 28530 by omega)]
      obtain ⟨m1, e1, g1, g2⟩ := MJ.next a3.1
      rw [nx_in jn] at g2
      have hy : f_X12_either_b73 (f_X12_either_b6 (G + 1)) 1 (iI w) 0 m = (f_X12_ask m1).bind (fun r_13 => if (r_13.1 : Int32) = 0 then ((f_X12_emit r_13.2 21 0).bind (fun r_16 => f_X12_either_b35 (f_X12_either_b6 G) (iI w) r_16)) else (some (r_13.1, r_13.2))) := by
        unfold f_X12_either_b73 f_X12_either_b93 f_X12_either_b102 f_X12_either_b107
        rw [if_neg (show ¬ (1 : Int32) = 0 by decide), if_neg (show ¬ (1 : Int32) = 0 by decide), if_neg (show ¬ (1 : Int32) = 0 by decide), e1, bind_s, ei_go]
        rfl
      rw [hy]
      unfold f_X4_either_b50 f_X4_either_b68
      rw [if_neg (show ¬ (1 : Int32) = 0 by decide)]
      refine wp_bind (wp_mono (CT.adv a3.2.1 jb.2.1.2) ?_)
      intro t1 ht1
      have ht1 : CJ D t1 (nx (dn D) j) := ht1
      rw [nx_in jn] at ht1
      refine wp_bind (wp_mono (ask_all (nb := 1 + w) ⟨g2, ht1, a3.2.2.1, a3.2.2.2.1, a3.2.2.2.2.1.trans g1.q.letters.symm, a3.2.2.2.2.2.1, a3.2.2.2.2.2.2.1.cg g1.text0 g1.written g1.texts, hws⟩ (g1.opens.trans a4) (by omega) (by omega)) ?_)
      rintro r (⟨r1, m', j', ops2, q1, q2, q3, q4, q5, q6, q7, q8, q9, q10⟩ | ⟨r1, hf⟩)
      · rw [if_neg (show ¬ (1 : Int32) = 0 by decide), q2, bind_s, if_pos (show ((0 : Int32), m').1 = 0 from rfl)]
        have jb' := q3.1.n
        have hlen2 : oLen (E ++ ops ++ ops2) = oLen E + oLen ops + oLen ops2 := by rw [oLen_a, oLen_a]
        refine wp_bind (wp_mono (show Wp (f_X4_emit r.2.1 (iI 19) (iI 0)) _ from z_emitC (o := 21) (v := 0) q3.2.2.2.2.2.1 (by omega) (o' := 19) rfl) ?_)
        rintro u ⟨u1, u2, u3⟩
        obtain ⟨m3, e3, v1, v2, v3⟩ := z_emitM (o := 21) (v := 0) q3.2.2.2.2.2.2.1 (by omega)
        rw [show f_X12_emit ((0 : Int32), m').2 21 0 = some m3 from e3, bind_s, r1]
        unfold f_X4_either_b97
        rw [x3e]
        refine wp_lt (ih w u r.2.2 m3 j' (x3 + 1) (F + 1) G ⟨ops ++ ops2 ++ [(21, 0)], by omega, a2, ⟨q3.1.cg v1.j, q3.2.1, ⟨u1.1.trans q3.2.2.1.1, by omega, by omega⟩, u1.2.2.2.1.trans q3.2.2.2.1, u1.2.1.trans (q3.2.2.2.2.1.trans v1.q.letters.symm), ?_, ?_, hws⟩, v1.opens.trans q4, (a5.trans q5).trans u1, a6.trans (q6.trans u3), a7.trans ((TBl.of g1.texts).trans (q7.trans v3)), a8.trans (g1.q.trans (q8.trans v1.q)), ?_, ?_⟩ (by omega) (by omega) (by omega) (by omega))
        · rw [show E ++ (ops ++ ops2 ++ [(21, 0)]) = E ++ ops ++ ops2 ++ [(21, 0)] by simp only [List.append_assoc]]
          exact u2
        · rw [show E ++ (ops ++ ops2 ++ [(21, 0)]) = E ++ ops ++ ops2 ++ [(21, 0)] by simp only [List.append_assoc]]
          exact v2
        · rw [oLen_a, oLen_a, oLen_1]
          omega
        · have k1 : bitK (pX4_told c) = bitK (pX4_told c0) := by rw [a5.2.1]
          rw [k1] at q10
          exact Sh_a _ _ 0 0 0 (1 + w + 1) 0 (1 + w) (Sh_a _ _ 0 0 0 (1 + w) 0 (1 + w + 1) a10 q10) ⟨0, 1 + w, Or.inr (Or.inr (Or.inr (Or.inr (Or.inr ⟨Or.inl rfl, rfl, rfl, by omega, rfl, by omega⟩)))), rfl, rfl⟩
      · rw [if_neg (show ¬ (1 : Int32) = 0 by decide)]
        have hf' : FltT D m0 j0 (0, r.2.1, r.2.2) ((f_X12_ask m1).bind (fun r_13 => if (r_13.1 : Int32) = 0 then ((f_X12_emit r_13.2 21 0).bind (fun r_16 => f_X12_either_b35 (f_X12_either_b6 G) (iI w) r_16)) else (some (r_13.1, r_13.2)))) := by
          obtain ⟨f, m', j', f1, f2, f3, f4, f5, f6, f7⟩ := hf
          refine ⟨f, m', j', f1, by omega, f3, f4, a8.trans (g1.q.trans f5), a7.trans ((TBl.of g1.texts).trans f6), ?_⟩
          rw [f7, bind_s, if_neg (show ¬ (iI f, m').1 = 0 from iI_ne (b := 0) (by omega) (by omega) (by omega) (by omega) (by omega))]
        refine wp_bind (wp_mono (hf'.emit 19 0) ?_)
        intro u hu
        rw [r1]
        unfold f_X4_either_b97
        exact wp_lt (ei_flt9 hu (fun r r1 r2 => Or.inr ⟨r1, r2⟩) _ _ F)
    · rw [bI_f c1]
      by_cases c2 : dK D j = 28530
      · -- or
        have jn := jb.2.2 (by omega)
        rw [bI_t (Or.inr c2), if_neg (show ¬ (1 : Int32) = 0 by decide), if_neg (show ¬ iI (dK D j) = 6385252 from iI_ne (b := 6385252) (by omega) (by omega) (by omega) (by omega) c1), bI_t c2]
        unfold f_X4_either_b50
        rw [if_pos (show (0 : Int32) = 0 from rfl)]
        have go : ∀ (c2 : BX4) (m2 : BX12) (ops' : OpL), PS D c2 t m2 j 0 (E ++ ops') (E ++ ops') → pX12_opens m2 = iI 0 → FrZ c0 c2 → CBl c0 c2 (ds D) → TBl m0 m2 (db D) (dw D) → FrQ m0 m2 → oLen ops' ≤ j - j0 → Sh (bitK (pX4_told c0)) ops' 0 0 0 1 → Wp (f_X4_either_b68 (f_X4_either_b9 (F + 1)) (iI w) (iI x3) 0 c2 t) (TopO D c0 m0 j0 0 E 0 0 0 1 (f_X12_either_b90 (f_X12_either_b6 (G + 1)) 0 1 m2)) := by
          intro c2 m2 ops' p1 p2 p3 p4 p5 p6 p7 p8
          have hlen' : oLen (E ++ ops') = oLen E + oLen ops' := oLen_a E ops'
          obtain ⟨m1, e1, g1, g2⟩ := MJ.next p1.1
          rw [nx_in jn] at g2
          have hy : f_X12_either_b90 (f_X12_either_b6 (G + 1)) 0 1 m2 = (f_X12_ask m1).bind (fun r_13 => if (r_13.1 : Int32) = 0 then (f_X12_either_b35 (f_X12_either_b6 G) 1 r_13.2) else (some (r_13.1, r_13.2))) := by
            unfold f_X12_either_b90 f_X12_either_b93 f_X12_either_b102 f_X12_either_b107
            rw [if_pos (show (0 : Int32) = 0 from rfl), if_neg (show ¬ (1 : Int32) = 0 by decide), if_neg (show ¬ (1 : Int32) = 0 by decide), e1, bind_s, ei_go]
            rfl
          rw [hy]
          unfold f_X4_either_b68
          refine wp_bind (wp_mono (CT.adv p1.2.1 jb.2.1.2) ?_)
          intro t1 ht1
          have ht1 : CJ D t1 (nx (dn D) j) := ht1
          rw [nx_in jn] at ht1
          refine wp_bind (wp_mono (ask_all (nb := 1) ⟨g2, ht1, p1.2.2.1, p1.2.2.2.1, p1.2.2.2.2.1.trans g1.q.letters.symm, p1.2.2.2.2.2.1, p1.2.2.2.2.2.2.1.cg g1.text0 g1.written g1.texts, hws⟩ (g1.opens.trans p2) (by omega) (by omega)) ?_)
          rintro r (⟨r1, m', j', ops2, q1, q2, q3, q4, q5, q6, q7, q8, q9, q10⟩ | ⟨r1, hf⟩)
          · rw [if_pos (show (0 : Int32) = 0 from rfl), q2, bind_s, if_pos (show ((0 : Int32), m').1 = 0 from rfl), r1]
            have jb' := q3.1.n
            unfold f_X4_either_b97
            rw [x3e]
            refine wp_lt (ih 1 r.2.1 r.2.2 m' j' (x3 + 1) (F + 1) G ⟨ops' ++ ops2, by omega, Or.inr rfl, ?_, q4, p3.trans q5, p4.trans q6, p5.trans ((TBl.of g1.texts).trans q7), p6.trans (g1.q.trans q8), ?_, ?_⟩ (by omega) (by omega) (by omega) (by omega))
            · rw [← List.append_assoc]
              exact q3
            · rw [oLen_a]
              omega
            · have k1 : bitK (pX4_told c2) = bitK (pX4_told c0) := by rw [p3.2.1]
              rw [k1] at q10
              exact Sh_a _ _ 0 0 0 1 0 (1 + 1) p8 q10
          · rw [if_pos (show (0 : Int32) = 0 from rfl), r1]
            have hf' : FltT D m0 j0 (0, r.2.1, r.2.2) ((f_X12_ask m1).bind (fun r_13 => if (r_13.1 : Int32) = 0 then (f_X12_either_b35 (f_X12_either_b6 G) 1 r_13.2) else (some (r_13.1, r_13.2)))) := by
              obtain ⟨f, m', j', f1, f2, f3, f4, f5, f6, f7⟩ := hf
              refine ⟨f, m', j', f1, by omega, f3, f4, p6.trans (g1.q.trans f5), p5.trans ((TBl.of g1.texts).trans f6), ?_⟩
              rw [f7, bind_s, if_neg (show ¬ (iI f, m').1 = 0 from iI_ne (b := 0) (by omega) (by omega) (by omega) (by omega) (by omega))]
            unfold f_X4_either_b97
            exact wp_lt (ei_flt9 hf' (fun r r1 r2 => Or.inr ⟨r1, r2⟩) _ _ F)
        unfold f_X12_either_b73
        rw [if_pos (show (0 : Int32) = 0 from rfl)]
        rcases a2 with w0 | w1
        · rw [if_pos (show iI w = 0 by rw [w0]; rfl), if_pos (show iI w = 0 by rw [w0]; rfl)]
          rw [w0] at a10
          exact go c m ops a3 a4 a5 a6 a7 a8 (by omega) a10
        · rw [if_neg (show ¬ iI w = 0 by rw [w1]; decide), if_neg (show ¬ iI w = 0 by rw [w1]; decide)]
          refine wp_bind (wp_mono (show Wp (f_X4_emit c (iI 20) (iI 0)) _ from z_emitC (o := 22) (v := 0) a3.2.2.2.2.2.1 (by omega) (o' := 20) rfl) ?_)
          rintro u ⟨u1, u2, u3⟩
          obtain ⟨m3, e3, v1, v2, v3⟩ := z_emitM (o := 22) (v := 0) a3.2.2.2.2.2.2.1 (by omega)
          rw [show f_X12_emit m 22 0 = some m3 from e3, bind_s]
          refine go u m3 (ops ++ [(22, 0)]) ⟨a3.1.cg v1.j, a3.2.1, ⟨u1.1.trans a3.2.2.1.1, by omega, by omega⟩, u1.2.2.2.1.trans a3.2.2.2.1, u1.2.1.trans (a3.2.2.2.2.1.trans v1.q.letters.symm), ?_, ?_, hws⟩ (v1.opens.trans a4) (a5.trans u1) (a6.trans u3) (a7.trans v3) (a8.trans v1.q) ?_ ?_
          · rw [← List.append_assoc]
            exact u2
          · rw [← List.append_assoc]
            exact v2
          · rw [oLen_a, oLen_1]
            omega
          · rw [w1] at a10
            exact Sh_a _ _ 0 0 0 (1 + 1) 0 1 a10 ⟨0, 1, Or.inr (Or.inr (Or.inr (Or.inr (Or.inr ⟨Or.inr rfl, rfl, rfl, by omega, rfl, by omega⟩)))), rfl, rfl⟩
      · -- the end
        rw [bI_f (show ¬ (dK D j = 6385252 ∨ dK D j = 28530) by omega), if_pos (show (0 : Int32) = 0 from rfl), bI_f c2]
        have fin : ∀ m2 : BX12, f_X12_either_b90 (f_X12_either_b6 (G + 1)) 0 0 m2 = some (0, m2) := by
          intro m2
          unfold f_X12_either_b90 f_X12_either_b93 f_X12_either_b107
          rw [if_pos (show (0 : Int32) = 0 from rfl), if_pos (show (0 : Int32) = 0 from rfl), if_pos (show (0 : Int32) = 0 from rfl)]
          show f_X12_either_b6B (f_X12_either_b6 G) 0 0 0 m2 = _
          unfold f_X12_either_b6B
          rw [if_pos (show (0 : Int32) = 0 from rfl)]
        unfold f_X12_either_b73 f_X4_either_b103
        rw [if_pos (show (0 : Int32) = 0 from rfl)]
        rcases a2 with w0 | w1
        · rw [if_pos (show iI w = 0 by rw [w0]; rfl), if_pos (show iI w = 0 by rw [w0]; rfl), fin]
          rw [w0] at a10
          exact wp_gd (Or.inr rfl) (wp_some (Or.inl ⟨rfl, m, j, ops, a1, rfl, a3, a4, a5, a6, a7, a8, by omega, a10⟩))
        · rw [if_neg (show ¬ iI w = 0 by rw [w1]; decide), if_neg (show ¬ iI w = 0 by rw [w1]; decide)]
          refine wp_bind (wp_mono (show Wp (f_X4_emit c (iI 20) (iI 0)) _ from z_emitC (o := 22) (v := 0) a3.2.2.2.2.2.1 (by omega) (o' := 20) rfl) ?_)
          rintro u ⟨u1, u2, u3⟩
          obtain ⟨m3, e3, v1, v2, v3⟩ := z_emitM (o := 22) (v := 0) a3.2.2.2.2.2.2.1 (by omega)
          rw [show f_X12_emit m 22 0 = some m3 from e3, bind_s, fin]
          refine wp_gd (Or.inr rfl) (wp_some (Or.inl ⟨rfl, m3, j, ops ++ [(22, 0)], a1, rfl, ⟨a3.1.cg v1.j, a3.2.1, ⟨u1.1.trans a3.2.2.1.1, by omega, by omega⟩, u1.2.2.2.1.trans a3.2.2.2.1, u1.2.1.trans (a3.2.2.2.2.1.trans v1.q.letters.symm), ?_, ?_, hws⟩, v1.opens.trans a4, a5.trans u1, a6.trans u3, a7.trans v3, a8.trans v1.q, ?_, ?_⟩))
          · rw [← List.append_assoc]
            exact u2
          · rw [← List.append_assoc]
            exact v2
          · rw [oLen_a, oLen_1]
            omega
          · rw [w1] at a10
            exact Sh_a _ _ 0 0 0 (1 + 1) 0 1 a10 ⟨0, 1, Or.inr (Or.inr (Or.inr (Or.inr (Or.inr ⟨Or.inr rfl, rfl, rfl, by omega, rfl, by omega⟩)))), rfl, rfl⟩
theorem either_all {D : PD} {c : BX4} {t : BX9} {m : BX12} {j : Int} {E : OpL} (hS : PS D c t m j 0 E E) (ho : pX12_opens m = iI 0) (hl : ds D + oLen E ≤ j) : Wp (f_X4_either c t) (TopO D c m j 0 E 0 0 0 1 (f_X12_either m)) := by
  have jb := hS.1.n
  unfold f_X4_either
  have hy : f_X12_either m = (f_X12_ask m).bind (fun r_13 => if (r_13.1 : Int32) = 0 then (f_X12_either_b35 (f_X12_either_b6 (fU - 1)) 0 r_13.2) else (some (r_13.1, r_13.2))) := by
    unfold f_X12_either
    rw [show fU = (fU - 1) + 1 from rfl, ei_go]
    rfl
  rw [hy]
  refine wp_bind (wp_mono (ask_all (nb := 0) hS ho hl (by omega)) ?_)
  rintro r (⟨r1, m', j', ops, q1, q2, q3, q4, q5, q6, q7, q8, q9, q10⟩ | ⟨r1, hf⟩)
  · rw [q2, bind_s, if_pos (show ((0 : Int32), m').1 = 0 from rfl), r1]
    exact ei_loop jb.1.1 hl 302 0 r.2.1 r.2.2 m' j' 0 fU (fU - 1) ⟨ops, q1, Or.inl rfl, q3, q4, q5, q6, q7, q8, by omega, q10⟩ (by have := q3.1.n; omega) (by omega) (by rw [fU_v]; omega) (by rw [fU_v]; omega)
  · rw [r1]
    have hf' : FltT D m j (0, r.2.1, r.2.2) ((f_X12_ask m).bind (fun r_13 => if (r_13.1 : Int32) = 0 then (f_X12_either_b35 (f_X12_either_b6 (fU - 1)) 0 r_13.2) else (some (r_13.1, r_13.2)))) := by
      obtain ⟨f, m', j', f1, f2, f3, f4, f5, f6, f7⟩ := hf
      refine ⟨f, m', j', f1, f2, f3, f4, f5, f6, ?_⟩
      rw [f7, bind_s, if_neg (show ¬ (iI f, m').1 = 0 from iI_ne (b := 0) (by omega) (by omega) (by omega) (by omega) (by omega))]
    rw [fU_v]
    exact ei_flt9 hf' (fun r r1 r2 => Or.inr ⟨r1, r2⟩) _ _ _
