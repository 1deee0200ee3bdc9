-- layer 2: a rule on a tick, both sides
theorem sTn_bd (x : Int) : -8 ≤ sTn x ∧ sTn x ≤ 8 := by
  unfold sTn
  split
  · omega
  · split <;> omega
theorem sGo_bd (x : Int) : 0 ≤ sGo x ∧ sGo x ≤ 16 := by
  unfold sGo
  split
  · omega
  · split <;> omega
theorem FrW.toH {m r : BX12} (f : FrW m r) : FrH m r := ⟨f.w, f.h, f.taped, f.fault, f.faultPlace, f.a, f.image, f.texts, f.tape, f.bound, f.ticks, f.atX, f.atY, f.heading, f.hit, f.rested, f.now, f.rows, f.keeps, f.before⟩
/-- what both sides have said so far on a tick -/
def SY (ov rs : Int) (c : BX6) (m : BX12) : Prop := (∃ k : Int, pX6_over c = iI k ∧ pX12_over m = iI (ov + k)) ∧ (∃ tn : Int, (-8 ≤ tn ∧ tn ≤ 8) ∧ pX6_turn c = iI tn ∧ pX12_turn m = iI tn) ∧ (∃ g : Int, (0 ≤ g ∧ g ≤ 16) ∧ pX6_go c = iI g ∧ pX12_go m = iI g) ∧ (rs = 0 ∨ rs = 1) ∧ pX6_rests c = iI rs
theorem z_work {m m1 : BX12} {d from_ to a b : Int} {len : Nat} (hlen : to = from_ + (len : Int)) (t1 : 0 ≤ from_) (t2 : to < 100000) (hl : len ≤ 1000) (h : ∀ F, f_X12_work_b9 (F + len) (iI d, iI to, iI 0, iI 0, iI from_, m) = f_X12_work_b9 F (iI d, iI to, iI a, iI b, iI to, m1)) : f_X12_work m (iI d) (iI from_) (iI to) = some m1 := by
  have e : fU = (fU - len) + len := by rw [fU_v]; omega
  obtain ⟨F, hF⟩ : ∃ F, fU - len = F + 1 := ⟨fU - len - 1, by rw [fU_v]; omega⟩
  unfold f_X12_work
  show f_X12_work_b9 fU (iI d, iI to, iI 0, iI 0, iI from_, m) = _
  rw [e, h, hF]
  show f_X12_work_b9B (f_X12_work_b9 F) (iI d) (iI to) (iI a) (iI b) (iI to) m1 = _
  unfold f_X12_work_b9B
  rw [if_pos (by rw [iI_le (by omega) (by omega) (by omega) (by omega)]; omega)]
theorem z_clauses {n : Nat} {code : Nat → Int32} {fl : BX2} {ey : BX1} {A : Int → Int} {tk : Int → Int → Int} {t : Int} {B ov b N : Int} (hB : 7 ≤ B) (hB2 : B ≤ 1000000) (hn : (n : Int) ≤ 400) (b1 : 0 ≤ b) (b2 : b ≤ 5600) (hN : N ≤ 10) : ∀ (p : Prog) (K : Int → Bool) (Lt : Int → Int) (rs cl i j : Int) (c : BX6) (m : BX12), EV fl ey m A tk t → LK K Lt c m → (pX6_bound c = iI B ∧ pX12_bound m = lI B) → pX6_top c = iI 0 → SY ov rs c m → pX12_texts m b.toNat = iI N → 0 ≤ cl → cl + p.length = N → 0 ≤ i → i + pOps p ≤ 300 → 0 ≤ j → j + pLen p ≤ n → WF p K → LayT (pX12_texts m) b p cl i → LayC code p j →
    ∃ (c' : BX6) (m' : BX12) (rs' : Int), (∀ F, f_X6_run_b27 n code fl ey (F + pLen p) (iI j, c) = f_X6_run_b27 n code fl ey F (iI (j + pLen p), c')) ∧ (∀ F, f_X12_think_b21 (F + p.length) (iI b, iI rs, iI cl, m) = f_X12_think_b21 F (iI b, iI rs', iI N, m')) ∧ SY ov rs' c' m' ∧ pX6_bound c' = iI B ∧ FrH m m' := by
  intro p
  induction p with
  | nil =>
    intro K Lt rs cl i j c m hE hK hb htop hS hT c1 c2 i1 i2 j1 j2 hW hl hc
    refine ⟨c, m, rs, fun F => ?_, fun F => ?_, hS, hb.1, FrH.refl m⟩
    · show _ = f_X6_run_b27 n code fl ey F (iI (j + ((0 : Nat) : Int)), c)
      rw [show j + ((0 : Nat) : Int) = j by omega]
      rfl
    · have e : cl = N := by
        rw [← c2]
        show cl = cl + ((0 : Nat) : Int)
        omega
      rw [e]
      rfl
  | cons q r ih =>
    intro K Lt rs cl i j c m hE hK hb htop hS hT c1 c2 i1 i2 j1 j2 hW hl hc
    obtain ⟨s, l, ops⟩ := q
    obtain ⟨t1, t2, t3, t4, tO, tR⟩ := hl
    obtain ⟨kO, kF, kR⟩ := hc
    rw [List.length_cons] at c2
    have hpl : pLen ((s, l, ops) :: r) = ops.length + 1 + pLen r := rfl
    have hpo : pOps ((s, l, ops) :: r) = oLen ops + pOps r := rfl
    have hol : oLen ops = (ops.length : Int) := rfl
    have hrn := pOps_nn r
    rw [hpl] at j2
    rw [hpo] at i2
    obtain ⟨⟨k, o1, o2⟩, ⟨tn, n1, n2, n3⟩, ⟨g, g1, g2, g3⟩, r1, r2⟩ := hS
    have hX : XR B ov 0 0 (fun _ => 0) (fun _ => 0) c m := ⟨hb, by rw [htop]; rfl, fun k k1 k2 => by omega, fun k k1 k2 => by omega, k, o1, o2⟩
    have hsl : (1 ≤ s ∧ s ≤ 4) ∧ 0 ≤ l ∧ l < 8 := by
      rcases hW with ⟨a1, a2, _⟩ | ⟨a1, a2, _⟩ | ⟨a1, a2, _⟩ <;> omega
    -- the integer or the truth that the clause leaves
    have run : ∀ a b' : Int, Sh K ops 0 0 a b' → ∃ (c1 : BX6) (m1 : BX12) (V T : Int → Int), (∀ F, f_X6_run_b27 n code fl ey (F + ops.length) (iI j, c) = f_X6_run_b27 n code fl ey F (iI (j + oLen ops), c1)) ∧ f_X12_work m (iI (b + 80)) (iI i) (iI (i + oLen ops)) = some m1 ∧ XR B ov a b' V T c1 m1 ∧ FrC c c1 ∧ FrW m m1 := by
      intro a b' hSh
      obtain ⟨c1, m1, V, T, f1, f2, hX1, fc, fw⟩ := z_ops hB hB2 hn (show 0 ≤ b + 80 by omega) (show b + 80 + 2 * (i + oLen ops) < 6400 by omega) (show i + oLen ops < 100000 by omega) ops 0 0 a b' j i (fun _ => 0) (fun _ => 0) c m hE hK hX (by omega) (by omega) (by omega) hSh j1 (by omega) i1 (by omega) kO tO
      exact ⟨c1, m1, V, T, f1, z_work (len := ops.length) (by rw [hol]) i1 (by omega) (by omega) f2, hX1, fc, fw⟩
    -- one clause on both sides
    have one : ∃ (c2 : BX6) (m2 : BX12) (rs2 : Int) (K2 : Int → Bool) (Lt2 : Int → Int), (∀ F, f_X6_run_b27 n code fl ey (F + ops.length + 1) (iI j, c) = f_X6_run_b27 n code fl ey F (iI (j + oLen ops + 1), c2)) ∧ (∀ J, f_X12_think_b21B J (iI b) (iI rs) (iI cl) m = J (iI b, iI rs2, iI (cl + 1), m2)) ∧ LK K2 Lt2 c2 m2 ∧ WF r K2 ∧ pX6_bound c2 = iI B ∧ pX6_top c2 = iI 0 ∧ SY ov rs2 c2 m2 ∧ FrH m m2 := by
      have cl2 : cl < N := by omega
      rcases hW with ⟨rfl, hl8, hSh, hWr⟩ | ⟨h23, rfl, hSh, hWr⟩ | ⟨rfl, rfl, hSh, hWr⟩
      · obtain ⟨c1', m1, V, T, f1, fw1, hX1, fc, fw⟩ := run 1 0 hSh
        obtain ⟨⟨x1, x2⟩, x3, x4, x5, k', x6, x7⟩ := hX1
        obtain ⟨y1, y2, y3, y4⟩ := x5 0 (by omega) (by omega)
        have hpop := z_pop x3 (by omega) (by omega) (show pX6_stack c1' ((0 : Int) + 1 - 1).toNat = iI (V 0) from y1)
        have hfin := (z_finish (c := sX6_top c1' (iI (0 + 1 - 1))) (x := V 0) (l := l) (by omega) (by omega) hl8.1 hl8.2).1
        refine ⟨sX6_letters (sX6_top c1' (iI (0 + 1 - 1))) (upd (pX6_letters (sX6_top c1' (iI (0 + 1 - 1)))) l.toNat (iI (V 0))), sX12_told m1 (upd (pX12_told m1) l.toNat (iI (V 0))), rs, fun k => if k = l then true else K k, up Lt l (V 0), fun F => ?_, fun J => ?_, ?_, hWr, ?_, ?_, ?_, fw.toH.s_told _⟩
        · rw [show F + ops.length + 1 = (F + 1) + ops.length by omega, f1]
          show f_X6_run_b27B n code fl ey (f_X6_run_b27 n code fl ey F) (iI (j + oLen ops)) c1' = _
          rw [c_dec hn (by omega) (by omega) (x := 20 + 1) (by omega) (by omega) hl8.1 (by omega) kF, if_pos (by omega), if_pos (by omega), if_pos (by omega), hpop, bind_s]
          dsimp only
          rw [show (20 : Int) + 1 = 21 by omega, hfin, bind_s]
        · exact (m_clause b1 b2 c1 cl2 hN (by omega) hl8 hT t1 t2 t3 t4 fw1 fw.texts (show -1000000 ≤ V 0 by omega) (by omega) J).1 rfl y2
        · intro q q1 q2 q3
          rw [q6_letters_letters, q6_letters_top, q12_told_told, ai_upd hl8.1 q1, ai_upd hl8.1 q1]
          by_cases he : q = l
          · rw [if_pos he, if_pos he, up_e he]
            exact ⟨rfl, rfl, by omega, by omega⟩
          · rw [if_neg he, if_neg he, up_n he, fc.letters, fw.told]
            have q3' : (if q = l then true else K q) = true := q3
            rw [if_neg he] at q3'
            exact hK q q1 q2 q3'
        · rw [q6_bound_letters, q6_bound_top]
          exact x1
        · rw [q6_top_letters, q6_top_top]
          rfl
        · exact ⟨⟨k', by rw [q6_over_letters, q6_over_top]; exact x6, by rw [q12_over_told]; exact x7⟩, ⟨tn, n1, by rw [q6_turn_letters, q6_turn_top, fc.turn]; exact n2, by rw [q12_turn_told, fw.turn]; exact n3⟩, ⟨g, g1, by rw [q6_go_letters, q6_go_top, fc.go]; exact g2, by rw [q12_go_told, fw.go]; exact g3⟩, r1, by rw [q6_rests_letters, q6_rests_top, fc.rests]; exact r2⟩
      · obtain ⟨c1', m1, V, T, f1, fw1, hX1, fc, fw⟩ := run 1 0 hSh
        obtain ⟨⟨x1, x2⟩, x3, x4, x5, k', x6, x7⟩ := hX1
        obtain ⟨y1, y2, y3, y4⟩ := x5 0 (by omega) (by omega)
        have hpop := z_pop x3 (by omega) (by omega) (show pX6_stack c1' ((0 : Int) + 1 - 1).toNat = iI (V 0) from y1)
        rcases h23 with e | e <;> subst e
        · have hfin := (z_finish (c := sX6_top c1' (iI (0 + 1 - 1))) (x := V 0) (l := 0) (by omega) (by omega) (by omega) (by omega)).2.1
          refine ⟨sX6_turn (sX6_top c1' (iI (0 + 1 - 1))) (iI (sTn (V 0))), sX12_turn m1 (iI (sTn (V 0))), rs, K, Lt, fun F => ?_, fun J => ?_, ?_, hWr, ?_, ?_, ?_, fw.toH.s_turn _⟩
          · rw [show F + ops.length + 1 = (F + 1) + ops.length by omega, f1]
            show f_X6_run_b27B n code fl ey (f_X6_run_b27 n code fl ey F) (iI (j + oLen ops)) c1' = _
            rw [c_dec hn (by omega) (by omega) (x := 20 + 2) (by omega) (by omega) (by omega) (by omega) kF, if_pos (by omega), if_pos (by omega), if_pos (by omega), hpop, bind_s]
            dsimp only
            rw [show (20 : Int) + 2 = 22 by omega, hfin, bind_s]
          · exact (m_clause b1 b2 c1 cl2 hN (by omega) (show (0 : Int) ≤ 0 ∧ (0 : Int) < 8 by omega) hT t1 t2 t3 t4 fw1 fw.texts (show -1000000 ≤ V 0 by omega) (by omega) J).2.1 rfl y2
          · exact hK.cg (by rw [q6_letters_turn, q6_letters_top]; exact fc.letters) (by rw [q12_told_turn]; exact fw.told)
          · rw [q6_bound_turn, q6_bound_top]
            exact x1
          · rw [q6_top_turn, q6_top_top]
            rfl
          · exact ⟨⟨k', by rw [q6_over_turn, q6_over_top]; exact x6, by rw [q12_over_turn]; exact x7⟩, ⟨_, sTn_bd (V 0), by rw [q6_turn_turn], by rw [q12_turn_turn]⟩, ⟨g, g1, by rw [q6_go_turn, q6_go_top, fc.go]; exact g2, by rw [q12_go_turn, fw.go]; exact g3⟩, r1, by rw [q6_rests_turn, q6_rests_top, fc.rests]; exact r2⟩
        · have hfin := (z_finish (c := sX6_top c1' (iI (0 + 1 - 1))) (x := V 0) (l := 0) (by omega) (by omega) (by omega) (by omega)).2.2.1
          refine ⟨sX6_go (sX6_top c1' (iI (0 + 1 - 1))) (iI (sGo (V 0))), sX12_go m1 (iI (sGo (V 0))), rs, K, Lt, fun F => ?_, fun J => ?_, ?_, hWr, ?_, ?_, ?_, fw.toH.s_go _⟩
          · rw [show F + ops.length + 1 = (F + 1) + ops.length by omega, f1]
            show f_X6_run_b27B n code fl ey (f_X6_run_b27 n code fl ey F) (iI (j + oLen ops)) c1' = _
            rw [c_dec hn (by omega) (by omega) (x := 20 + 3) (by omega) (by omega) (by omega) (by omega) kF, if_pos (by omega), if_pos (by omega), if_pos (by omega), hpop, bind_s]
            dsimp only
            rw [show (20 : Int) + 3 = 23 by omega, hfin, bind_s]
          · exact (m_clause b1 b2 c1 cl2 hN (by omega) (show (0 : Int) ≤ 0 ∧ (0 : Int) < 8 by omega) hT t1 t2 t3 t4 fw1 fw.texts (show -1000000 ≤ V 0 by omega) (by omega) J).2.2.1 rfl y2
          · exact hK.cg (by rw [q6_letters_go, q6_letters_top]; exact fc.letters) (by rw [q12_told_go]; exact fw.told)
          · rw [q6_bound_go, q6_bound_top]
            exact x1
          · rw [q6_top_go, q6_top_top]
            rfl
          · exact ⟨⟨k', by rw [q6_over_go, q6_over_top]; exact x6, by rw [q12_over_go]; exact x7⟩, ⟨tn, n1, by rw [q6_turn_go, q6_turn_top, fc.turn]; exact n2, by rw [q12_turn_go, fw.turn]; exact n3⟩, ⟨_, sGo_bd (V 0), by rw [q6_go_go], by rw [q12_go_go]⟩, r1, by rw [q6_rests_go, q6_rests_top, fc.rests]; exact r2⟩
      · obtain ⟨c1', m1, V, T, f1, fw1, hX1, fc, fw⟩ := run 0 1 hSh
        obtain ⟨⟨x1, x2⟩, x3, x4, x5, k', x6, x7⟩ := hX1
        obtain ⟨y1, y2, y3⟩ := x4 0 (by omega) (by omega)
        have hpop := z_pop x3 (by omega) (by omega) (show pX6_stack c1' ((1 : Int) + 0 - 1).toNat = iI (T 0) from y1)
        have hfin := (z_finish (c := sX6_top c1' (iI (1 + 0 - 1))) (x := T 0) (l := 0) (by omega) (by omega) (by omega) (by omega)).2.2.2
        have eT : (if T 0 = 0 then 0 else 1) = T 0 := by
          rcases y3 with e | e <;> rw [e] <;> rfl
        rw [eT] at hfin
        refine ⟨sX6_rests (sX6_top c1' (iI (1 + 0 - 1))) (iI (T 0)), m1, T 0, K, Lt, fun F => ?_, fun J => ?_, ?_, hWr, ?_, ?_, ?_, fw.toH⟩
        · rw [show F + ops.length + 1 = (F + 1) + ops.length by omega, f1]
          show f_X6_run_b27B n code fl ey (f_X6_run_b27 n code fl ey F) (iI (j + oLen ops)) c1' = _
          rw [c_dec hn (by omega) (by omega) (x := 20 + 4) (by omega) (by omega) (by omega) (by omega) kF, if_pos (by omega), if_pos (by omega), if_pos (by omega), hpop, bind_s]
          dsimp only
          rw [show (20 : Int) + 4 = 24 by omega, hfin, bind_s]
        · have y2' : pX12_truth m1 0 = iI (T 0) := y2
          rw [← y2']
          exact (m_clause b1 b2 c1 cl2 hN (by omega) (show (0 : Int) ≤ 0 ∧ (0 : Int) < 8 by omega) hT t1 t2 t3 t4 fw1 fw.texts (x := 0) (by omega) (by omega) J).2.2.2 rfl
        · exact hK.cg (by rw [q6_letters_rests, q6_letters_top]; exact fc.letters) fw.told
        · rw [q6_bound_rests, q6_bound_top]
          exact x1
        · rw [q6_top_rests, q6_top_top]
          rfl
        · exact ⟨⟨k', by rw [q6_over_rests, q6_over_top]; exact x6, x7⟩, ⟨tn, n1, by rw [q6_turn_rests, q6_turn_top, fc.turn]; exact n2, by rw [fw.turn]; exact n3⟩, ⟨g, g1, by rw [q6_go_rests, q6_go_top, fc.go]; exact g2, by rw [fw.go]; exact g3⟩, y3, by rw [q6_rests_rests]⟩
    obtain ⟨c2', m2, rs2, K2, Lt2, F1, F2, hK2, hW2, hb2, ht2, hS2, fr2⟩ := one
    obtain ⟨c3, m3, rs3, G1, G2, hS3, hb3, fr3⟩ := ih K2 Lt2 rs2 (cl + 1) (i + oLen ops) (j + oLen ops + 1) c2' m2 (hE.cg fr2.a fr2.now fr2.rows) hK2 ⟨hb2, by rw [fr2.bound]; exact hb.2⟩ ht2 hS2 (by rw [fr2.texts]; exact hT) (by omega) (by omega) (by omega) (by omega) (by omega) (by omega) hW2 (by rw [fr2.texts]; exact tR) kR
    refine ⟨c3, m3, rs3, fun F => ?_, fun F => ?_, hS3, hb3, fr2.trans fr3⟩
    · rw [hpl, show F + (ops.length + 1 + pLen r) = (F + pLen r) + ops.length + 1 by omega, F1, G1]
      congr 3
      omega
    · rw [List.length_cons, ← Nat.add_assoc]
      show f_X12_think_b21B (f_X12_think_b21 (F + r.length)) (iI b) (iI rs) (iI cl) m = _
      rw [F2, G2]
