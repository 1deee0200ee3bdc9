-- layer 2: a bracket closes; a comma
def clO (x : Int) : OpL := if x = 40 then [] else [(x - 36, 0)]
theorem behind_pre {D : PD} {m r : BX12} {j h : Int} {Q2 : Int → Int} (hj : MJ D m j) (e : f_X12_settle m 3 = some r) (r2 : PI r Q2 h) (h1 : 1 ≤ h) (nj : dK D j = 41 ∨ dK D j = 44) : f_X12_behindOne m = (if pX12_token m = 44 then (if (iI (Q2 (h - 1)) : Int32) = 41 then (f_X12_behindOne_b123 r) else (if (iI (Q2 (h - 1)) : Int32) = 42 then (f_X12_behindOne_b123 r) else (some (1, r)))) else (if (iI (Q2 (h - 1)) : Int32) = 41 then (some (1, r)) else (if (iI (Q2 (h - 1)) : Int32) = 42 then (some (1, r)) else (g_lt (iI (h - 1) : Int32) (fun x_28 => g_lt (sX12_piled r x_28) (fun v0_29 => g_lt (((pX12_opens v0_29) - 1) : Int32) (fun x_30 => g_lt (sX12_opens v0_29 x_30) (fun v0_31 => if (iI (Q2 (h - 1)) : Int32) ≤ 40 then (f_X12_behindOne_b204 v0_31) else (if (iI (Q2 (h - 1)) : Int32) = 43 then (f_X12_behindOne_b200 7 v0_31) else (f_X12_behindOne_b200 8 v0_31))))))))))  := by
  have hb2 := r2.2.1
  have ne : ∀ g : Int, SgK g → dK D j ≠ g → ¬ pX12_token m = iI g := fun g hg hn he => hn ((hj.tk.sign hg).mp he)
  unfold f_X12_behindOne
  rw [lt_e, if_neg (show ¬ pX12_token m = 43 from ne 43 (by decide) (by omega)), if_neg (show ¬ pX12_token m = 45 from ne 45 (by decide) (by omega)), if_neg (show ¬ pX12_token m = 42 from ne 42 (by decide) (by omega)), if_neg (show ¬ pX12_token m = 47 from ne 47 (by decide) (by omega)), e, bind_s, r2.1, show (iI h - 1 : Int32) = iI (h - 1) from iI_sub h 1, gd_t ((iI_inB (by omega) (by omega)).mpr (by omega)), lt_e, iI_cl (by omega) (by omega), r2.2.2 (h - 1) (by omega) (by omega)]
theorem go_paren {D : PD} {m : BX12} {j : Int} {Q2 : Int → Int} {h : Int} {l : Nat} (hj : MJ D m j) (h1 : 1 ≤ h) (hp : PI m Q2 (h + (l : Int))) (hB : ∀ i : Int, 0 ≤ i → i < h → 0 ≤ Q2 i ∧ Q2 i ≤ 100) (hN : ∀ i : Int, h ≤ i → i < h + (l : Int) → 3 ≤ Q2 i ∧ Q2 i < 7) (hT : 40 ≤ Q2 (h - 1)) (nj : dK D j = 41 ∨ dK D j = 44) : f_X12_goesOn m = some 1 := by
  have hg := z_goesOnM hj.tk
  rw [if_neg (by omega), if_pos (by omega), z_b54 hp (fun i i1 i2 => by
      by_cases ci : i < h
      · exact hB i i1 ci
      · have := hN i (by omega) i2
        omega) (q := h - 1) (by omega) (by omega) hT] at hg
  exact hg
theorem go_close {D : PD} {m : BX12} {j o : Int} {Q2 : Int → Int} {hq : Int} {k l : Nat} {E' E : OpL} (hj : MJ D m j) (jn : j < dn D) (hi : pX12_isWhole m = iI 1) (ho : pX12_opens m = iI o) (q0 : 0 ≤ hq) (hp : PI m Q2 (hq + (k : Int) + 1 + (l : Int))) (hB : ∀ i : Int, 0 ≤ i → i < hq + (k : Int) + 1 → 0 ≤ Q2 i ∧ Q2 i ≤ 100) (hk : ∀ i : Int, hq ≤ i → i < hq + (k : Int) → Q2 i = 2) (ht : 0 < hq → Q2 (hq - 1) ≠ 2) (hN : ∀ i : Int, hq + (k : Int) + 1 ≤ i → i < hq + (k : Int) + 1 + (l : Int) → 3 ≤ Q2 i ∧ Q2 i < 7) (hx : Q2 (hq + (k : Int)) = 40 ∨ Q2 (hq + (k : Int)) = 43 ∨ Q2 (hq + (k : Int)) = 44) (hw : WR m (db D) (dw D) E') (hE : E' ++ popL Q2 (hq + (k : Int) + 1) l = E) (hl : dw D + oLen E + 1 + (k : Int) ≤ 300) (hK : dK D j = 41) : ∃ m', Go m m' 1 ∧ Beh D m m' (j + 1) Q2 hq (o - 1 - (k : Int)) (E ++ clO (Q2 (hq + (k : Int))) ++ negs k) := by
  have eh : hq + (k : Int) + 1 - 1 = hq + (k : Int) := by omega
  obtain ⟨r, e, r1, r2, r3, r4, r5, r6⟩ := z_settled (D := D) (by omega) hp hN (fun _ => by rw [eh]; omega) hw hE (by omega)
  have hg := go_paren hj (by omega) hp hB hN (by rw [eh]; omega) (Or.inl hK)
  have hb := behind_pre hj e r2 (by omega) (Or.inl hK)
  have hr2 := r2.2.1
  rw [if_neg (show ¬ pX12_token m = 44 from fun x => absurd ((hj.tk.sign (g := 44) (by decide)).mp x) (by omega)), eh, if_neg (show ¬ iI (Q2 (hq + (k : Int))) = 41 from iI_ne (b := 41) (by omega) (by omega) (by omega) (by omega) (by omega)), if_neg (show ¬ iI (Q2 (hq + (k : Int))) = 42 from iI_ne (b := 42) (by omega) (by omega) (by omega) (by omega) (by omega)), lt_e, lt_e, lt_e, lt_e, q12_opens_piled, r3, ho, show (iI o - 1 : Int32) = iI (o - 1) from iI_sub o 1] at hb
  have f2 : FrJ m (sX12_opens (sX12_piled r (iI (hq + (k : Int)))) (iI (o - 1))) := r1.trans (FrJ.s_opens (FrJ.s_piled (FrJ.refl r) _) _)
  have w2 : WR (sX12_opens (sX12_piled r (iI (hq + (k : Int)))) (iI (o - 1))) (db D) (dw D) E := r5.cg rfl rfl rfl
  have p2 : PI (sX12_opens (sX12_piled r (iI (hq + (k : Int)))) (iI (o - 1))) Q2 (hq + (k : Int)) := ⟨rfl, by omega, fun i i1 i2 => r2.2.2 i i1 (by omega)⟩
  have o2 : pX12_opens (sX12_opens (sX12_piled r (iI (hq + (k : Int)))) (iI (o - 1))) = iI (o - 1) := rfl
  have t2 : TBl m (sX12_opens (sX12_piled r (iI (hq + (k : Int)))) (iI (o - 1))) (db D) (dw D) := r6.trans (TBl.of rfl)
  generalize sX12_opens (sX12_piled r (iI (hq + (k : Int)))) (iI (o - 1)) = m2 at hb f2 w2 p2 o2 t2
  -- whole, and on
  have fin : ∀ (u : BX12) (E1 : OpL), FrJ m u → WR u (db D) (dw D) E1 → dw D + oLen E1 + (k : Int) ≤ 300 → PI u Q2 (hq + (k : Int)) → pX12_opens u = iI (o - 1) → TBl m u (db D) (dw D) → ∃ m', f_X12_behindOne_b204 u = some (0, m') ∧ Beh D m m' (j + 1) Q2 hq (o - 1 - (k : Int)) (E1 ++ negs k) := by
    intro u E1 u1 u2 u3 u4 u5 u6
    obtain ⟨s, es, s1, s2, s3, s4, s5, s6⟩ := z_whole (b := db D) (w0 := dw D) (Q := Q2) (hq := hq) (o := o - 1) (E := E1) (k := k) (fun g => ⟨ht g, hB _ (by omega) (by omega)⟩) q0 u4 hk u5 u2 u3
    obtain ⟨q, eq, q1, q2⟩ := MJ.next ((hj.cg u1).cg s1)
    rw [nx_in jn] at q2
    refine ⟨q, ?_, q2, s2.cg q1.piled q1.pile, q1.opens.trans s3, q1.isWhole.trans s4, s5.cg q1.text0 q1.written q1.texts, u6.trans (s6.trans (TBl.of q1.texts)), u1.q.trans (s1.q.trans q1.q)⟩
    unfold f_X12_behindOne_b204 f_X12_behindOne_b208
    rw [es, bind_s, eq, bind_s]
  have fin2 : ∀ x : Int, ∃ m', f_X12_behindOne_b200 (iI x) m2 = some (0, m') ∧ Beh D m m' (j + 1) Q2 hq (o - 1 - (k : Int)) (E ++ [(x, 0)] ++ negs k) := by
    intro x
    obtain ⟨u, eu, u1, u2, u3⟩ := z_emitM (o := x) (v := 0) w2 (by omega)
    obtain ⟨m', e1, e2⟩ := fin u (E ++ [(x, 0)]) (f2.trans u1.j) u2 (by rw [oLen_a, oLen_1]; omega) (p2.cg u1.piled u1.pile) (u1.opens.trans o2) (t2.trans u3)
    refine ⟨m', ?_, e2⟩
    unfold f_X12_behindOne_b200
    rw [show (0 : Int32) = iI 0 from rfl, eu, bind_s]
    exact e1
  rcases hx with c | c | c
  · obtain ⟨m', e1, e2⟩ := fin m2 E f2 w2 (by omega) p2 o2 t2
    rw [c, if_pos (show iI 40 ≤ 40 by decide), e1] at hb
    exact ⟨m', go_behind hi hg hb, by rw [c, show clO 40 = [] from rfl, List.append_nil]; exact e2⟩
  · obtain ⟨m', e1, e2⟩ := fin2 7
    rw [c, if_neg (show ¬ iI 43 ≤ 40 by decide), if_pos (show iI 43 = 43 from rfl), show (7 : Int32) = iI 7 from rfl, e1] at hb
    exact ⟨m', go_behind hi hg hb, by rw [c, show clO 43 = [(7, 0)] from rfl]; exact e2⟩
  · obtain ⟨m', e1, e2⟩ := fin2 8
    rw [c, if_neg (show ¬ iI 44 ≤ 40 by decide), if_neg (show ¬ iI 44 = 43 by decide), show (8 : Int32) = iI 8 from rfl, e1] at hb
    exact ⟨m', go_behind hi hg hb, by rw [c, show clO 44 = [(8, 0)] from rfl]; exact e2⟩
