-- layer 2: a joining sign
def jnX (g : Int) : Int := if g = 43 then 3 else if g = 45 then 4 else if g = 42 then 5 else 6
def jnS (g : Int) : Int := if g = 43 ∨ g = 45 then 3 else 5
theorem go_join {D : PD} {m : BX12} {j : Int} {Q2 : Int → Int} {h : Int} {l : Nat} {E' : OpL} (hj : MJ D m j) (jn : j < dn D) (hi : pX12_isWhole m = iI 1) (h0 : 0 ≤ h) (hp : PI m Q2 (h + (l : Int))) (hh : h < 100) (hg : dK D j = 43 ∨ dK D j = 45 ∨ dK D j = 42 ∨ dK D j = 47) (hN : ∀ i : Int, h ≤ i → i < h + (l : Int) → jnS (dK D j) ≤ Q2 i ∧ Q2 i < 40) (hT : 0 < h → (40 ≤ Q2 (h - 1) ∨ Q2 (h - 1) < jnS (dK D j)) ∧ 0 ≤ Q2 (h - 1) ∧ Q2 (h - 1) ≤ 100) (hw : WR m (db D) (dw D) E') (hl : dw D + oLen E' + (l : Int) ≤ 300) : ∃ m', Go m m' 1 ∧ MJ D m' (j + 1) ∧ PI m' (up Q2 h (jnX (dK D j))) (h + 1) ∧ pX12_opens m' = pX12_opens m ∧ pX12_isWhole m' = iI 0 ∧ WR m' (db D) (dw D) (E' ++ popL Q2 h l) ∧ TBl m m' (db D) (dw D) ∧ FrQ m m' := by
  have hs : 0 ≤ jnS (dK D j) ∧ jnS (dK D j) ≤ 40 := by
    unfold jnS
    split <;> omega
  obtain ⟨r, e, r1, r2, r3, r4, r5, r6⟩ := z_settle (b := db D) (w0 := dw D) hs.1 hs.2 hT h0 hp hN hw hl
  have hgo : f_X12_goesOn m = some 1 := by
    rw [z_goesOnM hj.tk, if_pos (by omega)]
  have tok : ∀ g : Int, SgK g → (pX12_token m = iI g ↔ dK D j = g) := fun g hg => hj.tk.sign hg
  -- push, not whole, next token
  have fin : ∀ x : Int, Wp ((f_X12_push r (iI x)).bind (fun r_13 => g_lt (sX12_isWhole r_13 0) (fun v0_14 => f_X12_behindOne_b208 v0_14))) (fun q => q.1 = 0 ∧ MJ D q.2 (j + 1) ∧ PI q.2 (up Q2 h x) (h + 1) ∧ pX12_opens q.2 = pX12_opens m ∧ pX12_isWhole q.2 = iI 0 ∧ WR q.2 (db D) (dw D) (E' ++ popL Q2 h l) ∧ TBl m q.2 (db D) (dw D) ∧ FrQ m q.2) := by
    intro x
    refine wp_bind (wp_mono (z_pushM (x := x) r2 hh) ?_)
    rintro u ⟨u1, u2, u3, u4, u5, u6⟩
    refine wp_lt ?_
    unfold f_X12_behindOne_b208
    have f2 : FrJ m (sX12_isWhole u 0) := (r1.trans u1).trans (FrJ.s_isWhole (FrJ.refl u) _)
    refine wp_bind (wp_mono (MJ.next (hj.cg f2)) ?_)
    rintro q ⟨q1, q2⟩
    rw [nx_in jn] at q2
    exact wp_some ⟨rfl, q2, (u2.cg rfl rfl).cg q1.piled q1.pile, q1.opens.trans (u3.trans r3), q1.isWhole, ((r5.cg u1.text0 u6 u5).cg rfl rfl rfl).cg q1.text0 q1.written q1.texts, r6.trans ((TBl.of u5).trans (TBl.of q1.texts)), f2.q.trans q1.q⟩
  obtain ⟨⟨r0, m'⟩, k1, k2, k3⟩ := fin (jnX (dK D j))
  have k2 : r0 = 0 := k2
  rw [k2] at k1
  refine ⟨m', go_behind hi hgo ?_, k3⟩
  unfold f_X12_behindOne f_X12_behindOne_b17 f_X12_behindOne_b57 f_X12_behindOne_b34 f_X12_behindOne_b75
  rw [lt_e]
  have e43 : (pX12_token m = 43) ↔ dK D j = 43 := tok 43 (by decide)
  have e45 : (pX12_token m = 45) ↔ dK D j = 45 := tok 45 (by decide)
  have e42 : (pX12_token m = 42) ↔ dK D j = 42 := tok 42 (by decide)
  have e47 : (pX12_token m = 47) ↔ dK D j = 47 := tok 47 (by decide)
  rcases hg with c | c | c | c
  · rw [show jnX (dK D j) = 3 by rw [c]; rfl] at k1
    rw [show jnS (dK D j) = 3 by rw [c]; rfl] at e
    rw [if_pos (e43.mpr c), show (3 : Int32) = iI 3 from rfl, e, bind_s, if_pos (e43.mpr c)]
    exact k1
  · rw [show jnX (dK D j) = 4 by rw [c]; rfl] at k1
    rw [show jnS (dK D j) = 3 by rw [c]; rfl] at e
    rw [if_neg (fun x => absurd (e43.mp x) (by omega)), if_pos (e45.mpr c), show (3 : Int32) = iI 3 from rfl, e, bind_s, if_neg (fun x => absurd (e43.mp x) (by omega))]
    exact k1
  · rw [show jnX (dK D j) = 5 by rw [c]; rfl] at k1
    rw [show jnS (dK D j) = 5 by rw [c]; rfl] at e
    rw [if_neg (fun x => absurd (e43.mp x) (by omega)), if_neg (fun x => absurd (e45.mp x) (by omega)), if_pos (e42.mpr c), show (5 : Int32) = iI 5 from rfl, e, bind_s, if_pos (e42.mpr c)]
    exact k1
  · rw [show jnX (dK D j) = 6 by rw [c]; rfl] at k1
    rw [show jnS (dK D j) = 5 by rw [c]; rfl] at e
    rw [if_neg (fun x => absurd (e43.mp x) (by omega)), if_neg (fun x => absurd (e45.mp x) (by omega)), if_neg (fun x => absurd (e42.mp x) (by omega)), if_pos (e47.mpr c), show (5 : Int32) = iI 5 from rfl, e, bind_s, if_neg (fun x => absurd (e42.mp x) (by omega))]
    exact k1
