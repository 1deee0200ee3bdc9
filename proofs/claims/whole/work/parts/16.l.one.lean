-- layer 2: what one and sum promise
/-- text, tokens, where the rule's text is kept, where the clause's operations begin (reference, class) -/
abbrev PD : Type := (Int → Int) × Int × Int × (Int → Int) × (Int → Int) × (Int → Int) × (Int → Int) × Int × Int × Int
abbrev dT (D : PD) : Int := D.2.1
abbrev dn (D : PD) : Int := D.2.2.1
abbrev dS (D : PD) : Int → Int := D.2.2.2.2.1
abbrev dK (D : PD) : Int → Int := D.2.2.2.2.2.1
abbrev dV (D : PD) : Int → Int := D.2.2.2.2.2.2.1
abbrev db (D : PD) : Int := D.2.2.2.2.2.2.2.1
abbrev dw (D : PD) : Int := D.2.2.2.2.2.2.2.2.1
abbrev ds (D : PD) : Int := D.2.2.2.2.2.2.2.2.2
def MJ (D : PD) (m : BX12) (j : Int) : Prop := AtJ m D.1 (dT D) (dn D) D.2.2.2.1 (dS D) (dK D) (dV D) j
def CJ (D : PD) (t : BX9) (j : Int) : Prop := CT t (dn D) (dS D) (dK D) (dV D) j
theorem MJ.n {D : PD} {m : BX12} {j : Int} (h : MJ D m j) : (0 ≤ j ∧ j ≤ dn D) ∧ (0 ≤ dn D ∧ dn D ≤ 300) ∧ (dK D j ≠ -1 → j < dn D) := by
  obtain ⟨h1, h2, h3, _⟩ := h
  have a := h1.1
  have b := h2.1
  refine ⟨h3, ⟨b.1, Int.le_trans b.2 a.2⟩, fun e => ?_⟩
  by_cases c : j < dn D
  · exact c
  · have : j = dn D := by omega
    rw [this] at e
    exact absurd h2.2.2.2.2.2 e
theorem MJ.tk {D : PD} {m : BX12} {j : Int} (h : MJ D m j) : TKM m (dK D j) (dV D j) := h.2.2.2.2.2
theorem MJ.place {D : PD} {m : BX12} {j : Int} (h : MJ D m j) : pX12_place m = iI (dS D j) := h.2.2.2.2.1
theorem MJ.cg {D : PD} {m r : BX12} {j : Int} (h : MJ D m j) (f : FrJ m r) : MJ D r j := AtJ.cg h f
theorem MJ.next {D : PD} {m : BX12} {j : Int} (h : MJ D m j) : Wp (f_X12_nextToken m) (fun r => FrK m r ∧ MJ D r (nx (dn D) j)) := AtJ.next h
theorem nx_in {n j : Int} (h : j < n) : nx n j = j + 1 := if_pos h
def Go (m m' : BX12) (s : Nat) : Prop := ∀ F : Nat, f_X12_summed_b10 (F + s) m = f_X12_summed_b10 F m'
def Stop (m : BX12) (f : Int) (m' : BX12) (s : Nat) : Prop := ∀ F : Nat, f_X12_summed_b10 (F + s) m = some (iI f, m')
theorem Go.trans {m m1 m2 : BX12} {a b : Nat} (h : Go m m1 a) (g : Go m1 m2 b) : Go m m2 (a + b) := by
  intro F
  rw [show F + (a + b) = (F + b) + a by omega, h, g]
theorem Go.stop {m m1 m2 : BX12} {a b : Nat} {f : Int} (h : Go m m1 a) (g : Stop m1 f m2 b) : Stop m f m2 (a + b) := by
  intro F
  rw [show F + (a + b) = (F + b) + a by omega, h, g]
theorem go_begin {m m' : BX12} (hi : pX12_isWhole m = iI 0) (h : f_X12_beginOne m = some (0, m')) : Go m m' 1 := by
  intro F
  show f_X12_summed_b10B (f_X12_summed_b10 F) m = _
  unfold f_X12_summed_b10B f_X12_summed_b24
  rw [hi, if_pos (show iI 0 = 0 from rfl), h, bind_s]
  unfold f_X12_summed_b42
  rw [if_pos rfl]
  exact if_pos (show iI 0 = 0 from rfl)
theorem stop_begin {m m' : BX12} {f : Int} (f1 : 1 ≤ f) (f2 : f ≤ 6) (hi : pX12_isWhole m = iI 0) (h : f_X12_beginOne m = some (iI f, m')) : Stop m f m' 1 := by
  intro F
  show f_X12_summed_b10B (f_X12_summed_b10 F) m = _
  unfold f_X12_summed_b10B f_X12_summed_b24
  rw [hi, if_pos (show iI 0 = 0 from rfl), h, bind_s]
  unfold f_X12_summed_b42
  rw [if_neg (show ¬ iI f = 0 from iI_ne (b := 0) (by omega) (by omega) (by omega) (by omega) (by omega))]
  exact if_pos (show iI 0 = 0 from rfl)
theorem go_behind {m m' : BX12} (hi : pX12_isWhole m = iI 1) (hg : f_X12_goesOn m = some 1) (h : f_X12_behindOne m = some (0, m')) : Go m m' 1 := by
  intro F
  show f_X12_summed_b10B (f_X12_summed_b10 F) m = _
  unfold f_X12_summed_b10B f_X12_summed_b24
  rw [hi, if_neg (by decide), hg, bind_s, if_neg (by decide), h, bind_s]
  unfold f_X12_summed_b42
  rw [if_pos rfl]
  exact if_neg (show ¬ iI 1 = 0 by decide)
theorem stop_behind {m m' : BX12} {f : Int} (f1 : 1 ≤ f) (f2 : f ≤ 6) (hi : pX12_isWhole m = iI 1) (hg : f_X12_goesOn m = some 1) (h : f_X12_behindOne m = some (iI f, m')) : Stop m f m' 1 := by
  intro F
  show f_X12_summed_b10B (f_X12_summed_b10 F) m = _
  unfold f_X12_summed_b10B f_X12_summed_b24
  rw [hi, if_neg (by decide), hg, bind_s, if_neg (by decide), h, bind_s]
  unfold f_X12_summed_b42
  rw [if_neg (show ¬ iI f = 0 from iI_ne (b := 0) (by omega) (by omega) (by omega) (by omega) (by omega))]
  exact if_neg (show ¬ iI 1 = 0 by decide)
/-- a pile with k NEGs on top -/
def NP (m : BX12) (Q : Int → Int) (hq : Int) (k : Nat) : Prop := 0 ≤ hq ∧ PI m Q (hq + (k : Int)) ∧ (∀ i : Int, hq ≤ i → i < hq + (k : Int) → Q i = 2) ∧ (0 < hq → Q (hq - 1) ≠ 2) ∧ ∀ i : Int, 0 ≤ i → i < hq → 0 ≤ Q i ∧ Q i ≤ 100
theorem NP.cg {m r : BX12} {Q : Int → Int} {hq : Int} {k : Nat} (h : NP m Q hq k) (h1 : pX12_piled r = pX12_piled m) (h2 : pX12_pile r = pX12_pile m) : NP r Q hq k := ⟨h.1, h.2.1.cg h1 h2, h.2.2⟩
/-- both sides at token j -/
def PS (D : PD) (c : BX4) (t : BX9) (m : BX12) (j o : Int) (Ec Er : OpL) : Prop := MJ D m j ∧ CJ D t j ∧ (pX4_open c = iI o ∧ 0 ≤ o ∧ o ≤ 8) ∧ pX4_fault c = iI 0 ∧ pX4_told c = pX12_letters m ∧ WC c (ds D) Ec ∧ WR m (db D) (dw D) Er ∧ dw D ≤ ds D
/-- letters told: the bits of a word -/
def bitK (x : Int32) : Int → Bool := fun l => decide ((x >>> (iI l &&& 31)) &&& 1 ≠ 0)
/-- the reference, behind a one that has come whole -/
def Beh (D : PD) (m m' : BX12) (j' : Int) (Q : Int → Int) (hq o' : Int) (Er : OpL) : Prop := MJ D m' j' ∧ PI m' Q hq ∧ pX12_opens m' = iI o' ∧ pX12_isWhole m' = iI 1 ∧ WR m' (db D) (dw D) Er ∧ TBl m m' (db D) (dw D) ∧ FrQ m m'
/-- an operation written, the next token, and whole -/
theorem z_leafM {D : PD} {m : BX12} {j o x v : Int} {E : OpL} {Q : Int → Int} {hq : Int} {k : Nat} (hj : MJ D m j) (jn : j < dn D) (hw : WR m (db D) (dw D) E) (hl : dw D + oLen E + (k : Int) < 300) (ho : pX12_opens m = iI o) (hp : NP m Q hq k) : Wp ((f_X12_emit m (iI x) (iI v)).bind (fun r_44 => (f_X12_nextToken r_44).bind (fun r_45 => (f_X12_whole r_45).bind (fun r_46 => some ((0 : Int32), r_46))))) (fun r => r.1 = 0 ∧ Beh D m r.2 (j + 1) Q hq (o - (k : Int)) (E ++ [(x, v)] ++ negs k)) := by
  refine wp_bind (wp_mono (z_emitM (o := x) (v := v) hw (by omega)) ?_)
  rintro r ⟨r1, r2, r3⟩
  refine wp_bind (wp_mono (MJ.next (hj.cg r1.j)) ?_)
  rintro q ⟨q1, q2⟩
  rw [nx_in jn] at q2
  obtain ⟨p1, p2, p3, p4, p5⟩ := hp
  refine wp_bind (wp_mono (z_whole (b := db D) (w0 := dw D) (Q := Q) (hq := hq) (o := o) (E := E ++ [(x, v)]) (k := k) (fun h => ⟨p4 h, p5 _ (by omega) (by omega)⟩) p1 (p2.cg (q1.piled.trans r1.piled) (q1.pile.trans r1.pile)) p3 (q1.opens.trans (r1.opens.trans ho)) (r2.cg q1.text0 q1.written q1.texts) (by rw [oLen_a, oLen_1]; omega)) ?_)
  rintro s ⟨s1, s2, s3, s4, s5, s6⟩
  exact wp_some ⟨rfl, q2.cg s1, s2, s3, s4, s5, r3.trans ((TBl.of q1.texts).trans s6), r1.q.trans (q1.q.trans s1.q)⟩
/-- the class: an operation emitted, and on -/
theorem z_leafC {D : PD} {c : BX4} {t : BX9} {j x x' v : Int} {E : OpL} (hc : WC c (ds D) E) (hl : ds D + oLen E < 300) (ht : CJ D t j) (jn : j < dn D) (n3 : dn D ≤ 300) (hx : x' = trO x) : Wp ((f_X4_emit c (iI x') (iI v)).bind (fun r_3 => (f_X9_advance t).bind (fun r_4 => some ((1 : Int32), r_3, r_4)))) (fun r => r.1 = 1 ∧ FrZ c r.2.1 ∧ WC r.2.1 (ds D) (E ++ [(x, v)]) ∧ CBl c r.2.1 (ds D) ∧ CJ D r.2.2 (j + 1)) := by
  refine wp_bind (wp_mono (z_emitC (o := x) (v := v) hc hl hx) ?_)
  rintro r ⟨r1, r2, r3⟩
  refine wp_bind (wp_mono (CT.adv ht n3) ?_)
  intro q q1
  rw [nx_in jn] at q1
  exact wp_some ⟨rfl, r1, r2, r3, q1⟩
