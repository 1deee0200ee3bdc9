-- layer 2: a rule as a whole; what is seen on a tick
def RO : ROT := fun n code texts r => ∃ p : Prog, (p.length : Int) ≤ 10 ∧ pOps p ≤ 300 ∧ n = pLen p ∧ WF p (fun _ => false) ∧ texts (800 * r).toNat = iI (p.length : Int) ∧ LayT texts (800 * r) p 0 0 ∧ LayC code p 0
theorem z_runner {n : Nat} {code : Nat → Int32} {fl : BX2} {ey : BX1} {c : BX6} {m : BX12} {A : Int → Int} {tk : Int → Int → Int} {t B ov r : Int} (hE : EV fl ey m A tk t) (hB : 7 ≤ B) (hB2 : B ≤ 1000000) (hb : pX6_bound c = iI B) (hb2 : pX12_bound m = lI B) (ho : pX12_over m = iI ov) (r1 : 0 ≤ r) (r2 : r < 8) (hR : RO n code (pX12_texts m) r) : ∃ (c' : BX6) (m' : BX12) (rs : Int), f_X6_run n code fl c ey = some c' ∧ f_X12_think m (iI r) = some (iI rs, m') ∧ SY ov rs c' m' ∧ pX6_bound c' = iI B ∧ FrH m m' := by
  obtain ⟨p, p1, p2, p3, p4, p5, p6, p7⟩ := hR
  have hpl := pLen_v p
  have hpn := pOps_nn p
  have f0 : FrH m (sX12_go (sX12_turn m (iI 0)) (iI 0)) := ((FrH.refl m).s_turn _).s_go _
  have hS : SY ov 0 (sX6_rests (sX6_go (sX6_turn (sX6_over (sX6_top c (iI 0)) (iI 0)) (iI 0)) (iI 0)) (iI 0)) (sX12_go (sX12_turn m (iI 0)) (iI 0)) := by
    refine ⟨⟨0, by rw [q6_over_rests, q6_over_go, q6_over_turn, q6_over_over], by rw [q12_over_go, q12_over_turn, ho, Int.add_zero]⟩, ⟨0, by omega, by rw [q6_turn_rests, q6_turn_go, q6_turn_turn], by rw [q12_turn_go, q12_turn_turn]⟩, ⟨0, by omega, by rw [q6_go_rests, q6_go_go], by rw [q12_go_go]⟩, Or.inl rfl, by rw [q6_rests_rests]⟩
  obtain ⟨c', m', rs, g1, g2, g3, g4, g5⟩ := z_clauses (b := 800 * r) (N := (p.length : Int)) hB hB2 (show (n : Int) ≤ 400 by omega) (by omega) (by omega) p1 p (fun _ => false) (fun _ => 0) 0 0 0 0 (sX6_rests (sX6_go (sX6_turn (sX6_over (sX6_top c (iI 0)) (iI 0)) (iI 0)) (iI 0)) (iI 0)) (sX12_go (sX12_turn m (iI 0)) (iI 0)) (hE.cg f0.a f0.now f0.rows) (fun k k1 k2 k3 => by cases k3) ⟨by rw [q6_bound_rests, q6_bound_go, q6_bound_turn, q6_bound_over, q6_bound_top]; exact hb, f0.bound.trans hb2⟩ (by rw [q6_top_rests, q6_top_go, q6_top_turn, q6_top_over, q6_top_top]) hS (by rw [f0.texts]; exact p5) (by omega) (by omega) (by omega) (by omega) (by omega) (by omega) p4 (by rw [f0.texts]; exact p6) p7
  refine ⟨c', m', rs, ?_, ?_, g3, g4, f0.trans g5⟩
  · unfold f_X6_run
    simp only [lt_e]
    obtain ⟨F, hF⟩ : ∃ F, fU = (F + 1) + pLen p := ⟨fU - pLen p - 1, by rw [fU_v]; omega⟩
    show f_X6_run_b27 n code fl ey fU (iI 0, _) = _
    rw [hF]
    refine (g1 (F + 1)).trans ?_
    show f_X6_run_b27B n code fl ey (f_X6_run_b27 n code fl ey F) (iI (0 + (pLen p : Int))) c' = _
    unfold f_X6_run_b27B
    rw [if_pos (by rw [iI_ofNat, iI_le (by omega) (by omega) (by omega) (by omega)]; omega)]
  · unfold f_X12_think
    simp only [lt_e]
    obtain ⟨F, hF⟩ : ∃ F, fU = (F + 1) + p.length := ⟨fU - p.length - 1, by rw [fU_v]; omega⟩
    rw [show (800 : Int32) * iI r = iI (800 * r) by rw [show (800 : Int32) = iI 800 from rfl, iI_mul]]
    show f_X12_think_b21 fU (iI (800 * r), iI 0, iI 0, _) = _
    rw [hF]
    refine (g2 (F + 1)).trans ?_
    show f_X12_think_b21B (f_X12_think_b21 F) (iI (800 * r)) (iI rs) (iI (p.length : Int)) m' = _
    unfold f_X12_think_b21B
    rw [gd_t (by rw [iI_inB (by omega) (by omega)]; omega), iI_cl (by omega) (by omega), g5.texts, f0.texts, p5, if_pos (by rw [iI_le (by omega) (by omega) (by omega) (by omega)]; omega), gd_t ?_]
    rcases g3.2.2.2.1 with e | e <;> rw [e]
    · exact Or.inl rfl
    · exact Or.inr rfl
theorem FrL.toR {m r : BX12} (f : FrL m r) : FrR m r := ⟨f.w, f.h, f.taped, f.fault, f.faultPlace, f.a, f.image, f.texts, f.tape, f.bound, f.keeps⟩
theorem FrH.toR {m r : BX12} (f : FrH m r) : FrR m r := ⟨f.w, f.h, f.taped, f.fault, f.faultPlace, f.a, f.image, f.texts, f.tape, f.bound, f.keeps⟩
theorem FrR.p {m r : BX12} (f : FrR m r) : FrP m r := ⟨f.w, f.h, f.taped, f.fault, f.faultPlace, f.a, f.image, f.texts, f.tape⟩
theorem FrR.mw {m r : BX12} {w h : Int} {A : Int → Int} (f : FrR m r) (hM : MW m w h A) : MW r w h A := f.p.mw hM
/-- a tick's takes beside those before -/
def tkX (tk : Int → Int → Int) (t : Int) (g : Int → Int) : Int → Int → Int := fun s k => if s = t ∧ 0 ≤ k ∧ k < 16 then g k else tk s k
theorem tkX_o {tk : Int → Int → Int} {t : Int} {g : Int → Int} {s k : Int} (h : s ≠ t) : tkX tk t g s k = tk s k := if_neg (fun e => h e.1)
theorem tkX_n {tk : Int → Int → Int} {t : Int} {g : Int → Int} {k : Int} (h1 : 0 ≤ k) (h2 : k < 16) : tkX tk t g t k = g k := if_pos ⟨rfl, h1, h2⟩
def sTg (w h : Int) (A : Int → Int) (x y t head : Int) (k : Int) : Int := sTake (sT w h A x y t) (A (620 + 2 * k)) (A (620 + 2 * k + 1)) head
/-- the class senses -/
theorem z_sense {fl0 : BX2} {v1 : BX3} {v3 : BX8} {ey : BX1} {u : BX10} {w h : Int} {A : Int → Int} (hV : REy ey A) (hE : InE A) (hW : RWo u w h A) (hI : InW w h A) {x y t head : Int} (hx : 0 ≤ x ∧ x < 16 * w) (hy : 0 ≤ y ∧ y < 16 * h) (ht : 0 ≤ t) (ht2 : t < 60) (hh : 0 ≤ head) (hh2 : head < 64) (e3 : pX2_head fl0 = iI head) : ∀ (n : Nat) (k : Int) (fl : BX2) (v : BX7), FrS fl0 fl → SG v w h A x y t → 0 ≤ k → (n : Int) + k = A 1 → (∀ j : Int, 0 ≤ j → j < k → pX2_takes fl (t * 16 + j).toNat = iI (sTg w h A x y t head j)) → (∀ j : Int, 0 ≤ j → j < t * 16 → pX2_takes fl j.toNat = pX2_takes fl0 j.toNat) → ∀ F : Nat, n < F → Wp (f_X3_sense_b38 v1 v3 ey u F (iI (t * 16), iI k, fl, v)) (fun r => FrS fl0 r.1 ∧ (∀ j : Int, 0 ≤ j → j < A 1 → pX2_takes r.1 (t * 16 + j).toNat = iI (sTg w h A x y t head j)) ∧ (∀ j : Int, 0 ≤ j → j < t * 16 → pX2_takes r.1 j.toNat = pX2_takes fl0 j.toNat) ∧ SG r.2 w h A x y t) := by
  intro n
  have h3 := hE.1
  induction n with
  | zero =>
    intro k fl v fs hS k1 k2 hf hg F hF
    obtain ⟨F, rfl⟩ : ∃ F', F = F' + 1 := ⟨F - 1, by omega⟩
    show Wp (f_X3_sense_b38B v1 v3 ey u (f_X3_sense_b38 v1 v3 ey u F) (iI (t * 16)) (iI k) fl v) _
    unfold f_X3_sense_b38B
    simp (disch := omega) only [hV.1, iI_le]
    rw [if_pos (by omega)]
    exact wp_some ⟨fs, fun j j1 j2 => hf j j1 (by omega), hg, hS⟩
  | succ n ih =>
    intro k fl v fs hS k1 k2 hf hg F hF
    obtain ⟨F, rfl⟩ : ∃ F', F = F' + 1 := ⟨F - 1, by omega⟩
    show Wp (f_X3_sense_b38B v1 v3 ey u (f_X3_sense_b38 v1 v3 ey u F) (iI (t * 16)) (iI k) fl v) _
    have hk := hE.2.2.1 k k1 (by omega)
    have hkc := hV.2.2.1 k k1 (by omega)
    unfold f_X3_sense_b38B
    simp (disch := omega) only [iLit, hV.1, iI_le, iI_add, iI_inB, gd_t, iI_cl, hkc.1, hkc.2, lt_e, fs.head, e3]
    rw [if_neg (by omega), if_neg (by omega)]
    refine wp_bind (wp_mono (z_weigh hW hI hS hx hy hk.1.1 hk.1.2 hh hh2 hk.2.1 hk.2.2) (fun r hr => ?_))
    refine ih (k + 1) _ r.2 (fs.s_takes _) hr.2 (by omega) (by omega) (fun j j1 j2 => ?_) (fun j j1 j2 => ?_) F (by omega)
    · rw [q2_takes_takes, ai_upd (by omega) (by omega)]
      by_cases he : j = k
      · rw [if_pos (by omega), hr.1, he]
        rfl
      · rw [if_neg (by omega), hf j j1 (by omega)]
    · rw [q2_takes_takes, ai_upd (by omega) j1, if_neg (by omega), hg j j1 j2]
/-- the reference sees: takes -/
theorem z_see1 {m0 : BX12} {w h : Int} {A : Int → Int} (hM0 : MW m0 w h A) (hE : InE A) (hI : InW w h A) {x y t head : Int} (ht : 0 ≤ t) (ht2 : t < 60) (hh : 0 ≤ head) (hh2 : head < 64) (e3 : pX12_heading m0 = iI head) {Q : BX12 → Prop} (hQ : ∀ m, FrR m0 m → pX12_heading m = pX12_heading m0 → pX12_now m = pX12_now m0 → pX12_ticks m = pX12_ticks m0 → pX12_atX m = pX12_atX m0 → pX12_atY m = pX12_atY m0 → pX12_hit m = pX12_hit m0 → pX12_rested m = pX12_rested m0 → pX12_over m = pX12_over m0 → (∀ j : Int, 0 ≤ j → j < A 1 → pX12_rows m (38 * t + 5 + j).toNat = iI (sTg w h A x y t head j)) → (∀ j : Int, 0 ≤ j → j < 38 * t → pX12_rows m j.toNat = pX12_rows m0 j.toNat) → Wp (f_X12_see__b63 fU (iI (38 * t), iI 0, m)) Q) : ∀ (n : Nat) (k : Int) (m : BX12), FrR m0 m → tkI w h A x y t (pX12_taken m) → pX12_heading m = pX12_heading m0 → pX12_now m = pX12_now m0 → pX12_ticks m = pX12_ticks m0 → pX12_atX m = pX12_atX m0 → pX12_atY m = pX12_atY m0 → pX12_hit m = pX12_hit m0 → pX12_rested m = pX12_rested m0 → pX12_over m = pX12_over m0 → 0 ≤ k → (n : Int) + k = A 1 → (∀ j : Int, 0 ≤ j → j < k → pX12_rows m (38 * t + 5 + j).toNat = iI (sTg w h A x y t head j)) → (∀ j : Int, 0 ≤ j → j < 38 * t → pX12_rows m j.toNat = pX12_rows m0 j.toNat) → ∀ F : Nat, n < F → Wp (f_X12_see__b26 F (iI (38 * t), iI k, m)) Q := by
  intro n
  have h3 := hE.1
  induction n with
  | zero =>
    intro k m fr hm a1 a2 a3 a4 a5 a6 a7 a8 k1 k2 hf hg F hF
    obtain ⟨F, rfl⟩ : ∃ F', F = F' + 1 := ⟨F - 1, by omega⟩
    show Wp (f_X12_see__b26B (f_X12_see__b26 F) (iI (38 * t)) (iI k) m) _
    have hM := fr.mw hM0
    unfold f_X12_see__b26B
    simp (disch := omega) only [iLit, iI_inB, gd_t, iI_cl, hM.at, iI_le]
    rw [if_pos (by omega)]
    exact hQ m fr a1 a2 a3 a4 a5 a6 a7 a8 (fun j j1 j2 => hf j j1 (by omega)) hg
  | succ n ih =>
    intro k m fr hm a1 a2 a3 a4 a5 a6 a7 a8 k1 k2 hf hg F hF
    obtain ⟨F, rfl⟩ : ∃ F', F = F' + 1 := ⟨F - 1, by omega⟩
    show Wp (f_X12_see__b26B (f_X12_see__b26 F) (iI (38 * t)) (iI k) m) _
    have hM := fr.mw hM0
    unfold f_X12_see__b26B
    simp (disch := omega) only [iLit, iI_inB, gd_t, iI_cl, hM.at, iI_le, a1, e3, z_lensTake (T := sT w h A x y t) hM hE hm (sT_bd hI x y t), bind_s, iI_add, lt_e]
    rw [if_neg (by omega)]
    refine ih (k + 1) _ (fr.s_rows _) (by rw [q12_taken_rows]; exact hm) (by rw [q12_heading_rows]; exact a1) (by rw [q12_now_rows]; exact a2) (by rw [q12_ticks_rows]; exact a3) (by rw [q12_atX_rows]; exact a4) (by rw [q12_atY_rows]; exact a5) (by rw [q12_hit_rows]; exact a6) (by rw [q12_rested_rows]; exact a7) (by rw [q12_over_rows]; exact a8) (by omega) (by omega) (fun j j1 j2 => ?_) (fun j j1 j2 => ?_) F (by omega)
    · rw [q12_rows_rows, ai_upd (by omega) (by omega)]
      by_cases he : j = k
      · rw [if_pos (by omega), he]
        rfl
      · rw [if_neg (by omega), hf j j1 (by omega)]
    · rw [q12_rows_rows, ai_upd (by omega) j1, if_neg (by omega), hg j j1 j2]
