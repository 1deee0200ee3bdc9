-- layer 2: safe
theorem z_hits {tr : BX2} {c : BX6} {sg : BX7} {ey : BX1} {u : BX10} {v2 : BX8} {b : PB} {m : BX12} {w h : Int} {A : Int → Int} {r nn x y hd : Int} (hM : MW m w h A) (hI : InW w h A) (hE : InE A) (hW : RWo u w h A) (hV : REy ey A) (h3 : 0 ≤ A 3 ∧ A 3 ≤ 8) (hv : pX8_rules v2 = iI (A 3)) (hC : CR RO v2 b (pX12_texts m) (A 3)) (hb : pX6_bound c = iI 1000000) (hb2 : pX12_bound m = lI 1000000) (hn : pX7_n sg = (w * h).toNat) (hr : 0 ≤ r ∧ r ≤ A 3 - 1) (n1 : 0 ≤ nn) (nn60 : nn ≤ 60) (hp : (0 ≤ x ∧ x < 16 * w) ∧ 0 ≤ y ∧ y < 16 * h) (hh : 0 ≤ hd ∧ hd < 64) :
    ∃ (ht : Int) (c' : BX6) (sg' : BX7) (tr' : BX2) (m' : BX12), f_X3_hitsFrom () c sg v2 tr ey u b (iI r) (iI x) (iI y) (iI hd) (iI nn) = some (iI ht, c', sg', tr') ∧ (ht = 0 ∨ ht = 1) ∧ pX6_bound c' = iI 1000000 ∧ pX7_n sg' = (w * h).toNat ∧ f_X12_run m (iI r) (iI x) (iI y) (iI hd) (iI nn) = some m' ∧ FrR m m' ∧ pX12_hit m' = iI ht := by
  obtain ⟨fl1, f1, hbeg⟩ := z_begin tr v2 ey (iI x) (iI y) (iI hd)
  obtain ⟨q, hq1, hq2⟩ := hC.1 r hr.1 (by omega)
  have hRO := hC.2 r hr.1 (by omega) q hq1
  have hF0 := z_FI0 (m := m) hI hV hp hh hbeg
  obtain ⟨R, g1, g2, g3, m', f2, frR, t', x', y', hd', ht', rs', tk', rw', hFI, _, _⟩ := z_flight (n := b.2.1 q) (code := b.2.2 q) (c := c) (sg := sg) (v5 := v2) (r := r) (nn := nn) hM hI hE hW hV (by omega) (by omega) hb hb2 hn hr.1 (by omega) hRO n1 nn60 hF0
  obtain ⟨_, _, _, _, _, ⟨c14, c15, c16⟩, _⟩ := hFI
  refine ⟨ht', R.2.1, R.2.2, R.1, m', ?_, c16, g2, g3, f2, frR, c15⟩
  unfold f_X3_hitsFrom
  rw [z_isRuleC hv h3 (by omega) (by omega), bind_s, bI_t hr, if_neg (show ¬ (1 : Int32) = 0 by decide), f1, bind_s, gd_t (by rw [iI_inB (by omega) (by omega)]; omega), iI_cl hr.1 (by omega), hq1, bind_s, gd_t hq2, g1, bind_s, lt_e, c14, gd_t (by rcases c16 with e | e <;> rw [e] <;> decide)]
theorem o_safe : Op_safe (Rel RO) := by
  intro v0 v1 v2 v3 v4 v5 v6 v7 v8 v9 v10 v11 v12 v13 v14 v15 v16 v17 v18 hR p0 p1 p2 p3 p4 p5 p6 p7
  have hR' := hR
  obtain ⟨w, h, A, G, hM, rG, hA, hG, ⟨hW, hV, hRe, hFl⟩, r6, ⟨e1, e2, e3, e4, e5⟩, hn, hTP, hFT⟩ := hR'
  have hI := hA.1
  have hE := hA.2.1
  have h3 := hA.2.2.2.2
  have hw4 := hI.1
  obtain ⟨r, r1, r2, rfl⟩ := iI_of p0
  obtain ⟨fx, fx1, fx2, rfl⟩ := iI_of p1
  obtain ⟨tx, tx1, tx2, rfl⟩ := iI_of p2
  obtain ⟨y, y1, y2, rfl⟩ := iI_of p3
  obtain ⟨fh, fh1, fh2, rfl⟩ := iI_of p4
  obtain ⟨th, th1, th2, rfl⟩ := iI_of p5
  obtain ⟨nn, n1, n2, rfl⟩ := iI_of p6
  obtain ⟨wh, wh1, wh2, rfl⟩ := iI_of p7
  unfold f_X11_safe f_X12_safe
  rw [z_isRuleC e1 h3 r1 r2, z_isRule hM h3 r1 r2, z_isStanding hW hI fx1 fx2 y1 y2 fh1 fh2, z_isStanding hW hI tx1 tx2 y1 y2 th1 th2, z_isPlace hM hI fx1 fx2 y1 y2, z_isPlace hM hI tx1 tx2 y1 y2]
  simp (maxSteps := 3000000) (disch := omega) only [iLit, z_isSideM, sz_isIn, sz_isWithin, bind_s, bI_0I, ite_not, iI_eq, iI_lt, iI_le]
  have none_ : ∀ (k1 : Option (Int32 × BX7 × BX6 × BX2)) (k2 : Option (Int32 × BX12)), k1 = some (-iI 1, v5, v6, v7) → k2 = some (-iI 1, v17) → ∃ (r : Int32) (x : BX7 × BX6 × BX2) (y : BX12), k1 = some (r, x) ∧ k2 = some (r, y) ∧ Rel RO v0 v1 v2 v3 v4 x.1 x.2.1 x.2.2 v8 v9 v10 v11 v12 v13 v14 v15 v16 y v18 := fun k1 k2 h1 h2 => ⟨-iI 1, (v5, v6, v7), v17, h1, h2, hR⟩
  by_cases hr : 0 ≤ r ∧ r ≤ A 3 - 1
  case neg => exact none_ _ _ (if_neg hr) (if_neg hr)
  rw [if_pos hr, if_pos hr]
  by_cases hnn : 1 ≤ nn ∧ nn ≤ 60
  case neg =>
    rw [if_neg hnn, if_neg hnn]
    refine none_ _ _ rfl ?_
    repeat' (first | rfl | split)
  rw [if_pos hnn, if_pos hnn]
  by_cases hwh : 0 ≤ wh ∧ wh ≤ 1
  case neg =>
    rw [if_neg hwh, if_neg hwh]
    refine none_ _ _ rfl ?_
    repeat' (first | rfl | split)
  rw [if_pos hwh, if_pos hwh]
  by_cases hpf : (0 ≤ fx ∧ fx < 16 * w) ∧ 0 ≤ y ∧ y < 16 * h
  case neg =>
    rw [if_neg (fun e => hpf e.1), if_neg hpf]
    exact none_ _ _ rfl rfl
  by_cases hfh : 0 ≤ fh ∧ fh ≤ 63
  case neg =>
    rw [if_neg (fun e => hfh e.2), if_neg hfh]
    refine none_ _ _ rfl ?_
    repeat' (first | rfl | split)
  rw [if_pos ⟨hpf, hfh⟩, if_pos hpf, if_pos hfh]
  by_cases hpt : (0 ≤ tx ∧ tx < 16 * w) ∧ 0 ≤ y ∧ y < 16 * h
  case neg =>
    rw [if_neg (fun e => hpt e.1), if_neg hpt]
    exact none_ _ _ rfl rfl
  by_cases hth : 0 ≤ th ∧ th ≤ 63
  case neg =>
    rw [if_neg (fun e => hth e.2), if_neg hth]
    refine none_ _ _ rfl ?_
    repeat' (first | rfl | split)
  rw [if_pos ⟨hpt, hth⟩, if_pos hpt, if_pos hth]
  by_cases hx : tx < fx
  case pos =>
    rw [if_pos hx, if_pos hx]
    exact none_ _ _ rfl rfl
  rw [if_neg hx, if_neg hx]
  by_cases hhd : th < fh
  case pos =>
    rw [if_neg (show ¬ fh ≤ th by omega), if_pos hhd]
    exact none_ _ _ rfl rfl
  rw [if_pos (show fh ≤ th by omega), if_neg hhd]
  simp only [lt_e]
  rw [iI_sub, iI_sub, iI_div (by omega) (by omega) (by omega) (by omega), iI_add, iI_add, iI_mul]
  have hbm : 0 ≤ ((tx - fx) / 16 + 1) * (th - fh + 1) ∧ ((tx - fx) / 16 + 1) * (th - fh + 1) ≤ 1600 := by
    have a1 : ((tx - fx) / 16 + 1) * (th - fh + 1) ≤ 25 * (th - fh + 1) := Int.mul_le_mul_of_nonneg_right (by omega) (by omega)
    have a2 : 0 ≤ ((tx - fx) / 16 + 1) * (th - fh + 1) := Int.mul_nonneg (by omega) (by omega)
    omega
  simp (disch := omega) only [iI_le]
  by_cases h64 : ((tx - fx) / 16 + 1) * (th - fh + 1) ≤ 64
  case neg =>
    rw [if_neg h64, if_neg h64]
    exact none_ _ _ rfl rfl
  rw [if_pos h64, if_pos h64]
  unfold f_X3_bindTo
  rw [lt_e, bind_s]
  have fb : FrP v17 (sX12_bound v17 1000000) := (FrP.refl v17).s_bound _
  have hMb := fb.mw hM
  -- one row of heads; what comes behind it is given
  have inner : ∀ (x : Int), fx ≤ x → x ≤ tx → ∀ (J1 : (Int32 × Int32 × Int32 × Int32 × Int32 × Int32 × Int32 × Int32 × BX7 × BX6 × BX2) → Option (Int32 × BX7 × BX6 × BX2)) (J2 : (Int32 × Int32 × Int32 × Int32 × Int32 × Int32 × Int32 × Int32 × BX12) → Option (Int32 × BX12)), (∀ (c : BX6) (sg : BX7) (tr : BX2) (m : BX12), FrR (sX12_bound v17 1000000) m → pX6_bound c = iI 1000000 → pX7_n sg = (w * h).toNat → ∃ (rr : Int32) (sg' : BX7) (c' : BX6) (tr' : BX2) (m' : BX12), J1 (iI r, iI tx, iI y, iI fh, iI th, iI nn, iI wh, iI (x + 16), sg, c, tr) = some (rr, sg', c', tr') ∧ J2 (iI r, iI tx, iI y, iI fh, iI th, iI nn, iI wh, iI (x + 16), m) = some (rr, m') ∧ FrR (sX12_bound v17 1000000) m' ∧ pX7_n sg' = (w * h).toNat) →
      ∀ (k : Nat) (hd : Int), fh ≤ hd → (k : Int) + hd = th + 1 → ∀ (c : BX6) (sg : BX7) (tr : BX2) (m : BX12), FrR (sX12_bound v17 1000000) m → pX6_bound c = iI 1000000 → pX7_n sg = (w * h).toNat → ∀ F G, k < F → k < G → ∃ (rr : Int32) (sg' : BX7) (c' : BX6) (tr' : BX2) (m' : BX12), f_X11_safe_b125 v0 v1 v2 v8 v11 v18 J1 F (iI r, iI tx, iI y, iI fh, iI th, iI nn, iI wh, iI x, iI hd, sg, c, tr) = some (rr, sg', c', tr') ∧ f_X12_safe_b122 J2 G (iI r, iI tx, iI y, iI fh, iI th, iI nn, iI wh, iI x, iI hd, m) = some (rr, m') ∧ FrR (sX12_bound v17 1000000) m' ∧ pX7_n sg' = (w * h).toNat := by
    intro x xa xb J1 J2 hJ
    have hdec : Decidable (sFree w h A x y 0) := Classical.propDecidable _
    have e16 : iI x + (16 : Int32) = iI (x + 16) := by rw [show (16 : Int32) = iI 16 from rfl, iI_add]
    by_cases hf : sFree w h A x y 0
    · intro k
      induction k with
      | zero =>
        intro hd d1 d2 c sg tr m fr hb hn' F G hF hG
        obtain ⟨F, rfl⟩ : ∃ F', F = F' + 1 := ⟨F - 1, by omega⟩
        obtain ⟨G, rfl⟩ : ∃ F', G = F' + 1 := ⟨G - 1, by omega⟩
        show ∃ (rr : Int32) (sg' : BX7) (c' : BX6) (tr' : BX2) (m' : BX12), f_X11_safe_b125B v0 v1 v2 v8 v11 v18 J1 (f_X11_safe_b125 v0 v1 v2 v8 v11 v18 J1 F) (iI r) (iI tx) (iI y) (iI fh) (iI th) (iI nn) (iI wh) (iI x) (iI hd) sg c tr = some (rr, sg', c', tr') ∧ f_X12_safe_b122B J2 (f_X12_safe_b122 J2 G) (iI r) (iI tx) (iI y) (iI fh) (iI th) (iI nn) (iI wh) (iI x) (iI hd) m = some (rr, m') ∧ FrR (sX12_bound v17 1000000) m' ∧ pX7_n sg' = (w * h).toNat
        unfold f_X11_safe_b125B f_X12_safe_b122B f_X12_safe_b179
        rw [if_pos (show iI th < iI hd by rw [iI_lt (by omega) (by omega) (by omega) (by omega)]; omega), if_pos (show iI th < iI hd by rw [iI_lt (by omega) (by omega) (by omega) (by omega)]; omega), lt_e, lt_e, e16]
        exact hJ c sg tr m fr hb hn'
      | succ k ih =>
        intro hd d1 d2 c sg tr m fr hb hn' F G hF hG
        obtain ⟨F, rfl⟩ : ∃ F', F = F' + 1 := ⟨F - 1, by omega⟩
        obtain ⟨G, rfl⟩ : ∃ F', G = F' + 1 := ⟨G - 1, by omega⟩
        show ∃ (rr : Int32) (sg' : BX7) (c' : BX6) (tr' : BX2) (m' : BX12), f_X11_safe_b125B v0 v1 v2 v8 v11 v18 J1 (f_X11_safe_b125 v0 v1 v2 v8 v11 v18 J1 F) (iI r) (iI tx) (iI y) (iI fh) (iI th) (iI nn) (iI wh) (iI x) (iI hd) sg c tr = some (rr, sg', c', tr') ∧ f_X12_safe_b122B J2 (f_X12_safe_b122 J2 G) (iI r) (iI tx) (iI y) (iI fh) (iI th) (iI nn) (iI wh) (iI x) (iI hd) m = some (rr, m') ∧ FrR (sX12_bound v17 1000000) m' ∧ pX7_n sg' = (w * h).toNat
        have hMm := fr.mw hMb
        obtain ⟨ht, c', sg', tr', m', k1, k2, k3, k4, k5, k6, k7⟩ := z_hits (tr := tr) (c := c) (sg := sg) (nn := nn) (hd := hd) hMm hI hE hW hV h3 e1 (by rw [fr.texts, fb.texts]; exact e4) hb (by rw [fr.bound, q12_bound_bound]; rfl) hn' hr (by omega) hnn.2 hf.1 (by omega)
        unfold f_X11_safe_b125B f_X12_safe_b122B f_X11_safe_b182
        rw [if_neg (show ¬ iI th < iI hd by rw [iI_lt (by omega) (by omega) (by omega) (by omega)]; omega), if_neg (show ¬ iI th < iI hd by rw [iI_lt (by omega) (by omega) (by omega) (by omega)]; omega), show (0 : Int32) = iI 0 from rfl, z_isFree hW hI (by omega) (by omega) y1 y2 (by omega) (by omega), z_isStart hMm hI (by omega) (by omega) y1 y2, bI_t hf, bind_s, bind_s, if_neg (show ¬ (1 : Int32) = iI 0 by decide), if_neg (show ¬ (1 : Int32) = iI 0 by decide), k1, k5, bind_s, bind_s, k7]
        dsimp only
        rcases k2 with e | e
        · rw [e, if_pos rfl, if_pos rfl, lt_e, lt_e, show (1 : Int32) = iI 1 from rfl, iI_add]
          exact ih (hd + 1) (by omega) (by omega) c' sg' tr' m' (fr.trans k6) k3 k4 F G (by omega) (by omega)
        · rw [e, if_neg (show ¬ iI 1 = iI 0 by decide), if_neg (show ¬ iI 1 = iI 0 by decide)]
          by_cases h0 : iI wh = iI 0
          · rw [if_pos h0, if_pos h0]
            exact ⟨_, _, _, _, _, rfl, rfl, fr.trans k6, k4⟩
          · rw [if_neg h0, if_neg h0]
            exact ⟨_, _, _, _, _, rfl, rfl, fr.trans k6, k4⟩
    · -- not a start: the reference leaves the row at once
      intro k hd d1 d2 c sg tr m fr hb hn' F G hF hG
      have hMm := fr.mw hMb
      have m1 : f_X12_safe_b122 J2 G (iI r, iI tx, iI y, iI fh, iI th, iI nn, iI wh, iI x, iI hd, m) = J2 (iI r, iI tx, iI y, iI fh, iI th, iI nn, iI wh, iI (x + 16), m) := by
        obtain ⟨G, rfl⟩ : ∃ F', G = F' + 1 := ⟨G - 1, by omega⟩
        show f_X12_safe_b122B J2 (f_X12_safe_b122 J2 G) (iI r) (iI tx) (iI y) (iI fh) (iI th) (iI nn) (iI wh) (iI x) (iI hd) m = _
        unfold f_X12_safe_b122B f_X12_safe_b179
        rw [z_isStart hMm hI (by omega) (by omega) y1 y2, bI_f hf, bind_s, if_pos (show (0 : Int32) = 0 from rfl), lt_e, e16]
        split <;> rfl
      have c1 : ∀ (k : Nat) (hd : Int), fh ≤ hd → (k : Int) + hd = th + 1 → ∀ F, k < F → f_X11_safe_b125 v0 v1 v2 v8 v11 v18 J1 F (iI r, iI tx, iI y, iI fh, iI th, iI nn, iI wh, iI x, iI hd, sg, c, tr) = J1 (iI r, iI tx, iI y, iI fh, iI th, iI nn, iI wh, iI (x + 16), sg, c, tr) := by
        intro k
        induction k with
        | zero =>
          intro hd d1 d2 F hF
          obtain ⟨F, rfl⟩ : ∃ F', F = F' + 1 := ⟨F - 1, by omega⟩
          show f_X11_safe_b125B v0 v1 v2 v8 v11 v18 J1 (f_X11_safe_b125 v0 v1 v2 v8 v11 v18 J1 F) (iI r) (iI tx) (iI y) (iI fh) (iI th) (iI nn) (iI wh) (iI x) (iI hd) sg c tr = _
          unfold f_X11_safe_b125B
          rw [if_pos (show iI th < iI hd by rw [iI_lt (by omega) (by omega) (by omega) (by omega)]; omega), lt_e, e16]
        | succ k ih =>
          intro hd d1 d2 F hF
          obtain ⟨F, rfl⟩ : ∃ F', F = F' + 1 := ⟨F - 1, by omega⟩
          show f_X11_safe_b125B v0 v1 v2 v8 v11 v18 J1 (f_X11_safe_b125 v0 v1 v2 v8 v11 v18 J1 F) (iI r) (iI tx) (iI y) (iI fh) (iI th) (iI nn) (iI wh) (iI x) (iI hd) sg c tr = _
          unfold f_X11_safe_b125B f_X11_safe_b182
          rw [if_neg (show ¬ iI th < iI hd by rw [iI_lt (by omega) (by omega) (by omega) (by omega)]; omega), show (0 : Int32) = iI 0 from rfl, z_isFree hW hI (by omega) (by omega) y1 y2 (by omega) (by omega), bI_f hf, bind_s, if_pos (show (0 : Int32) = iI 0 from rfl), lt_e, show (1 : Int32) = iI 1 from rfl, iI_add]
          exact ih (hd + 1) (by omega) (by omega) F (by omega)
      rw [m1, c1 k hd d1 d2 F hF]
      exact hJ c sg tr m fr hb hn'
  -- the rows
  have outer : ∀ (k : Nat) (x : Int), fx ≤ x → tx - x < 16 * (k : Int) → x ≤ tx + 16 → ∀ (c : BX6) (sg : BX7) (tr : BX2) (m : BX12), FrR (sX12_bound v17 1000000) m → pX6_bound c = iI 1000000 → pX7_n sg = (w * h).toNat → ∀ F G, k < F → k < G → ∃ (rr : Int32) (sg' : BX7) (c' : BX6) (tr' : BX2) (m' : BX12), f_X11_safe_b115 v0 v1 v2 v8 v11 v18 F (iI r, iI tx, iI y, iI fh, iI th, iI nn, iI wh, iI x, sg, c, tr) = some (rr, sg', c', tr') ∧ f_X12_safe_b112 G (iI r, iI tx, iI y, iI fh, iI th, iI nn, iI wh, iI x, m) = some (rr, m') ∧ FrR (sX12_bound v17 1000000) m' ∧ pX7_n sg' = (w * h).toNat := by
    intro k
    induction k with
    | zero =>
      intro x xa xb xc c sg tr m fr hb hn' F G hF hG
      obtain ⟨F, rfl⟩ : ∃ F', F = F' + 1 := ⟨F - 1, by omega⟩
      obtain ⟨G, rfl⟩ : ∃ F', G = F' + 1 := ⟨G - 1, by omega⟩
      show ∃ (rr : Int32) (sg' : BX7) (c' : BX6) (tr' : BX2) (m' : BX12), f_X11_safe_b115B v0 v1 v2 v8 v11 v18 (f_X11_safe_b115 v0 v1 v2 v8 v11 v18 F) (iI r) (iI tx) (iI y) (iI fh) (iI th) (iI nn) (iI wh) (iI x) sg c tr = some (rr, sg', c', tr') ∧ f_X12_safe_b112B (f_X12_safe_b112 G) (iI r) (iI tx) (iI y) (iI fh) (iI th) (iI nn) (iI wh) (iI x) m = some (rr, m') ∧ FrR (sX12_bound v17 1000000) m' ∧ pX7_n sg' = (w * h).toNat
      unfold f_X11_safe_b115B f_X12_safe_b112B
      rw [if_pos (show iI tx < iI x by rw [iI_lt (by omega) (by omega) (by omega) (by omega)]; omega), if_pos (show iI tx < iI x by rw [iI_lt (by omega) (by omega) (by omega) (by omega)]; omega)]
      exact ⟨_, _, _, _, _, rfl, rfl, fr, hn'⟩
    | succ k ih =>
      intro x xa xb xc c sg tr m fr hb hn' F G hF hG
      obtain ⟨F, rfl⟩ : ∃ F', F = F' + 1 := ⟨F - 1, by omega⟩
      obtain ⟨G, rfl⟩ : ∃ F', G = F' + 1 := ⟨G - 1, by omega⟩
      show ∃ (rr : Int32) (sg' : BX7) (c' : BX6) (tr' : BX2) (m' : BX12), f_X11_safe_b115B v0 v1 v2 v8 v11 v18 (f_X11_safe_b115 v0 v1 v2 v8 v11 v18 F) (iI r) (iI tx) (iI y) (iI fh) (iI th) (iI nn) (iI wh) (iI x) sg c tr = some (rr, sg', c', tr') ∧ f_X12_safe_b112B (f_X12_safe_b112 G) (iI r) (iI tx) (iI y) (iI fh) (iI th) (iI nn) (iI wh) (iI x) m = some (rr, m') ∧ FrR (sX12_bound v17 1000000) m' ∧ pX7_n sg' = (w * h).toNat
      unfold f_X11_safe_b115B f_X12_safe_b112B
      by_cases hlt : tx < x
      · rw [if_pos (show iI tx < iI x by rw [iI_lt (by omega) (by omega) (by omega) (by omega)]; omega), if_pos (show iI tx < iI x by rw [iI_lt (by omega) (by omega) (by omega) (by omega)]; omega)]
        exact ⟨_, _, _, _, _, rfl, rfl, fr, hn'⟩
      · rw [if_neg (show ¬ iI tx < iI x by rw [iI_lt (by omega) (by omega) (by omega) (by omega)]; omega), if_neg (show ¬ iI tx < iI x by rw [iI_lt (by omega) (by omega) (by omega) (by omega)]; omega)]
        exact inner x xa (by omega) _ _ (fun c sg tr m fr hb hn' => ih (x + 16) (by omega) (by omega) (by omega) c sg tr m fr hb hn' F G (by omega) (by omega)) (th - fh + 1).toNat fh (by omega) (by omega) c sg tr m fr hb hn' fU fU (by rw [fU_v]; omega) (by rw [fU_v]; omega)
  obtain ⟨rr, sg', c', tr', m', o1, o2, o3, o4⟩ := outer 30 fx (by omega) (by omega) (by omega) (sX6_bound v6 1000000) v5 v7 (sX12_bound v17 1000000) (FrR.refl _) (by rw [q6_bound_bound]; rfl) hn fU fU (by rw [fU_v]; omega) (by rw [fU_v]; omega)
  exact ⟨rr, (sg', c', tr'), m', o1, o2, hR.scr (fb.trans o3.p) (o4.trans hn.symm) rfl rfl rfl⟩
