-- layer 2: rows of operations, clauses, rules
abbrev OpL : Type := List (Int × Int)
def Sh (K : Int → Bool) : OpL → Int → Int → Int → Int → Prop
  | [], nv, nb, a, b => a = nv ∧ b = nb
  | (o, v) :: r, nv, nb, a, b => ∃ x y : Int, ShO K o v nv nb x y ∧ Sh K r x y a b
def LayO (texts : Nat → Int32) (d : Int) : OpL → Int → Prop
  | [], _ => True
  | (o, v) :: r, i => texts (d + 2 * i).toNat = iI o ∧ texts (d + 2 * i + 1).toNat = iI v ∧ LayO texts d r (i + 1)
def LayK (code : Nat → Int32) : OpL → Int → Prop
  | [], _ => True
  | (o, v) :: r, j => code j.toNat = iI (v * 32 + trO o) ∧ LayK code r (j + 1)
def oLen (l : OpL) : Int := (l.length : Int)
theorem oLen_c (p : Int × Int) (l : OpL) : oLen (p :: l) = oLen l + 1 := by
  unfold oLen
  rw [List.length_cons]
  omega
theorem oLen_nn (l : OpL) : 0 ≤ oLen l := by
  unfold oLen
  omega
theorem ShO_nn {K : Int → Bool} {o v nv nb a b : Int} (h : ShO K o v nv nb a b) (n1 : 0 ≤ nv) (n2 : 0 ≤ nb) (n3 : nv + nb ≤ 60) : 0 ≤ a ∧ 0 ≤ b ∧ a + b ≤ 60 := by
  unfold ShO at h
  omega
theorem LK.cg {K : Int → Bool} {Lt : Int → Int} {c c' : BX6} {m m' : BX12} (h : LK K Lt c m) (e1 : pX6_letters c' = pX6_letters c) (e2 : pX12_told m' = pX12_told m) : LK K Lt c' m' := by
  intro k k1 k2 k3
  rw [e1, e2]
  exact h k k1 k2 k3
theorem z_ops {n : Nat} {code : Nat → Int32} {fl : BX2} {ey : BX1} {A : Int → Int} {tk : Int → Int → Int} {t : Int} {K : Int → Bool} {Lt : Int → Int} {B ov d to : Int} (hB : 7 ≤ B) (hB2 : B ≤ 1000000) (hn : (n : Int) ≤ 400) (d1 : 0 ≤ d) (d2 : d + 2 * to < 6400) (to2 : to < 100000) : ∀ (ops : OpL) (nv nb a b j i : Int) (V T : Int → Int) (c : BX6) (m : BX12), EV fl ey m A tk t → LK K Lt c m → XR B ov nv nb V T c m → 0 ≤ nv → 0 ≤ nb → nv + nb ≤ 60 → Sh K ops nv nb a b → 0 ≤ j → j + oLen ops ≤ n → 0 ≤ i → i + oLen ops ≤ to → LayK code ops j → LayO (pX12_texts m) d ops i →
    ∃ (c' : BX6) (m' : BX12) (V' T' : Int → Int), (∀ F, f_X6_run_b27 n code fl ey (F + ops.length) (iI j, c) = f_X6_run_b27 n code fl ey F (iI (j + oLen ops), c')) ∧ (∀ F, f_X12_work_b9 (F + ops.length) (iI d, iI to, iI nv, iI nb, iI i, m) = f_X12_work_b9 F (iI d, iI to, iI a, iI b, iI (i + oLen ops), m')) ∧ XR B ov a b V' T' c' m' ∧ FrC c c' ∧ FrW m m' := by
  intro ops
  induction ops with
  | nil =>
    intro nv nb a b j i V T c m hE hK hX n1 n2 n3 hS j1 j2 i1 i2 hk ho
    obtain ⟨e1, e2⟩ := hS
    rw [e1, e2]
    refine ⟨c, m, V, T, fun F => ?_, fun F => ?_, hX, FrC.refl c, FrW.refl m⟩
    · rw [show oLen [] = 0 from rfl, Int.add_zero]
      rfl
    · rw [show oLen [] = 0 from rfl, Int.add_zero]
      rfl
  | cons p r ih =>
    intro nv nb a b j i V T c m hE hK hX n1 n2 n3 hS j1 j2 i1 i2 hk ho
    obtain ⟨o, v⟩ := p
    obtain ⟨x, y, hs, hS⟩ := hS
    obtain ⟨k1, k2⟩ := hk
    obtain ⟨l1, l2, l3⟩ := ho
    rw [oLen_c] at j2 i2
    have hr := oLen_nn r
    obtain ⟨c1, m1, V1, T1, f1, f2, hX1, fc, fw⟩ := z_step hE hK hX hB hB2 n1 n2 n3 hs hn j1 (by omega) k1 d1 (by omega) i1 (show i < to by omega) to2 l1 l2
    have hn2 := ShO_nn hs n1 n2 n3
    obtain ⟨c2, m2, V2, T2, g1, g2, hX2, fc2, fw2⟩ := ih x y a b (j + 1) (i + 1) V1 T1 c1 m1 (hE.cg fw.a fw.now fw.rows) (hK.cg fc.letters fw.told) hX1 hn2.1 hn2.2.1 hn2.2.2 hS (by omega) (by omega) (by omega) (by omega) k2 (by rw [fw.texts]; exact l3)
    refine ⟨c2, m2, V2, T2, fun F => ?_, fun F => ?_, hX2, fc.trans fc2, fw.trans fw2⟩
    · rw [List.length_cons, ← Nat.add_assoc]
      show f_X6_run_b27B n code fl ey (f_X6_run_b27 n code fl ey (F + r.length)) (iI j) c = _
      rw [f1, g1, oLen_c, show j + 1 + oLen r = j + (oLen r + 1) by omega]
    · rw [List.length_cons, ← Nat.add_assoc]
      show f_X12_work_b9B (f_X12_work_b9 (F + r.length)) (iI d) (iI to) (iI nv) (iI nb) (iI i) m = _
      rw [f2, g2, oLen_c, show i + 1 + oLen r = i + (oLen r + 1) by omega]
abbrev Prog : Type := List (Int × Int × OpL)
def WF : Prog → (Int → Bool) → Prop
  | [], _ => True
  | (s, l, ops) :: r, K => (s = 1 ∧ (0 ≤ l ∧ l < 8) ∧ Sh K ops 0 0 1 0 ∧ WF r (fun k => if k = l then true else K k)) ∨ ((s = 2 ∨ s = 3) ∧ l = 0 ∧ Sh K ops 0 0 1 0 ∧ WF r K) ∨ (s = 4 ∧ l = 0 ∧ Sh K ops 0 0 0 1 ∧ WF r K)
def LayT (texts : Nat → Int32) (b : Int) : Prog → Int → Int → Prop
  | [], _, _ => True
  | (s, l, ops) :: r, c, i => texts (b + 1 + 4 * c).toNat = iI s ∧ (s = 1 → texts (b + 1 + 4 * c + 1).toNat = iI l) ∧ texts (b + 1 + 4 * c + 2).toNat = iI i ∧ texts (b + 1 + 4 * c + 3).toNat = iI (i + oLen ops) ∧ LayO texts (b + 80) ops i ∧ LayT texts b r (c + 1) (i + oLen ops)
def LayC (code : Nat → Int32) : Prog → Int → Prop
  | [], _ => True
  | (s, l, ops) :: r, j => LayK code ops j ∧ code (j + oLen ops).toNat = iI (l * 32 + (20 + s)) ∧ LayC code r (j + oLen ops + 1)
def pLen : Prog → Nat
  | [] => 0
  | (_, _, ops) :: r => ops.length + 1 + pLen r
def pOps : Prog → Int
  | [] => 0
  | (_, _, ops) :: r => oLen ops + pOps r
theorem pOps_nn : ∀ p : Prog, 0 ≤ pOps p
  | [] => Int.le_refl 0
  | (_, _, ops) :: r => by
    have := pOps_nn r
    have := oLen_nn ops
    unfold pOps
    omega
theorem pLen_v : ∀ p : Prog, (pLen p : Int) = pOps p + p.length
  | [] => rfl
  | (_, _, ops) :: r => by
    have := pLen_v r
    unfold pLen pOps oLen
    rw [List.length_cons]
    omega
def sTn (x : Int) : Int := if x < -8 then -8 else if 8 < x then 8 else x
def sGo (x : Int) : Int := if x < 0 then 0 else if 16 < x then 16 else x
theorem z_finish {c : BX6} {x l : Int} (h1 : -1000000 ≤ x) (h2 : x ≤ 1000000) (l1 : 0 ≤ l) (l2 : l < 8) : f_X6_finish c (iI 21) (iI l) (iI x) = some (sX6_letters c (upd (pX6_letters c) l.toNat (iI x))) ∧ f_X6_finish c (iI 22) (iI l) (iI x) = some (sX6_turn c (iI (sTn x))) ∧ f_X6_finish c (iI 23) (iI l) (iI x) = some (sX6_go c (iI (sGo x))) ∧ f_X6_finish c (iI 24) (iI l) (iI x) = some (sX6_rests c (iI (if x = 0 then 0 else 1))) := by
  unfold f_X6_finish f_X6_finish_b93
  refine ⟨?_, ?_, ?_, ?_⟩
  · rw [if_pos (show iI 21 = (21 : Int32) from rfl)]
    simp (disch := omega) only [iLit, sz_isWithin, bind_s, bI_0I, ite_not, iI_inB, gd_t, iI_cl, lt_e]
    rw [if_pos (by omega)]
  · rw [if_neg (show ¬ iI 22 = (21 : Int32) by decide), if_pos (show iI 22 = (22 : Int32) from rfl)]
    simp (disch := omega) only [iLit, iI_neg, iI_lt, lt_e]
    unfold sTn
    by_cases c1 : x < 8
    · rw [if_pos c1]
      simp (disch := omega) only [iI_lt]
      by_cases c2 : -8 < x
      · rw [if_pos c2, if_neg (by omega), if_neg (by omega)]
      · by_cases c3 : x < -8
        · rw [if_neg c2, if_pos c3]
        · rw [if_neg c2, if_neg c3, if_neg (by omega), show x = -8 by omega]
    · rw [if_neg c1]
      simp (disch := omega) only [iI_lt]
      rw [if_pos (by omega), if_neg (by omega)]
      by_cases c2 : 8 < x
      · rw [if_pos c2]
      · rw [if_neg c2, show x = 8 by omega]
  · rw [if_neg (show ¬ iI 23 = (21 : Int32) by decide), if_neg (show ¬ iI 23 = (22 : Int32) by decide), if_pos (show iI 23 = (23 : Int32) from rfl)]
    simp (disch := omega) only [iLit, iI_neg, iI_lt, lt_e]
    unfold sGo
    by_cases c1 : x < 16
    · rw [if_pos c1]
      simp (disch := omega) only [iI_lt]
      by_cases c2 : 0 < x
      · rw [if_pos c2, if_neg (by omega), if_neg (by omega)]
      · by_cases c3 : x < 0
        · rw [if_neg c2, if_pos c3]
        · rw [if_neg c2, if_neg c3, if_neg (by omega), show x = 0 by omega]
    · rw [if_neg c1]
      simp (disch := omega) only [iI_lt]
      rw [if_pos (by omega), if_neg (by omega)]
      by_cases c2 : 16 < x
      · rw [if_pos c2]
      · rw [if_neg c2, show x = 16 by omega]
  · rw [if_neg (show ¬ iI 24 = (21 : Int32) by decide), if_neg (show ¬ iI 24 = (22 : Int32) by decide), if_neg (show ¬ iI 24 = (23 : Int32) by decide)]
    simp (disch := omega) only [iLit, iI_eq, lt_e]
    by_cases c1 : x = 0
    · rw [if_pos c1, if_pos c1, gd_t (Or.inl trivial)]
    · rw [if_neg c1, if_neg c1, gd_t (Or.inr trivial)]
/-- a clause of the reference, behind its work -/
theorem m_clause {m m1 : BX12} {b cl i to s l rs N x : Int} (b1 : 0 ≤ b) (b2 : b ≤ 5600) (c1 : 0 ≤ cl) (c2 : cl < N) (hN : N ≤ 10) (hs : 1 ≤ s ∧ s ≤ 4) (hl : 0 ≤ l ∧ l < 8) (t0 : pX12_texts m b.toNat = iI N) (t1 : pX12_texts m (b + 1 + 4 * cl).toNat = iI s) (t2 : s = 1 → pX12_texts m (b + 1 + 4 * cl + 1).toNat = iI l) (t3 : pX12_texts m (b + 1 + 4 * cl + 2).toNat = iI i) (t4 : pX12_texts m (b + 1 + 4 * cl + 3).toNat = iI to) (hw : f_X12_work m (iI (b + 80)) (iI i) (iI to) = some m1) (ht : pX12_texts m1 = pX12_texts m) (x1 : -1000000 ≤ x) (x2 : x ≤ 1000000) (J : Int32 × Int32 × Int32 × BX12 → Option (Int32 × BX12)) :
    (s = 1 → pX12_values m1 0 = lI x → f_X12_think_b21B J (iI b) (iI rs) (iI cl) m = J (iI b, iI rs, iI (cl + 1), sX12_told m1 (upd (pX12_told m1) l.toNat (iI x)))) ∧
    (s = 2 → pX12_values m1 0 = lI x → f_X12_think_b21B J (iI b) (iI rs) (iI cl) m = J (iI b, iI rs, iI (cl + 1), sX12_turn m1 (iI (sTn x)))) ∧
    (s = 3 → pX12_values m1 0 = lI x → f_X12_think_b21B J (iI b) (iI rs) (iI cl) m = J (iI b, iI rs, iI (cl + 1), sX12_go m1 (iI (sGo x)))) ∧
    (s = 4 → f_X12_think_b21B J (iI b) (iI rs) (iI cl) m = J (iI b, pX12_truth m1 0, iI (cl + 1), m1)) := by
  have hst : f_X12_think_b21B J (iI b) (iI rs) (iI cl) m = g_gd (inB (iI (b + 1 + 4 * cl)) 6400) (if pX12_texts m1 (b + 1 + 4 * cl).toNat = 1 then (g_gd (inB (iI (b + 1 + 4 * cl) + 1) 6400) (g_gd (inB 0 330) (g_lt ((pX12_values m1 0).toInt32) (fun x_33 => g_gd (inB (pX12_texts m1 (iI (b + 1 + 4 * cl) + 1).toNatClampNeg) 8) (g_lt (sX12_told m1 (upd (pX12_told m1) (pX12_texts m1 (iI (b + 1 + 4 * cl) + 1).toNatClampNeg).toNatClampNeg x_33)) (fun v0_35 => f_X12_think_b100 J (iI b) (iI rs) (iI cl) (iI (b + 1 + 4 * cl)) v0_35)))))) else f_X12_think_b100 J (iI b) (iI rs) (iI cl) (iI (b + 1 + 4 * cl)) m1) := by
    unfold f_X12_think_b21B
    simp (disch := omega) only [iLit, iI_inB, gd_t, iI_cl, t0, iI_le, iI_add, iI_mul, t3, t4, lt_e, hw, bind_s]
    rw [if_neg (by omega)]
    rfl
  rw [hst, ht, t1, gd_t (by rw [iI_inB (by omega) (by omega)]; omega)]
  have e1 : (iI s = (1 : Int32)) ↔ s = 1 := iI_eq (b := 1) (by omega) (by omega) (by omega) (by omega)
  have e2 : (iI s = (2 : Int32)) ↔ s = 2 := iI_eq (b := 2) (by omega) (by omega) (by omega) (by omega)
  have e3 : (iI s = (3 : Int32)) ↔ s = 3 := iI_eq (b := 3) (by omega) (by omega) (by omega) (by omega)
  have e4 : (iI s = (4 : Int32)) ↔ s = 4 := iI_eq (b := 4) (by omega) (by omega) (by omega) (by omega)
  have z0 : (Int32.toNatClampNeg 0) = 0 := rfl
  have i0 : inB (0 : Int32) 330 := by decide
  have b231 : ∀ (r : Int32) (q : BX12), f_X12_think_b231 J (iI b) r (iI cl) q = J (iI b, r, iI (cl + 1), q) := by
    intro r q
    unfold f_X12_think_b231
    rw [lt_e, show (1 : Int32) = iI 1 from rfl, iI_add]
  have b213 : ∀ (q : BX12), pX12_texts q = pX12_texts m → f_X12_think_b213 J (iI b) (iI rs) (iI cl) (iI (b + 1 + 4 * cl)) q = if s = 4 then J (iI b, pX12_truth q 0, iI (cl + 1), q) else J (iI b, iI rs, iI (cl + 1), q) := by
    intro q hq
    unfold f_X12_think_b213
    rw [gd_t (by rw [iI_inB (by omega) (by omega)]; omega), hq, iI_cl (by omega) (by omega), t1, gd_t i0, lt_e, z0, b231, b231]
    simp only [e4]
  have b158 : ∀ (q : BX12), pX12_texts q = pX12_texts m → s ≠ 3 → f_X12_think_b158 J (iI b) (iI rs) (iI cl) (iI (b + 1 + 4 * cl)) q = f_X12_think_b213 J (iI b) (iI rs) (iI cl) (iI (b + 1 + 4 * cl)) q := by
    intro q hq h3
    unfold f_X12_think_b158
    rw [gd_t (by rw [iI_inB (by omega) (by omega)]; omega), hq, iI_cl (by omega) (by omega), t1, if_neg (fun e => h3 (e3.mp e))]
  have b100 : ∀ (q : BX12), pX12_texts q = pX12_texts m → s ≠ 2 → f_X12_think_b100 J (iI b) (iI rs) (iI cl) (iI (b + 1 + 4 * cl)) q = f_X12_think_b158 J (iI b) (iI rs) (iI cl) (iI (b + 1 + 4 * cl)) q := by
    intro q hq h3
    unfold f_X12_think_b100
    rw [gd_t (by rw [iI_inB (by omega) (by omega)]; omega), hq, iI_cl (by omega) (by omega), t1, if_neg (fun e => h3 (e2.mp e))]
  refine ⟨fun h hv => ?_, fun h hv => ?_, fun h hv => ?_, fun h => ?_⟩
  · rw [if_pos (e1.mpr h), show (1 : Int32) = iI 1 from rfl, iI_add, gd_t (by rw [iI_inB (by omega) (by omega)]; omega), gd_t i0, lt_e, iI_cl (by omega) (by omega), t2 h, gd_t (by rw [iI_inB (by omega) (by omega)]; omega), lt_e, iI_cl (by omega) (by omega), hv, lI_32, b100 _ (by rw [q12_texts_told]; exact ht) (by omega), b158 _ (by rw [q12_texts_told]; exact ht) (by omega), b213 _ (by rw [q12_texts_told]; exact ht), if_neg (by omega)]
  · rw [if_neg (fun e => by have := e1.mp e; omega)]
    have fin : ∀ z : Int, f_X12_think_b155 J (iI b) (iI rs) (iI cl) (iI (b + 1 + 4 * cl)) (iI z) m1 = J (iI b, iI rs, iI (cl + 1), sX12_turn m1 (iI z)) := by
      intro z
      unfold f_X12_think_b155
      rw [lt_e, b158 _ (by rw [q12_texts_turn]; exact ht) (by omega), b213 _ (by rw [q12_texts_turn]; exact ht), if_neg (by omega)]
    unfold f_X12_think_b100
    rw [gd_t (by rw [iI_inB (by omega) (by omega)]; omega), ht, iI_cl (by omega) (by omega), t1, if_pos (e2.mpr h), z0, hv]
    simp (disch := omega) only [iLit, lLit, lI_neg, lcm_ge, lcm_le, lI_le, iI_inB, gd_t, lI_32, iI_neg, fin]
    unfold sTn
    by_cases a1 : x < -8
    · rw [if_neg (by omega), if_pos a1]
    · rw [if_pos (by omega), if_neg a1]
      by_cases a2 : 8 < x
      · rw [if_neg (by omega), if_pos a2]
      · rw [if_pos (by omega), if_neg a2]
  · rw [if_neg (fun e => by have := e1.mp e; omega), b100 _ ht (by omega)]
    have fin : ∀ z : Int, f_X12_think_b210 J (iI b) (iI rs) (iI cl) (iI (b + 1 + 4 * cl)) (iI z) m1 = J (iI b, iI rs, iI (cl + 1), sX12_go m1 (iI z)) := by
      intro z
      unfold f_X12_think_b210
      rw [lt_e, b213 _ (by rw [q12_texts_go]; exact ht), if_neg (by omega)]
    unfold f_X12_think_b158
    rw [gd_t (by rw [iI_inB (by omega) (by omega)]; omega), ht, iI_cl (by omega) (by omega), t1, if_pos (e3.mpr h), z0, hv]
    simp (disch := omega) only [iLit, lLit, lI_neg, lcm_ge, lcm_le, lI_le, iI_inB, gd_t, lI_32, iI_neg, fin]
    unfold sGo
    by_cases a1 : x < 0
    · rw [if_neg (by omega), if_pos a1]
    · rw [if_pos (by omega), if_neg a1]
      by_cases a2 : 16 < x
      · rw [if_neg (by omega), if_pos a2]
      · rw [if_pos (by omega), if_neg a2]
  · rw [if_neg (fun e => by have := e1.mp e; omega), b100 _ ht (by omega), b158 _ ht (by omega), b213 _ ht, if_pos h]
