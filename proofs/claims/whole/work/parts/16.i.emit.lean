-- layer 2: the parser's small steps
theorem FrK.q {m r : BX12} (h : FrK m r) : FrQ m r := ⟨h.w, h.h, h.taped, h.fault, h.faultPlace, h.a, h.image, h.tape, h.text0, h.clauses, h.came, h.letters⟩
theorem FrG.q {m r : BX12} (h : FrG m r) : FrQ m r := ⟨h.w, h.h, h.taped, h.fault, h.faultPlace, h.a, h.image, h.tape, h.text0, h.clauses, h.came, h.letters⟩
theorem FrO.q {m r : BX12} (h : FrO m r) : FrQ m r := ⟨h.w, h.h, h.taped, h.fault, h.faultPlace, h.a, h.image, h.tape, h.text0, h.clauses, h.came, h.letters⟩
theorem oLen_a (l r : OpL) : oLen (l ++ r) = oLen l + oLen r := by
  unfold oLen
  rw [List.length_append]
  omega
theorem oLen_1 (p : Int × Int) : oLen [p] = 1 := rfl
theorem oLen_0 : oLen [] = 0 := rfl
theorem LayO_a {texts : Nat → Int32} {d : Int} : ∀ (l r : OpL) (i : Int), LayO texts d (l ++ r) i ↔ LayO texts d l i ∧ LayO texts d r (i + oLen l)
  | [], r, i => by
    rw [oLen_0, Int.add_zero]
    exact ⟨fun h => ⟨trivial, h⟩, fun h => h.2⟩
  | (o, v) :: l, r, i => by
    rw [oLen_c, show i + (oLen l + 1) = i + 1 + oLen l by omega]
    have ih := LayO_a (texts := texts) (d := d) l r (i + 1)
    exact ⟨fun h => ⟨⟨h.1, h.2.1, (ih.mp h.2.2).1⟩, (ih.mp h.2.2).2⟩, fun h => ⟨h.1.1, h.1.2.1, ih.mpr ⟨h.1.2.2, h.2⟩⟩⟩
theorem LayK_a {code : Nat → Int32} : ∀ (l r : OpL) (i : Int), LayK code (l ++ r) i ↔ LayK code l i ∧ LayK code r (i + oLen l)
  | [], r, i => by
    rw [oLen_0, Int.add_zero]
    exact ⟨fun h => ⟨trivial, h⟩, fun h => h.2⟩
  | (o, v) :: l, r, i => by
    rw [oLen_c, show i + (oLen l + 1) = i + 1 + oLen l by omega]
    have ih := LayK_a (code := code) l r (i + 1)
    exact ⟨fun h => ⟨⟨h.1, (ih.mp h.2).1⟩, (ih.mp h.2).2⟩, fun h => ⟨h.1.1, ih.mpr ⟨h.1.2, h.2⟩⟩⟩
theorem LayO_cg {t t' : Nat → Int32} {d : Int} : ∀ (l : OpL) (i : Int), 0 ≤ d → 0 ≤ i → (∀ k : Int, 0 ≤ k → k < d + 2 * (i + oLen l) → t' k.toNat = t k.toNat) → LayO t d l i → LayO t' d l i
  | [], _, _, _, _, _ => trivial
  | (o, v) :: l, i, d0, i0, h, hl => by
    rw [oLen_c] at h
    have := oLen_nn l
    refine ⟨?_, ?_, LayO_cg l (i + 1) d0 (by omega) (fun k k1 k2 => h k k1 (by omega)) hl.2.2⟩
    · rw [h _ (by omega) (by omega)]
      exact hl.1
    · rw [h _ (by omega) (by omega)]
      exact hl.2.1
theorem LayK_cg {t t' : Nat → Int32} : ∀ (l : OpL) (i : Int), 0 ≤ i → (∀ k : Int, 0 ≤ k → k < i + oLen l → t' k.toNat = t k.toNat) → LayK t l i → LayK t' l i
  | [], _, _, _, _ => trivial
  | (o, v) :: l, i, i0, h, hl => by
    rw [oLen_c] at h
    have := oLen_nn l
    refine ⟨?_, LayK_cg l (i + 1) (by omega) (fun k k1 k2 => h k k1 (by omega)) hl.2⟩
    rw [h _ (by omega) (by omega)]
    exact hl.1
/-- what the reference has written of the clause -/
def WR (m : BX12) (b w0 : Int) (E : OpL) : Prop := pX12_text0 m = iI b ∧ (0 ≤ b ∧ b ≤ 5600) ∧ 0 ≤ w0 ∧ pX12_written m = iI (w0 + oLen E) ∧ w0 + oLen E ≤ 300 ∧ LayO (pX12_texts m) (b + 80) E w0
/-- texts below the clause's ops are as they were -/
def TBl (m r : BX12) (b w0 : Int) : Prop := ∀ k : Int, 0 ≤ k → k < b + 80 + 2 * w0 → pX12_texts r k.toNat = pX12_texts m k.toNat
theorem TBl.trans {m r q : BX12} {b w0 : Int} (h : TBl m r b w0) (g : TBl r q b w0) : TBl m q b w0 := fun k k1 k2 => (g k k1 k2).trans (h k k1 k2)
theorem TBl.of {m r : BX12} {b w0 : Int} (h : pX12_texts r = pX12_texts m) : TBl m r b w0 := fun k _ _ => by rw [h]
theorem WR.cg {m r : BX12} {b w0 : Int} {E : OpL} (h : WR m b w0 E) (h1 : pX12_text0 r = pX12_text0 m) (h2 : pX12_written r = pX12_written m) (h3 : pX12_texts r = pX12_texts m) : WR r b w0 E := ⟨h1.trans h.1, h.2.1, h.2.2.1, h2.trans h.2.2.2.1, h.2.2.2.2.1, by rw [h3]; exact h.2.2.2.2.2⟩
theorem z_emitM {m : BX12} {b w0 o v : Int} {E : OpL} (h : WR m b w0 E) (hl : w0 + oLen E < 300) : Wp (f_X12_emit m (iI o) (iI v)) (fun r => FrG m r ∧ WR r b w0 (E ++ [(o, v)]) ∧ TBl m r b w0) := by
  obtain ⟨h1, h2, h3, h4, h5, h6⟩ := h
  have hn := oLen_nn E
  unfold f_X12_emit
  rw [h1, h4, show (iI b + 80 + 2 * iI (w0 + oLen E) : Int32) = iI (b + 80 + 2 * (w0 + oLen E)) by rw [show (80 : Int32) = iI 80 from rfl, show (2 : Int32) = iI 2 from rfl, iI_mul, iI_add, iI_add]]
  refine wp_gd ((iI_inB (by omega) (by omega)).mpr (by omega)) (wp_lt ?_)
  rw [q12_text0_texts, q12_written_texts, h1, h4, show (iI b + 80 + 2 * iI (w0 + oLen E) + 1 : Int32) = iI (b + 80 + 2 * (w0 + oLen E) + 1) by rw [show (80 : Int32) = iI 80 from rfl, show (2 : Int32) = iI 2 from rfl, show (1 : Int32) = iI 1 from rfl, iI_mul, iI_add, iI_add, iI_add]]
  refine wp_gd ((iI_inB (by omega) (by omega)).mpr (by omega)) (wp_lt (wp_lt (wp_lt (wp_some ?_))))
  rw [q12_written_texts, q12_written_texts, h4, q12_texts_texts, iI_cl (by omega) (by omega), iI_cl (by omega) (by omega), show (iI (w0 + oLen E) + 1 : Int32) = iI (w0 + oLen E + 1) from iI_add _ 1]
  have hb : ∀ k : Int, 0 ≤ k → k < b + 80 + 2 * (w0 + oLen E) → upd (upd (pX12_texts m) (b + 80 + 2 * (w0 + oLen E)).toNat (iI o)) (b + 80 + 2 * (w0 + oLen E) + 1).toNat (iI v) k.toNat = pX12_texts m k.toNat := by
    intro k k1 k2
    rw [ai_upd (by omega) k1, if_neg (by omega), ai_upd (by omega) k1, if_neg (by omega)]
  refine ⟨FrG.s_written (FrG.s_texts (FrG.s_texts (FrG.refl m) _) _) _, ⟨h1, h2, h3, ?_, by rw [oLen_a, oLen_1]; omega, ?_⟩, ?_⟩
  · rw [q12_written_written, oLen_a, oLen_1, Int.add_assoc]
  · rw [q12_texts_written, q12_texts_texts, LayO_a]
    refine ⟨LayO_cg E w0 (by omega) h3 hb h6, ?_, ?_, trivial⟩
    · rw [ai_upd (by omega) (by omega), if_neg (by omega), q12_texts_texts, ai_upd (by omega) (by omega), if_pos rfl]
    · rw [ai_upd (by omega) (by omega), if_pos rfl]
  · intro k k1 k2
    rw [q12_texts_written, q12_texts_texts]
    exact hb k k1 (by omega)
/-- the class's code of the clause, and where it stands -/
def WC (c : BX4) (s0 : Int) (E : OpL) : Prop := 0 ≤ s0 ∧ pX4_size c = iI (s0 + oLen E) ∧ s0 + oLen E ≤ 300 ∧ LayK (pX4_code c) E s0
def FrZ (c r : BX4) : Prop := pX4_open r = pX4_open c ∧ pX4_told r = pX4_told c ∧ pX4_used r = pX4_used c ∧ pX4_fault r = pX4_fault c ∧ pX4_place r = pX4_place c
/-- codes below are as they were -/
def CBl (c r : BX4) (s0 : Int) : Prop := ∀ k : Int, 0 ≤ k → k < s0 → pX4_code r k.toNat = pX4_code c k.toNat
theorem CBl.trans {m r q : BX4} {s0 : Int} (h : CBl m r s0) (g : CBl r q s0) : CBl m q s0 := fun k k1 k2 => (g k k1 k2).trans (h k k1 k2)
theorem CBl.of {m r : BX4} {s0 : Int} (h : pX4_code r = pX4_code m) : CBl m r s0 := fun k _ _ => by rw [h]
theorem WC.cg {c r : BX4} {s0 : Int} {E : OpL} (h : WC c s0 E) (h1 : pX4_size r = pX4_size c) (h2 : pX4_code r = pX4_code c) : WC r s0 E := ⟨h.1, h1.trans h.2.1, h.2.2.1, by rw [h2]; exact h.2.2.2⟩
theorem z_emitC {c : BX4} {s0 o v : Int} {E : OpL} (h : WC c s0 E) (hl : s0 + oLen E < 300) {o' : Int} (ho : o' = trO o) : Wp (f_X4_emit c (iI o') (iI v)) (fun r => FrZ c r ∧ WC r s0 (E ++ [(o, v)]) ∧ CBl c r s0) := by
  obtain ⟨h1, h2, h3, h4⟩ := h
  have hn := oLen_nn E
  unfold f_X4_emit
  rw [h2, if_neg (show ¬ 300 ≤ iI (s0 + oLen E) from fun e => absurd ((iI_le (a := 300) (by omega) (by omega) (by omega) (by omega)).mp e) (by omega))]
  refine wp_lt (wp_gd ((iI_inB (by omega) (by omega)).mpr (by omega)) (wp_lt (wp_lt (wp_lt (wp_some ?_)))))
  rw [q4_size_code, h2, iI_cl (by omega) (by omega), show (iI v <<< (5 &&& 31) : Int32) = iI (v * 32) from iI_shl5 v, iI_add, show (iI (s0 + oLen E) + 1 : Int32) = iI (s0 + oLen E + 1) from iI_add _ 1]
  refine ⟨⟨rfl, rfl, rfl, rfl, rfl⟩, ⟨h1, ?_, by rw [oLen_a, oLen_1]; omega, ?_⟩, ?_⟩
  · rw [q4_size_size, oLen_a, oLen_1, Int.add_assoc]
  · rw [q4_code_size, q4_code_code, LayK_a]
    refine ⟨LayK_cg E s0 h1 (fun k k1 k2 => ?_) h4, ?_, trivial⟩
    · rw [ai_upd (by omega) k1, if_neg (by omega)]
    · rw [ai_upd (by omega) (by omega), if_pos rfl, ho]
  · intro k k1 k2
    rw [q4_code_size, q4_code_code, ai_upd (by omega) k1, if_neg (by omega)]
