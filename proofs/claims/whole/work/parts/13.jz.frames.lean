-- layer 2: frame of a note
def FrN (m r : BX2) : Prop := pX2_begun r = pX2_begun m ∧ pX2_hit r = pX2_hit m ∧ pX2_rested r = pX2_rested m ∧ pX2_count r = pX2_count m ∧ pX2_over r = pX2_over m ∧ pX2_x r = pX2_x m ∧ pX2_y r = pX2_y m ∧ pX2_head r = pX2_head m ∧ pX2_lenses r = pX2_lenses m ∧ pX2_pairs r = pX2_pairs m ∧ pX2_takes r = pX2_takes m
theorem FrN.refl (m : BX2) : FrN m m := ⟨rfl, rfl, rfl, rfl, rfl, rfl, rfl, rfl, rfl, rfl, rfl⟩
theorem FrN.begun {m r : BX2} (h : FrN m r) : pX2_begun r = pX2_begun m := h.1
theorem FrN.hit {m r : BX2} (h : FrN m r) : pX2_hit r = pX2_hit m := h.2.1
theorem FrN.rested {m r : BX2} (h : FrN m r) : pX2_rested r = pX2_rested m := h.2.2.1
theorem FrN.count {m r : BX2} (h : FrN m r) : pX2_count r = pX2_count m := h.2.2.2.1
theorem FrN.over {m r : BX2} (h : FrN m r) : pX2_over r = pX2_over m := h.2.2.2.2.1
theorem FrN.x {m r : BX2} (h : FrN m r) : pX2_x r = pX2_x m := h.2.2.2.2.2.1
theorem FrN.y {m r : BX2} (h : FrN m r) : pX2_y r = pX2_y m := h.2.2.2.2.2.2.1
theorem FrN.head {m r : BX2} (h : FrN m r) : pX2_head r = pX2_head m := h.2.2.2.2.2.2.2.1
theorem FrN.lenses {m r : BX2} (h : FrN m r) : pX2_lenses r = pX2_lenses m := h.2.2.2.2.2.2.2.2.1
theorem FrN.pairs {m r : BX2} (h : FrN m r) : pX2_pairs r = pX2_pairs m := h.2.2.2.2.2.2.2.2.2.1
theorem FrN.takes {m r : BX2} (h : FrN m r) : pX2_takes r = pX2_takes m := h.2.2.2.2.2.2.2.2.2.2
theorem FrN.trans {m r q : BX2} (h : FrN m r) (g : FrN r q) : FrN m q := ⟨g.begun.trans h.begun, g.hit.trans h.hit, g.rested.trans h.rested, g.count.trans h.count, g.over.trans h.over, g.x.trans h.x, g.y.trans h.y, g.head.trans h.head, g.lenses.trans h.lenses, g.pairs.trans h.pairs, g.takes.trans h.takes⟩
theorem FrN.s_rows {m r : BX2} (h : FrN m r) (x : (Nat → Int32)) : FrN m (sX2_rows r x) := ⟨(q2_begun_rows r x).trans h.begun, (q2_hit_rows r x).trans h.hit, (q2_rested_rows r x).trans h.rested, (q2_count_rows r x).trans h.count, (q2_over_rows r x).trans h.over, (q2_x_rows r x).trans h.x, (q2_y_rows r x).trans h.y, (q2_head_rows r x).trans h.head, (q2_lenses_rows r x).trans h.lenses, (q2_pairs_rows r x).trans h.pairs, (q2_takes_rows r x).trans h.takes⟩
