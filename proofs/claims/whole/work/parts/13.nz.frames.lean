-- layer 2: frame of the writing of a flight
def FrY (m r : BX12) : Prop := pX12_w r = pX12_w m ∧ pX12_h r = pX12_h m ∧ pX12_taped r = pX12_taped m ∧ pX12_fault r = pX12_fault m ∧ pX12_faultPlace r = pX12_faultPlace m ∧ pX12_image r = pX12_image m ∧ pX12_texts r = pX12_texts m ∧ pX12_tape r = pX12_tape m ∧ pX12_ticks r = pX12_ticks m ∧ pX12_atX r = pX12_atX m ∧ pX12_atY r = pX12_atY m ∧ pX12_heading r = pX12_heading m ∧ pX12_hit r = pX12_hit m ∧ pX12_rested r = pX12_rested m ∧ pX12_over r = pX12_over m ∧ pX12_rows r = pX12_rows m
theorem FrY.refl (m : BX12) : FrY m m := ⟨rfl, rfl, rfl, rfl, rfl, rfl, rfl, rfl, rfl, rfl, rfl, rfl, rfl, rfl, rfl, rfl⟩
theorem FrY.w {m r : BX12} (h : FrY m r) : pX12_w r = pX12_w m := h.1
theorem FrY.h {m r : BX12} (h : FrY m r) : pX12_h r = pX12_h m := h.2.1
theorem FrY.taped {m r : BX12} (h : FrY m r) : pX12_taped r = pX12_taped m := h.2.2.1
theorem FrY.fault {m r : BX12} (h : FrY m r) : pX12_fault r = pX12_fault m := h.2.2.2.1
theorem FrY.faultPlace {m r : BX12} (h : FrY m r) : pX12_faultPlace r = pX12_faultPlace m := h.2.2.2.2.1
theorem FrY.image {m r : BX12} (h : FrY m r) : pX12_image r = pX12_image m := h.2.2.2.2.2.1
theorem FrY.texts {m r : BX12} (h : FrY m r) : pX12_texts r = pX12_texts m := h.2.2.2.2.2.2.1
theorem FrY.tape {m r : BX12} (h : FrY m r) : pX12_tape r = pX12_tape m := h.2.2.2.2.2.2.2.1
theorem FrY.ticks {m r : BX12} (h : FrY m r) : pX12_ticks r = pX12_ticks m := h.2.2.2.2.2.2.2.2.1
theorem FrY.atX {m r : BX12} (h : FrY m r) : pX12_atX r = pX12_atX m := h.2.2.2.2.2.2.2.2.2.1
theorem FrY.atY {m r : BX12} (h : FrY m r) : pX12_atY r = pX12_atY m := h.2.2.2.2.2.2.2.2.2.2.1
theorem FrY.heading {m r : BX12} (h : FrY m r) : pX12_heading r = pX12_heading m := h.2.2.2.2.2.2.2.2.2.2.2.1
theorem FrY.hit {m r : BX12} (h : FrY m r) : pX12_hit r = pX12_hit m := h.2.2.2.2.2.2.2.2.2.2.2.2.1
theorem FrY.rested {m r : BX12} (h : FrY m r) : pX12_rested r = pX12_rested m := h.2.2.2.2.2.2.2.2.2.2.2.2.2.1
theorem FrY.over {m r : BX12} (h : FrY m r) : pX12_over r = pX12_over m := h.2.2.2.2.2.2.2.2.2.2.2.2.2.2.1
theorem FrY.rows {m r : BX12} (h : FrY m r) : pX12_rows r = pX12_rows m := h.2.2.2.2.2.2.2.2.2.2.2.2.2.2.2
theorem FrY.trans {m r q : BX12} (h : FrY m r) (g : FrY r q) : FrY m q := ⟨g.w.trans h.w, g.h.trans h.h, g.taped.trans h.taped, g.fault.trans h.fault, g.faultPlace.trans h.faultPlace, g.image.trans h.image, g.texts.trans h.texts, g.tape.trans h.tape, g.ticks.trans h.ticks, g.atX.trans h.atX, g.atY.trans h.atY, g.heading.trans h.heading, g.hit.trans h.hit, g.rested.trans h.rested, g.over.trans h.over, g.rows.trans h.rows⟩
theorem FrY.s_a {m r : BX12} (h : FrY m r) (x : (Nat → Int32)) : FrY m (sX12_a r x) := ⟨(q12_w_a r x).trans h.w, (q12_h_a r x).trans h.h, (q12_taped_a r x).trans h.taped, (q12_fault_a r x).trans h.fault, (q12_faultPlace_a r x).trans h.faultPlace, (q12_image_a r x).trans h.image, (q12_texts_a r x).trans h.texts, (q12_tape_a r x).trans h.tape, (q12_ticks_a r x).trans h.ticks, (q12_atX_a r x).trans h.atX, (q12_atY_a r x).trans h.atY, (q12_heading_a r x).trans h.heading, (q12_hit_a r x).trans h.hit, (q12_rested_a r x).trans h.rested, (q12_over_a r x).trans h.over, (q12_rows_a r x).trans h.rows⟩
