/-! ManyEyesModel.fault(I)I -/
def WS_X12_fault (cI cJ cZ cY : ClassId) (a0 a0_a a0_image a0_texts a0_board a0_taken a0_fars a0_before a0_tape a0_pile a0_rows a0_told a0_values a0_truth a0_keeps : Nat) (v0 : BX12) : va_W := (GX12 cI cJ cZ cY a0 a0_a a0_image a0_texts a0_board a0_taken a0_fars a0_before a0_tape a0_pile a0_rows a0_told a0_values a0_truth a0_keeps v0)
def f_X12_fault (v0 : BX12) (p0 : Int32) : Option (Int32) := if (p0 : Int32) = 0 then (some (pX12_fault v0)) else (if (p0 : Int32) = 1 then (some (pX12_faultPlace v0)) else (some (-1)))
abbrev rm_X12_fault : Room := { frames := 0, cells := 0, slots := 0, locals := 0 }
set_option maxHeartbeats 4000000 in
set_option maxRecDepth 100000 in
theorem k_X12_fault {l : Launch} {D : va_G} {cI cJ cZ cY : ClassId} {tX tY : Nat} {sz : Nat} (a0 a0_a a0_image a0_texts a0_board a0_taken a0_fars a0_before a0_tape a0_pile a0_rows a0_told a0_values a0_truth a0_keeps : Nat) (v0 : BX12) (p0 : Int32) (res : Int32) (hg : f_X12_fault v0 p0 = some res) : Met l yX12_fault (Cond.code yX12_fault cX12_fault 2 (some .int) :: TB) rm_X12_fault (PC D cI cJ cZ cY tX tY [.ref a0, .int p0] (WS_X12_fault cI cJ cZ cY a0 a0_a a0_image a0_texts a0_board a0_taken a0_fars a0_before a0_tape a0_pile a0_rows a0_told a0_values a0_truth a0_keeps v0) sz) (va_Qi (fun (r : Int32) (_ : Unit) => r = res) (BC D (fun _ : Unit => WS_X12_fault cI cJ cZ cY a0 a0_a a0_image a0_texts a0_board a0_taken a0_fars a0_before a0_tape a0_pile a0_rows a0_told a0_values a0_truth a0_keeps v0) (va_A (WS_X12_fault cI cJ cZ cY a0 a0_a a0_image a0_texts a0_board a0_taken a0_fars a0_before a0_tape a0_pile a0_rows a0_told a0_values a0_truth a0_keeps v0) sz)) (va_A (WS_X12_fault cI cJ cZ cY a0 a0_a a0_image a0_texts a0_board a0_taken a0_fars a0_before a0_tape a0_pile a0_rows a0_told a0_values a0_truth a0_keeps v0) sz)) 0 0 (va_A (WS_X12_fault cI cJ cZ cY a0 a0_a a0_image a0_texts a0_board a0_taken a0_fars a0_before a0_tape a0_pile a0_rows a0_told a0_values a0_truth a0_keeps v0) sz) := by
  refine Met.ofW (cc := cX12_fault) (maxL := 2) (ret := (some .int)) (by decide) rfl ?_
  intro p e s m args below meth c s₁ B hml hv
  obtain ⟨hargs, hsz, hP, hK, hD0, hT⟩ := hv
  have hx := B.exec
  have hb := B.bytes
  have hr := B.returns
  have htb : ∀ w ∈ TB, w.before args s = true := fun w h => atoms_spec (ws := Cond.code yX12_fault cX12_fault 2 (some .int) :: TB) B.pre w (List.mem_cons_of_mem _ h)
  have hown : s.vm.findClass "ManyEyesModel" = some m.cls := findClass_of_methodNamed B.named
  have hlocks := B.notSynchronized
  subst hsz
  have hD := hD0.self (sz := s.heap.size)
  generalize hAe : va_A (WS_X12_fault cI cJ cZ cY a0 a0_a a0_image a0_texts a0_board a0_taken a0_fars a0_before a0_tape a0_pile a0_rows a0_told a0_values a0_truth a0_keeps v0) s.heap.size = A at hD hT ⊢
  have hA : ∀ q : Nat, s.heap.size ≤ q → A q := fun q h => by rw [← hAe]; exact Or.inr h
  have hS : va_S A s.heap s.heap [] := va_S.rf
  have hl := lv_entry ([.ref a0, .int p0]) (n := 2) (Nat.le_of_ble_eq_true rfl)
  have he : entryFrame m args 2 = F0 m 0 (lg_sl ([.ref a0, .int p0]) ++ List.replicate (2 - (lg_sl ([.ref a0, .int p0])).length) Slot.unset).toArray [] := by rw [hargs, lg_entry_eq]
  rw [he]
  generalize (lg_sl ([.ref a0, .int p0]) ++ List.replicate (2 - (lg_sl ([.ref a0, .int p0])).length) Slot.unset).toArray = ls at hl ⊢
  have hl : lv_has ls 2 [(0, .ref a0), (1, .int p0)] := hl
  show W p l e rm_X12_fault s m args below meth c s.heap [] 0 0 _ _
  refine W.genQ (fun Q hQ => ?_)
  generalize hHe : s.heap = H at hP ⊢
  have hS : va_S A s.heap H [] := by rw [← hHe]; exact va_S.rf
  generalize ([] : List Loc) = locs at hS ⊢
  unfold f_X12_fault at hg
  refine lv_iload_n hx hb dX12_fault_0 rfl (lv_at hl 1 rfl) ?_
  refine lv_if_ne (tgt := 11) hx hb dX12_fault_1 (by decide) (fun c_1 => ?_) (fun c_1 => ?_)
  · have hg := g_if hg c_1
    refine lv_iload_n hx hb dX12_fault_11 rfl (lv_at hl 1 rfl) ?_
    refine lv_iconst (v := 1) hx hb dX12_fault_12 (by decide) ?_
    refine lv_icmp_ne (tgt := 23) hx hb dX12_fault_13 (by decide) (fun c_2 => ?_) (fun c_2 => ?_)
    · have hg := g_if hg c_2
      refine lv_iconst (v := (-1)) hx hb dX12_fault_23 (by decide) ?_
      have hg := Option.some.inj hg
      rw [hQ]
      exact W.iret (v := (-1)) hx hb hr (fun t ht hW => ⟨⟨(-1), (), rfl, hg, by rw [ht]; exact hP, hD⟩, hS.F ht⟩) hS.2.2 dX12_fault_24
    · have hg := g_it hg c_2
      refine lv_aload_n hx hb dX12_fault_16 rfl (lv_at hl 0 rfl) ?_
      refine va_get (ci := 11) (v := .int (pX12_faultPlace v0)) (C := RX12) (T := TX12) (N := 43) hx hb htb uX12 hown hK.1 hP 0 rfl rfl 12 (by decide) (htb _ tg_948) (fun _ h9 => h9) rfl dX12_fault_17 ?_
      refine lv_goto (tgt := 24) hx hb dX12_fault_20 (by decide) ?_
      have hg := Option.some.inj hg
      rw [hQ]
      exact W.iret (v := (pX12_faultPlace v0)) hx hb hr (fun t ht hW => ⟨⟨(pX12_faultPlace v0), (), rfl, hg, by rw [ht]; exact hP, hD⟩, hS.F ht⟩) hS.2.2 dX12_fault_24
  · have hg := g_it hg c_1
    refine lv_aload_n hx hb dX12_fault_4 rfl (lv_at hl 0 rfl) ?_
    refine va_get (ci := 11) (v := .int (pX12_fault v0)) (C := RX12) (T := TX12) (N := 43) hx hb htb uX12 hown hK.1 hP 0 rfl rfl 11 (by decide) (htb _ tg_947) (fun _ h9 => h9) rfl dX12_fault_5 ?_
    refine lv_goto (tgt := 24) hx hb dX12_fault_8 (by decide) ?_
    have hg := Option.some.inj hg
    rw [hQ]
    exact W.iret (v := (pX12_fault v0)) hx hb hr (fun t ht hW => ⟨⟨(pX12_fault v0), (), rfl, hg, by rw [ht]; exact hP, hD⟩, hS.F ht⟩) hS.2.2 dX12_fault_24

/-! ManyEyesModel.bring(J)J -/
def WS_X12_bring (cI cJ cZ cY : ClassId) (a0 a0_a a0_image a0_texts a0_board a0_taken a0_fars a0_before a0_tape a0_pile a0_rows a0_told a0_values a0_truth a0_keeps : Nat) (v0 : BX12) : va_W := (GX12 cI cJ cZ cY a0 a0_a a0_image a0_texts a0_board a0_taken a0_fars a0_before a0_tape a0_pile a0_rows a0_told a0_values a0_truth a0_keeps v0)
def f_X12_bring_b29 (x1 : Int64) (v0 : BX12) : Option (Int64 × BX12) := if ((lg_cmp x1 (pX12_bound v0)) : Int32) ≤ 0 then (if (0 : Int32) ≤ (lg_cmp x1 (-(pX12_bound v0))) then (some (x1, v0)) else (some ((-(pX12_bound v0)), v0))) else (some ((pX12_bound v0), v0))
def f_X12_bring_b19 (x1 : Int64) (v0 : BX12) : Option (Int64 × BX12) := g_lt (((pX12_over v0) + 1) : Int32) (fun x_3 => g_lt (sX12_over v0 x_3) (fun v0_4 => f_X12_bring_b29 x1 v0_4))
def f_X12_bring (v0 : BX12) (p0 : Int64) : Option (Int64 × BX12) := if (0 : Int32) < (lg_cmp p0 (pX12_bound v0)) then (f_X12_bring_b19 p0 v0) else (if (0 : Int32) ≤ (lg_cmp p0 (-(pX12_bound v0))) then (f_X12_bring_b29 p0 v0) else (f_X12_bring_b19 p0 v0))
abbrev rm_X12_bring : Room := { frames := 0, cells := 0, slots := 0, locals := 0 }
set_option maxHeartbeats 4000000 in
set_option maxRecDepth 100000 in
theorem k_X12_bring {l : Launch} {D : va_G} {cI cJ cZ cY : ClassId} {tX tY : Nat} {sz : Nat} (a0 a0_a a0_image a0_texts a0_board a0_taken a0_fars a0_before a0_tape a0_pile a0_rows a0_told a0_values a0_truth a0_keeps : Nat) (v0 : BX12) (p0 : Int64) (res : Int64 × BX12) (hg : f_X12_bring v0 p0 = some res) : Met l yX12_bring (Cond.code yX12_bring cX12_bring 3 (some .long) :: TB) rm_X12_bring (PC D cI cJ cZ cY tX tY [.ref a0, .long p0] (WS_X12_bring cI cJ cZ cY a0 a0_a a0_image a0_texts a0_board a0_taken a0_fars a0_before a0_tape a0_pile a0_rows a0_told a0_values a0_truth a0_keeps v0) sz) (va_Ql (fun (r : Int64) (u : BX12) => r = res.1 ∧ u = res.2) (BC D (fun u : BX12 => WS_X12_bring cI cJ cZ cY a0 a0_a a0_image a0_texts a0_board a0_taken a0_fars a0_before a0_tape a0_pile a0_rows a0_told a0_values a0_truth a0_keeps u) (va_A (WS_X12_bring cI cJ cZ cY a0 a0_a a0_image a0_texts a0_board a0_taken a0_fars a0_before a0_tape a0_pile a0_rows a0_told a0_values a0_truth a0_keeps v0) sz)) (va_A (WS_X12_bring cI cJ cZ cY a0 a0_a a0_image a0_texts a0_board a0_taken a0_fars a0_before a0_tape a0_pile a0_rows a0_told a0_values a0_truth a0_keeps v0) sz)) 0 0 (va_A (WS_X12_bring cI cJ cZ cY a0 a0_a a0_image a0_texts a0_board a0_taken a0_fars a0_before a0_tape a0_pile a0_rows a0_told a0_values a0_truth a0_keeps v0) sz) := by
  refine Met.ofW (cc := cX12_bring) (maxL := 3) (ret := (some .long)) (by decide) rfl ?_
  intro p e s m args below meth c s₁ B hml hv
  obtain ⟨hargs, hsz, hP, hK, hD0, hT⟩ := hv
  have hx := B.exec
  have hb := B.bytes
  have hr := B.returns
  have htb : ∀ w ∈ TB, w.before args s = true := fun w h => atoms_spec (ws := Cond.code yX12_bring cX12_bring 3 (some .long) :: TB) B.pre w (List.mem_cons_of_mem _ h)
  have hown : s.vm.findClass "ManyEyesModel" = some m.cls := findClass_of_methodNamed B.named
  have hlocks := B.notSynchronized
  subst hsz
  have hD := hD0.self (sz := s.heap.size)
  generalize hAe : va_A (WS_X12_bring cI cJ cZ cY a0 a0_a a0_image a0_texts a0_board a0_taken a0_fars a0_before a0_tape a0_pile a0_rows a0_told a0_values a0_truth a0_keeps v0) s.heap.size = A at hD hT ⊢
  have hA : ∀ q : Nat, s.heap.size ≤ q → A q := fun q h => by rw [← hAe]; exact Or.inr h
  have hS : va_S A s.heap s.heap [] := va_S.rf
  have hl := lv_entry ([.ref a0, .long p0]) (n := 3) (Nat.le_of_ble_eq_true rfl)
  have he : entryFrame m args 3 = F0 m 0 (lg_sl ([.ref a0, .long p0]) ++ List.replicate (3 - (lg_sl ([.ref a0, .long p0])).length) Slot.unset).toArray [] := by rw [hargs, lg_entry_eq]
  rw [he]
  generalize (lg_sl ([.ref a0, .long p0]) ++ List.replicate (3 - (lg_sl ([.ref a0, .long p0])).length) Slot.unset).toArray = ls at hl ⊢
  have hl : lv_has ls 3 [(0, .ref a0), (1, .long p0)] := hl
  show W p l e rm_X12_bring s m args below meth c s.heap [] 0 0 _ _
  refine W.genQ (fun Q hQ => ?_)
  have b_29 : ∀ (x1 : Int64) (v0 : BX12) (H : Heap) (locs : List Loc) (ls : Array Slot), va_P D vwCl (WS_X12_bring cI cJ cZ cY a0 a0_a a0_image a0_texts a0_board a0_taken a0_fars a0_before a0_tape a0_pile a0_rows a0_told a0_values a0_truth a0_keeps v0) H → va_D A (WS_X12_bring cI cJ cZ cY a0 a0_a a0_image a0_texts a0_board a0_taken a0_fars a0_before a0_tape a0_pile a0_rows a0_told a0_values a0_truth a0_keeps v0) → va_S A s.heap H locs → lv_has ls 3 [(0, .ref a0), (1, .long x1)] → f_X12_bring_b29 x1 v0 = some res → W p l e rm_X12_bring s m args below meth c H locs 0 0 Q (F0 m 29 ls []) := by
    intro x1 v0 H locs ls hP hD hS hl hg
    unfold f_X12_bring_b29 at hg
    refine lv_lload_n hx hb dX12_bring_29 rfl (lv_at hl 1 rfl) ?_
    refine lv_aload_n hx hb dX12_bring_30 rfl (lv_at hl 0 rfl) ?_
    refine va_get (ci := 11) (v := .long (pX12_bound v0)) (C := RX12) (T := TX12) (N := 43) hx hb htb uX12 hown hK.1 hP 0 rfl rfl 27 (by decide) (htb _ tg_963) (fun _ h9 => h9) rfl dX12_bring_31 ?_
    refine W.lcmp hx hb dX12_bring_34 ?_
    refine lv_if_le (tgt := 45) hx hb dX12_bring_35 (by decide) (fun c_1 => ?_) (fun c_1 => ?_)
    · have hg := g_it hg c_1
      refine lv_lload_n hx hb dX12_bring_45 rfl (lv_at hl 1 rfl) ?_
      refine lv_aload_n hx hb dX12_bring_46 rfl (lv_at hl 0 rfl) ?_
      refine va_get (ci := 11) (v := .long (pX12_bound v0)) (C := RX12) (T := TX12) (N := 43) hx hb htb uX12 hown hK.1 hP 0 rfl rfl 27 (by decide) (htb _ tg_963) (fun _ h9 => h9) rfl dX12_bring_47 ?_
      refine lv_lneg hx hb dX12_bring_50 ?_
      refine W.lcmp hx hb dX12_bring_51 ?_
      refine lv_if_ge (tgt := 63) hx hb dX12_bring_52 (by decide) (fun c_2 => ?_) (fun c_2 => ?_)
      · have hg := g_it hg c_2
        refine lv_lload_n hx hb dX12_bring_63 rfl (lv_at hl 1 rfl) ?_
        have hg := Option.some.inj hg
        rw [hQ]
        exact W.lret (v := x1) hx hb hr (fun t ht hW => ⟨⟨x1, (v0), rfl, ⟨by rw [← hg], by rw [← hg]⟩, by rw [ht]; exact hP, hD⟩, hS.F ht⟩) hS.2.2 dX12_bring_64
      · have hg := g_if hg c_2
        refine lv_aload_n hx hb dX12_bring_55 rfl (lv_at hl 0 rfl) ?_
        refine va_get (ci := 11) (v := .long (pX12_bound v0)) (C := RX12) (T := TX12) (N := 43) hx hb htb uX12 hown hK.1 hP 0 rfl rfl 27 (by decide) (htb _ tg_963) (fun _ h9 => h9) rfl dX12_bring_56 ?_
        refine lv_lneg hx hb dX12_bring_59 ?_
        refine lv_goto (tgt := 64) hx hb dX12_bring_60 (by decide) ?_
        have hg := Option.some.inj hg
        rw [hQ]
        exact W.lret (v := (-(pX12_bound v0))) hx hb hr (fun t ht hW => ⟨⟨(-(pX12_bound v0)), (v0), rfl, ⟨by rw [← hg], by rw [← hg]⟩, by rw [ht]; exact hP, hD⟩, hS.F ht⟩) hS.2.2 dX12_bring_64
    · have hg := g_if hg c_1
      refine lv_aload_n hx hb dX12_bring_38 rfl (lv_at hl 0 rfl) ?_
      refine va_get (ci := 11) (v := .long (pX12_bound v0)) (C := RX12) (T := TX12) (N := 43) hx hb htb uX12 hown hK.1 hP 0 rfl rfl 27 (by decide) (htb _ tg_963) (fun _ h9 => h9) rfl dX12_bring_39 ?_
      refine lv_goto (tgt := 64) hx hb dX12_bring_42 (by decide) ?_
      have hg := Option.some.inj hg
      rw [hQ]
      exact W.lret (v := (pX12_bound v0)) hx hb hr (fun t ht hW => ⟨⟨(pX12_bound v0), (v0), rfl, ⟨by rw [← hg], by rw [← hg]⟩, by rw [ht]; exact hP, hD⟩, hS.F ht⟩) hS.2.2 dX12_bring_64
  have b_19 : ∀ (x1 : Int64) (v0 : BX12) (H : Heap) (locs : List Loc) (ls : Array Slot), va_P D vwCl (WS_X12_bring cI cJ cZ cY a0 a0_a a0_image a0_texts a0_board a0_taken a0_fars a0_before a0_tape a0_pile a0_rows a0_told a0_values a0_truth a0_keeps v0) H → va_D A (WS_X12_bring cI cJ cZ cY a0 a0_a a0_image a0_texts a0_board a0_taken a0_fars a0_before a0_tape a0_pile a0_rows a0_told a0_values a0_truth a0_keeps v0) → va_S A s.heap H locs → lv_has ls 3 [(0, .ref a0), (1, .long x1)] → f_X12_bring_b19 x1 v0 = some res → W p l e rm_X12_bring s m args below meth c H locs 0 0 Q (F0 m 19 ls []) := by
    intro x1 v0 H locs ls hP hD hS hl hg
    unfold f_X12_bring_b19 at hg
    refine lv_aload_n hx hb dX12_bring_19 rfl (lv_at hl 0 rfl) ?_
    refine lv_dup hx hb dX12_bring_20 rfl ?_
    refine va_get (ci := 11) (v := .int (pX12_over v0)) (C := RX12) (T := TX12) (N := 43) hx hb htb uX12 hown hK.1 hP 0 rfl rfl 28 (by decide) (htb _ tg_964) (fun _ h9 => h9) rfl dX12_bring_21 ?_
    refine lv_iconst (v := 1) hx hb dX12_bring_24 (by decide) ?_
    refine lv_iadd hx hb dX12_bring_25 ?_
    refine lv_topi (fun x_3 ex_3 => ?_)
    have hg := g_lte hg x_3 ex_3
    refine va_put (ci := 11) (v := .int x_3) (ty := .int) (C := RX12) (T := TX12) (N := 43) hx hb htb uX12 tyX12 tyX12_ok nmX12 hown hK.1 hP hD hS 0 rfl rfl 28 (by decide) (htb _ tg_964) (fun _ h9 => h9) rfl (by decide +kernel) rfl rfl (Nat.le_of_ble_eq_true rfl) dX12_bring_26 (fun H locs hP hD hS => ?_)
    obtain ⟨v0_4, ev0_4⟩ : ∃ z, z = sX12_over v0 x_3 := ⟨_, rfl⟩
    have hP : va_P D vwCl (WS_X12_bring cI cJ cZ cY a0 a0_a a0_image a0_texts a0_board a0_taken a0_fars a0_before a0_tape a0_pile a0_rows a0_told a0_values a0_truth a0_keeps v0_4) H := by rw [ev0_4]; exact hP
    have hD : va_D A (WS_X12_bring cI cJ cZ cY a0 a0_a a0_image a0_texts a0_board a0_taken a0_fars a0_before a0_tape a0_pile a0_rows a0_told a0_values a0_truth a0_keeps v0_4) := by rw [ev0_4]; exact hD
    have hg := g_lte hg v0_4 ev0_4
    exact b_29 x1 v0_4 H locs ls hP hD hS (lv_sub hl [0, 1] rfl) hg
  generalize hHe : s.heap = H at hP ⊢
  have hS : va_S A s.heap H [] := by rw [← hHe]; exact va_S.rf
  generalize ([] : List Loc) = locs at hS ⊢
  unfold f_X12_bring at hg
  refine lv_lload_n hx hb dX12_bring_0 rfl (lv_at hl 1 rfl) ?_
  refine lv_aload_n hx hb dX12_bring_1 rfl (lv_at hl 0 rfl) ?_
  refine va_get (ci := 11) (v := .long (pX12_bound v0)) (C := RX12) (T := TX12) (N := 43) hx hb htb uX12 hown hK.1 hP 0 rfl rfl 27 (by decide) (htb _ tg_963) (fun _ h9 => h9) rfl dX12_bring_2 ?_
  refine W.lcmp hx hb dX12_bring_5 ?_
  refine lv_if_gt (tgt := 19) hx hb dX12_bring_6 (by decide) (fun c_5 => ?_) (fun c_5 => ?_)
  · have hg := g_it hg c_5
    exact b_19 p0 v0 H locs ls hP hD hS (lv_sub hl [0, 1] rfl) hg
  · have hg := g_if hg c_5
    refine lv_lload_n hx hb dX12_bring_9 rfl (lv_at hl 1 rfl) ?_
    refine lv_aload_n hx hb dX12_bring_10 rfl (lv_at hl 0 rfl) ?_
    refine va_get (ci := 11) (v := .long (pX12_bound v0)) (C := RX12) (T := TX12) (N := 43) hx hb htb uX12 hown hK.1 hP 0 rfl rfl 27 (by decide) (htb _ tg_963) (fun _ h9 => h9) rfl dX12_bring_11 ?_
    refine lv_lneg hx hb dX12_bring_14 ?_
    refine W.lcmp hx hb dX12_bring_15 ?_
    refine lv_if_ge (tgt := 29) hx hb dX12_bring_16 (by decide) (fun c_6 => ?_) (fun c_6 => ?_)
    · have hg := g_it hg c_6
      exact b_29 p0 v0 H locs ls hP hD hS (lv_sub hl [0, 1] rfl) hg
    · have hg := g_if hg c_6
      exact b_19 p0 v0 H locs ls hP hD hS (lv_sub hl [0, 1] rfl) hg

/-! ManyEyesModel.two(IJJ)J -/
def WS_X12_two (cI cJ cZ cY : ClassId) (a0 a0_a a0_image a0_texts a0_board a0_taken a0_fars a0_before a0_tape a0_pile a0_rows a0_told a0_values a0_truth a0_keeps : Nat) (v0 : BX12) : va_W := (GX12 cI cJ cZ cY a0 a0_a a0_image a0_texts a0_board a0_taken a0_fars a0_before a0_tape a0_pile a0_rows a0_told a0_values a0_truth a0_keeps v0)
def f_X12_two (v0 : BX12) (p0 : Int32) (p1 : Int64) (p2 : Int64) : Option (Int64 × BX12) := if p0 = 3 then ((f_X12_bring v0 (p1 + p2)).bind (fun r_2 => some (r_2.1, r_2.2))) else (if p0 = 4 then ((f_X12_bring v0 (p1 - p2)).bind (fun r_4 => some (r_4.1, r_4.2))) else (if p0 = 5 then ((f_X12_bring v0 (p1 * p2)).bind (fun r_6 => some (r_6.1, r_6.2))) else (if p0 = 6 then (if ((lg_cmp p2 0) : Int32) = 0 then (some (0, v0)) else (g_gd (¬ (p2 : Int64) = 0) ((f_X12_bring v0 (p1 / p2)).bind (fun r_10 => some (r_10.1, r_10.2))))) else (if p0 = 7 then (if (0 : Int32) ≤ (lg_cmp p1 p2) then (some (p2, v0)) else (some (p1, v0))) else (if ((lg_cmp p1 p2) : Int32) ≤ 0 then (some (p2, v0)) else (some (p1, v0)))))))
abbrev rm_X12_two : Room := { frames := 1, cells := 0, slots := 0, locals := 22 }
set_option maxHeartbeats 4000000 in
set_option maxRecDepth 100000 in
theorem k_X12_two {l : Launch} {D : va_G} {cI cJ cZ cY : ClassId} {tX tY : Nat} {sz : Nat} (a0 a0_a a0_image a0_texts a0_board a0_taken a0_fars a0_before a0_tape a0_pile a0_rows a0_told a0_values a0_truth a0_keeps : Nat) (v0 : BX12) (p0 : Int32) (p1 : Int64) (p2 : Int64) (res : Int64 × BX12) (hg : f_X12_two v0 p0 p1 p2 = some res) : Met l yX12_two (Cond.code yX12_two cX12_two 6 (some .long) :: TB) rm_X12_two (PC D cI cJ cZ cY tX tY [.ref a0, .int p0, .long p1, .long p2] (WS_X12_two cI cJ cZ cY a0 a0_a a0_image a0_texts a0_board a0_taken a0_fars a0_before a0_tape a0_pile a0_rows a0_told a0_values a0_truth a0_keeps v0) sz) (va_Ql (fun (r : Int64) (u : BX12) => r = res.1 ∧ u = res.2) (BC D (fun u : BX12 => WS_X12_two cI cJ cZ cY a0 a0_a a0_image a0_texts a0_board a0_taken a0_fars a0_before a0_tape a0_pile a0_rows a0_told a0_values a0_truth a0_keeps u) (va_A (WS_X12_two cI cJ cZ cY a0 a0_a a0_image a0_texts a0_board a0_taken a0_fars a0_before a0_tape a0_pile a0_rows a0_told a0_values a0_truth a0_keeps v0) sz)) (va_A (WS_X12_two cI cJ cZ cY a0 a0_a a0_image a0_texts a0_board a0_taken a0_fars a0_before a0_tape a0_pile a0_rows a0_told a0_values a0_truth a0_keeps v0) sz)) 0 0 (va_A (WS_X12_two cI cJ cZ cY a0 a0_a a0_image a0_texts a0_board a0_taken a0_fars a0_before a0_tape a0_pile a0_rows a0_told a0_values a0_truth a0_keeps v0) sz) := by
  refine Met.ofW (cc := cX12_two) (maxL := 6) (ret := (some .long)) (by decide) rfl ?_
  intro p e s m args below meth c s₁ B hml hv
  obtain ⟨hargs, hsz, hP, hK, hD0, hT⟩ := hv
  have hx := B.exec
  have hb := B.bytes
  have hr := B.returns
  have htb : ∀ w ∈ TB, w.before args s = true := fun w h => atoms_spec (ws := Cond.code yX12_two cX12_two 6 (some .long) :: TB) B.pre w (List.mem_cons_of_mem _ h)
  have hown : s.vm.findClass "ManyEyesModel" = some m.cls := findClass_of_methodNamed B.named
  have hlocks := B.notSynchronized
  subst hsz
  have hD := hD0.self (sz := s.heap.size)
  generalize hAe : va_A (WS_X12_two cI cJ cZ cY a0 a0_a a0_image a0_texts a0_board a0_taken a0_fars a0_before a0_tape a0_pile a0_rows a0_told a0_values a0_truth a0_keeps v0) s.heap.size = A at hD hT ⊢
  have hA : ∀ q : Nat, s.heap.size ≤ q → A q := fun q h => by rw [← hAe]; exact Or.inr h
  have hS : va_S A s.heap s.heap [] := va_S.rf
  have hl := lv_entry ([.ref a0, .int p0, .long p1, .long p2]) (n := 6) (Nat.le_of_ble_eq_true rfl)
  have he : entryFrame m args 6 = F0 m 0 (lg_sl ([.ref a0, .int p0, .long p1, .long p2]) ++ List.replicate (6 - (lg_sl ([.ref a0, .int p0, .long p1, .long p2])).length) Slot.unset).toArray [] := by rw [hargs, lg_entry_eq]
  rw [he]
  generalize (lg_sl ([.ref a0, .int p0, .long p1, .long p2]) ++ List.replicate (6 - (lg_sl ([.ref a0, .int p0, .long p1, .long p2])).length) Slot.unset).toArray = ls at hl ⊢
  have hl : lv_has ls 6 [(0, .ref a0), (1, .int p0), (2, .long p1), (4, .long p2)] := hl
  show W p l e rm_X12_two s m args below meth c s.heap [] 0 0 _ _
  refine W.genQ (fun Q hQ => ?_)
  generalize hHe : s.heap = H at hP ⊢
  have hS : va_S A s.heap H [] := by rw [← hHe]; exact va_S.rf
  generalize ([] : List Loc) = locs at hS ⊢
  unfold f_X12_two at hg
  refine lv_iload_n hx hb dX12_two_0 rfl (lv_at hl 1 rfl) ?_
  by_cases c_1 : p0 = 3
  · have hg := g_it hg c_1
    refine lv_tableIn (tgt := 36) (off := 35) hx hb dX12_two_1 (by rw [c_1]; decide) (by rw [c_1]; decide) (by rw [c_1]; decide +kernel) (by decide) ?_
    refine lv_aload_n hx hb dX12_two_36 rfl (lv_at hl 0 rfl) ?_
    refine lv_lload_n hx hb dX12_two_37 rfl (lv_at hl 2 rfl) ?_
    refine lv_lload hx hb dX12_two_38 (lv_at hl 3 rfl) ?_
    refine lv_ladd hx hb dX12_two_40 ?_
    obtain ⟨r_2, hr_2, hg⟩ := g_bd hg
    refine cc_l (va_runV (C := RX12) (As := [.long (p1 + p2)]) (rest := []) ⟨hx, hb, hml, hown, htb⟩ (k_X12_bring a0 a0_a a0_image a0_texts a0_board a0_taken a0_fars a0_before a0_tape a0_pile a0_rows a0_told a0_values a0_truth a0_keeps v0 (p1 + p2) r_2 hr_2) (cw_V 1 htb tg_1334 tg_13 tg_1331 tg_1333 ts_68 rfl rfl (by decide +kernel) ⟨Nat.le_of_ble_eq_true rfl, Nat.le_of_ble_eq_true rfl⟩) ⟨PC.blind, va_recv hK.1 hP (ci := 11) (q0 := 0) rfl rfl, PC.pre hK hT hP hD hS hA [0, 1, 2, 3, 4, 5, 6, 7, 8, 9, 10, 11, 12, 13, 14] rfl (by decide)⟩ rfl rfl hl.1 rfl (lv_room (Nat.le_of_ble_eq_true rfl)) dX12_two_41 ⟨Nat.le_of_ble_eq_true rfl, Nat.le_of_ble_eq_true rfl⟩) hP hD hS hA [0, 1, 2, 3, 4, 5, 6, 7, 8, 9, 10, 11, 12, 13, 14] [] rfl rfl (by decide) (by decide) (fun r9 u9 H locs hw hP hD hS => ?_)
    obtain ⟨rfl, rfl⟩ := hw
    have hP : va_P D vwCl (WS_X12_two cI cJ cZ cY a0 a0_a a0_image a0_texts a0_board a0_taken a0_fars a0_before a0_tape a0_pile a0_rows a0_told a0_values a0_truth a0_keeps r_2.2) H := hP.sub [0, 1, 2, 3, 4, 5, 6, 7, 8, 9, 10, 11, 12, 13, 14] rfl
    have hD : va_D A (WS_X12_two cI cJ cZ cY a0 a0_a a0_image a0_texts a0_board a0_taken a0_fars a0_before a0_tape a0_pile a0_rows a0_told a0_values a0_truth a0_keeps r_2.2) := hD.sub [0, 1, 2, 3, 4, 5, 6, 7, 8, 9, 10, 11, 12, 13, 14] (by decide) rfl
    have hg := Option.some.inj hg
    rw [hQ]
    exact W.lret (v := r_2.1) hx hb hr (fun t ht hW => ⟨⟨r_2.1, (r_2.2), rfl, ⟨by rw [← hg], by rw [← hg]⟩, by rw [ht]; exact hP, hD⟩, hS.F ht⟩) hS.2.2 dX12_two_44
  have hg := g_if hg c_1
  by_cases c_3 : p0 = 4
  · have hg := g_it hg c_3
    refine lv_tableIn (tgt := 45) (off := 44) hx hb dX12_two_1 (by rw [c_3]; decide) (by rw [c_3]; decide) (by rw [c_3]; decide +kernel) (by decide) ?_
    refine lv_aload_n hx hb dX12_two_45 rfl (lv_at hl 0 rfl) ?_
    refine lv_lload_n hx hb dX12_two_46 rfl (lv_at hl 2 rfl) ?_
    refine lv_lload hx hb dX12_two_47 (lv_at hl 3 rfl) ?_
    refine lv_lsub hx hb dX12_two_49 ?_
    obtain ⟨r_4, hr_4, hg⟩ := g_bd hg
    refine cc_l (va_runV (C := RX12) (As := [.long (p1 - p2)]) (rest := []) ⟨hx, hb, hml, hown, htb⟩ (k_X12_bring a0 a0_a a0_image a0_texts a0_board a0_taken a0_fars a0_before a0_tape a0_pile a0_rows a0_told a0_values a0_truth a0_keeps v0 (p1 - p2) r_4 hr_4) (cw_V 1 htb tg_1334 tg_13 tg_1331 tg_1333 ts_68 rfl rfl (by decide +kernel) ⟨Nat.le_of_ble_eq_true rfl, Nat.le_of_ble_eq_true rfl⟩) ⟨PC.blind, va_recv hK.1 hP (ci := 11) (q0 := 0) rfl rfl, PC.pre hK hT hP hD hS hA [0, 1, 2, 3, 4, 5, 6, 7, 8, 9, 10, 11, 12, 13, 14] rfl (by decide)⟩ rfl rfl hl.1 rfl (lv_room (Nat.le_of_ble_eq_true rfl)) dX12_two_50 ⟨Nat.le_of_ble_eq_true rfl, Nat.le_of_ble_eq_true rfl⟩) hP hD hS hA [0, 1, 2, 3, 4, 5, 6, 7, 8, 9, 10, 11, 12, 13, 14] [] rfl rfl (by decide) (by decide) (fun r9 u9 H locs hw hP hD hS => ?_)
    obtain ⟨rfl, rfl⟩ := hw
    have hP : va_P D vwCl (WS_X12_two cI cJ cZ cY a0 a0_a a0_image a0_texts a0_board a0_taken a0_fars a0_before a0_tape a0_pile a0_rows a0_told a0_values a0_truth a0_keeps r_4.2) H := hP.sub [0, 1, 2, 3, 4, 5, 6, 7, 8, 9, 10, 11, 12, 13, 14] rfl
    have hD : va_D A (WS_X12_two cI cJ cZ cY a0 a0_a a0_image a0_texts a0_board a0_taken a0_fars a0_before a0_tape a0_pile a0_rows a0_told a0_values a0_truth a0_keeps r_4.2) := hD.sub [0, 1, 2, 3, 4, 5, 6, 7, 8, 9, 10, 11, 12, 13, 14] (by decide) rfl
    have hg := Option.some.inj hg
    rw [hQ]
    exact W.lret (v := r_4.1) hx hb hr (fun t ht hW => ⟨⟨r_4.1, (r_4.2), rfl, ⟨by rw [← hg], by rw [← hg]⟩, by rw [ht]; exact hP, hD⟩, hS.F ht⟩) hS.2.2 dX12_two_53
  have hg := g_if hg c_3
  by_cases c_5 : p0 = 5
  · have hg := g_it hg c_5
    refine lv_tableIn (tgt := 54) (off := 53) hx hb dX12_two_1 (by rw [c_5]; decide) (by rw [c_5]; decide) (by rw [c_5]; decide +kernel) (by decide) ?_
    refine lv_aload_n hx hb dX12_two_54 rfl (lv_at hl 0 rfl) ?_
    refine lv_lload_n hx hb dX12_two_55 rfl (lv_at hl 2 rfl) ?_
    refine lv_lload hx hb dX12_two_56 (lv_at hl 3 rfl) ?_
    refine lv_lmul hx hb dX12_two_58 ?_
    obtain ⟨r_6, hr_6, hg⟩ := g_bd hg
    refine cc_l (va_runV (C := RX12) (As := [.long (p1 * p2)]) (rest := []) ⟨hx, hb, hml, hown, htb⟩ (k_X12_bring a0 a0_a a0_image a0_texts a0_board a0_taken a0_fars a0_before a0_tape a0_pile a0_rows a0_told a0_values a0_truth a0_keeps v0 (p1 * p2) r_6 hr_6) (cw_V 1 htb tg_1334 tg_13 tg_1331 tg_1333 ts_68 rfl rfl (by decide +kernel) ⟨Nat.le_of_ble_eq_true rfl, Nat.le_of_ble_eq_true rfl⟩) ⟨PC.blind, va_recv hK.1 hP (ci := 11) (q0 := 0) rfl rfl, PC.pre hK hT hP hD hS hA [0, 1, 2, 3, 4, 5, 6, 7, 8, 9, 10, 11, 12, 13, 14] rfl (by decide)⟩ rfl rfl hl.1 rfl (lv_room (Nat.le_of_ble_eq_true rfl)) dX12_two_59 ⟨Nat.le_of_ble_eq_true rfl, Nat.le_of_ble_eq_true rfl⟩) hP hD hS hA [0, 1, 2, 3, 4, 5, 6, 7, 8, 9, 10, 11, 12, 13, 14] [] rfl rfl (by decide) (by decide) (fun r9 u9 H locs hw hP hD hS => ?_)
    obtain ⟨rfl, rfl⟩ := hw
    have hP : va_P D vwCl (WS_X12_two cI cJ cZ cY a0 a0_a a0_image a0_texts a0_board a0_taken a0_fars a0_before a0_tape a0_pile a0_rows a0_told a0_values a0_truth a0_keeps r_6.2) H := hP.sub [0, 1, 2, 3, 4, 5, 6, 7, 8, 9, 10, 11, 12, 13, 14] rfl
    have hD : va_D A (WS_X12_two cI cJ cZ cY a0 a0_a a0_image a0_texts a0_board a0_taken a0_fars a0_before a0_tape a0_pile a0_rows a0_told a0_values a0_truth a0_keeps r_6.2) := hD.sub [0, 1, 2, 3, 4, 5, 6, 7, 8, 9, 10, 11, 12, 13, 14] (by decide) rfl
    have hg := Option.some.inj hg
    rw [hQ]
    exact W.lret (v := r_6.1) hx hb hr (fun t ht hW => ⟨⟨r_6.1, (r_6.2), rfl, ⟨by rw [← hg], by rw [← hg]⟩, by rw [ht]; exact hP, hD⟩, hS.F ht⟩) hS.2.2 dX12_two_62
  have hg := g_if hg c_5
  by_cases c_7 : p0 = 6
  · have hg := g_it hg c_7
    refine lv_tableIn (tgt := 63) (off := 62) hx hb dX12_two_1 (by rw [c_7]; decide) (by rw [c_7]; decide) (by rw [c_7]; decide +kernel) (by decide) ?_
    refine lv_lload hx hb dX12_two_63 (lv_at hl 3 rfl) ?_
    refine lv_lconst (v := 0) hx hb dX12_two_65 (by decide) ?_
    refine W.lcmp hx hb dX12_two_66 ?_
    refine lv_if_ne (tgt := 74) hx hb dX12_two_67 (by decide) (fun c_8 => ?_) (fun c_8 => ?_)
    · have hg := g_if hg c_8
      refine lv_aload_n hx hb dX12_two_74 rfl (lv_at hl 0 rfl) ?_
      refine lv_lload_n hx hb dX12_two_75 rfl (lv_at hl 2 rfl) ?_
      refine lv_lload hx hb dX12_two_76 (lv_at hl 3 rfl) ?_
      obtain ⟨h_9, hg⟩ := g_gde hg
      refine lv_ldiv hx hb dX12_two_78 h_9 ?_
      obtain ⟨r_10, hr_10, hg⟩ := g_bd hg
      refine cc_l (va_runV (C := RX12) (As := [.long (p1 / p2)]) (rest := []) ⟨hx, hb, hml, hown, htb⟩ (k_X12_bring a0 a0_a a0_image a0_texts a0_board a0_taken a0_fars a0_before a0_tape a0_pile a0_rows a0_told a0_values a0_truth a0_keeps v0 (p1 / p2) r_10 hr_10) (cw_V 1 htb tg_1334 tg_13 tg_1331 tg_1333 ts_68 rfl rfl (by decide +kernel) ⟨Nat.le_of_ble_eq_true rfl, Nat.le_of_ble_eq_true rfl⟩) ⟨PC.blind, va_recv hK.1 hP (ci := 11) (q0 := 0) rfl rfl, PC.pre hK hT hP hD hS hA [0, 1, 2, 3, 4, 5, 6, 7, 8, 9, 10, 11, 12, 13, 14] rfl (by decide)⟩ rfl rfl hl.1 rfl (lv_room (Nat.le_of_ble_eq_true rfl)) dX12_two_79 ⟨Nat.le_of_ble_eq_true rfl, Nat.le_of_ble_eq_true rfl⟩) hP hD hS hA [0, 1, 2, 3, 4, 5, 6, 7, 8, 9, 10, 11, 12, 13, 14] [] rfl rfl (by decide) (by decide) (fun r9 u9 H locs hw hP hD hS => ?_)
      obtain ⟨rfl, rfl⟩ := hw
      have hP : va_P D vwCl (WS_X12_two cI cJ cZ cY a0 a0_a a0_image a0_texts a0_board a0_taken a0_fars a0_before a0_tape a0_pile a0_rows a0_told a0_values a0_truth a0_keeps r_10.2) H := hP.sub [0, 1, 2, 3, 4, 5, 6, 7, 8, 9, 10, 11, 12, 13, 14] rfl
      have hD : va_D A (WS_X12_two cI cJ cZ cY a0 a0_a a0_image a0_texts a0_board a0_taken a0_fars a0_before a0_tape a0_pile a0_rows a0_told a0_values a0_truth a0_keeps r_10.2) := hD.sub [0, 1, 2, 3, 4, 5, 6, 7, 8, 9, 10, 11, 12, 13, 14] (by decide) rfl
      have hg := Option.some.inj hg
      rw [hQ]
      exact W.lret (v := r_10.1) hx hb hr (fun t ht hW => ⟨⟨r_10.1, (r_10.2), rfl, ⟨by rw [← hg], by rw [← hg]⟩, by rw [ht]; exact hP, hD⟩, hS.F ht⟩) hS.2.2 dX12_two_82
    · have hg := g_it hg c_8
      refine lv_lconst (v := 0) hx hb dX12_two_70 (by decide) ?_
      refine lv_goto (tgt := 82) hx hb dX12_two_71 (by decide) ?_
      have hg := Option.some.inj hg
      rw [hQ]
      exact W.lret (v := 0) hx hb hr (fun t ht hW => ⟨⟨0, (v0), rfl, ⟨by rw [← hg], by rw [← hg]⟩, by rw [ht]; exact hP, hD⟩, hS.F ht⟩) hS.2.2 dX12_two_82
  have hg := g_if hg c_7
  by_cases c_11 : p0 = 7
  · have hg := g_it hg c_11
    refine lv_tableIn (tgt := 83) (off := 82) hx hb dX12_two_1 (by rw [c_11]; decide) (by rw [c_11]; decide) (by rw [c_11]; decide +kernel) (by decide) ?_
    refine lv_lload_n hx hb dX12_two_83 rfl (lv_at hl 2 rfl) ?_
    refine lv_lload hx hb dX12_two_84 (lv_at hl 3 rfl) ?_
    refine W.lcmp hx hb dX12_two_86 ?_
    refine lv_if_ge (tgt := 94) hx hb dX12_two_87 (by decide) (fun c_12 => ?_) (fun c_12 => ?_)
    · have hg := g_it hg c_12
      refine lv_lload hx hb dX12_two_94 (lv_at hl 3 rfl) ?_
      have hg := Option.some.inj hg
      rw [hQ]
      exact W.lret (v := p2) hx hb hr (fun t ht hW => ⟨⟨p2, (v0), rfl, ⟨by rw [← hg], by rw [← hg]⟩, by rw [ht]; exact hP, hD⟩, hS.F ht⟩) hS.2.2 dX12_two_96
    · have hg := g_if hg c_12
      refine lv_lload_n hx hb dX12_two_90 rfl (lv_at hl 2 rfl) ?_
      refine lv_goto (tgt := 96) hx hb dX12_two_91 (by decide) ?_
      have hg := Option.some.inj hg
      rw [hQ]
      exact W.lret (v := p1) hx hb hr (fun t ht hW => ⟨⟨p1, (v0), rfl, ⟨by rw [← hg], by rw [← hg]⟩, by rw [ht]; exact hP, hD⟩, hS.F ht⟩) hS.2.2 dX12_two_96
  have hg := g_if hg c_11
  have zc_1 := lv_neT (a := 3) c_1 (by decide)
  have zc_3 := lv_neT (a := 4) c_3 (by decide)
  have zc_5 := lv_neT (a := 5) c_5 (by decide)
  have zc_7 := lv_neT (a := 6) c_7 (by decide)
  have zc_11 := lv_neT (a := 7) c_11 (by decide)
  refine lv_tableOut (tgt := 97) hx hb dX12_two_1 (by omega) (by decide) ?_
  refine lv_lload_n hx hb dX12_two_97 rfl (lv_at hl 2 rfl) ?_
  refine lv_lload hx hb dX12_two_98 (lv_at hl 3 rfl) ?_
  refine W.lcmp hx hb dX12_two_100 ?_
  refine lv_if_le (tgt := 108) hx hb dX12_two_101 (by decide) (fun c_13 => ?_) (fun c_13 => ?_)
  · have hg := g_it hg c_13
    refine lv_lload hx hb dX12_two_108 (lv_at hl 3 rfl) ?_
    have hg := Option.some.inj hg
    rw [hQ]
    exact W.lret (v := p2) hx hb hr (fun t ht hW => ⟨⟨p2, (v0), rfl, ⟨by rw [← hg], by rw [← hg]⟩, by rw [ht]; exact hP, hD⟩, hS.F ht⟩) hS.2.2 dX12_two_110
  · have hg := g_if hg c_13
    refine lv_lload_n hx hb dX12_two_104 rfl (lv_at hl 2 rfl) ?_
    refine lv_goto (tgt := 110) hx hb dX12_two_105 (by decide) ?_
    have hg := Option.some.inj hg
    rw [hQ]
    exact W.lret (v := p1) hx hb hr (fun t ht hW => ⟨⟨p1, (v0), rfl, ⟨by rw [← hg], by rw [← hg]⟩, by rw [ht]; exact hP, hD⟩, hS.F ht⟩) hS.2.2 dX12_two_110

/-! ManyEyesModel.isAsked(IJJ)Z -/
def WS_X12_isAsked (cI cJ cZ cY : ClassId) : va_W := []
def f_X12_isAsked (p0 : Int32) (p1 : Int64) (p2 : Int64) : Option (Int32) := if (p0 : Int32) = 10 then (if (0 : Int32) ≤ (lg_cmp p1 p2) then (some 0) else (some 1)) else (if (p0 : Int32) = 11 then (if (0 : Int32) < (lg_cmp p1 p2) then (some 0) else (some 1)) else (if (p0 : Int32) = 12 then (if ((lg_cmp p1 p2) : Int32) ≤ 0 then (some 0) else (some 1)) else (if (p0 : Int32) = 13 then (if ((lg_cmp p1 p2) : Int32) < 0 then (some 0) else (some 1)) else (if (p0 : Int32) = 14 then (if ((lg_cmp p1 p2) : Int32) = 0 then (some 1) else (some 0)) else (if ((lg_cmp p1 p2) : Int32) = 0 then (some 0) else (some 1))))))
abbrev rm_X12_isAsked : Room := { frames := 0, cells := 0, slots := 0, locals := 0 }
set_option maxHeartbeats 4000000 in
set_option maxRecDepth 100000 in
theorem k_X12_isAsked {l : Launch} {D : va_G} {cI cJ cZ cY : ClassId} {tX tY : Nat} {sz : Nat} (p0 : Int32) (p1 : Int64) (p2 : Int64) (res : Int32) (hg : f_X12_isAsked p0 p1 p2 = some res) : Met l yX12_isAsked (Cond.code yX12_isAsked cX12_isAsked 5 (some .boolean) :: TB) rm_X12_isAsked (PC D cI cJ cZ cY tX tY [.int p0, .long p1, .long p2] (WS_X12_isAsked cI cJ cZ cY) sz) (va_Qi (fun (r : Int32) (_ : Unit) => r = res) (BC D (fun _ : Unit => WS_X12_isAsked cI cJ cZ cY) (va_A (WS_X12_isAsked cI cJ cZ cY) sz)) (va_A (WS_X12_isAsked cI cJ cZ cY) sz)) 0 0 (va_A (WS_X12_isAsked cI cJ cZ cY) sz) := by
  refine Met.ofW (cc := cX12_isAsked) (maxL := 5) (ret := (some .boolean)) (by decide) rfl ?_
  intro p e s m args below meth c s₁ B hml hv
  obtain ⟨hargs, hsz, hP, hK, hD0, hT⟩ := hv
  have hx := B.exec
  have hb := B.bytes
  have hr := B.returns
  have htb : ∀ w ∈ TB, w.before args s = true := fun w h => atoms_spec (ws := Cond.code yX12_isAsked cX12_isAsked 5 (some .boolean) :: TB) B.pre w (List.mem_cons_of_mem _ h)
  have hown : s.vm.findClass "ManyEyesModel" = some m.cls := findClass_of_methodNamed B.named
  have hlocks := B.notSynchronized
  subst hsz
  have hD := hD0.self (sz := s.heap.size)
  generalize hAe : va_A (WS_X12_isAsked cI cJ cZ cY) s.heap.size = A at hD hT ⊢
  have hA : ∀ q : Nat, s.heap.size ≤ q → A q := fun q h => by rw [← hAe]; exact Or.inr h
  have hS : va_S A s.heap s.heap [] := va_S.rf
  have hl := lv_entry ([.int p0, .long p1, .long p2]) (n := 5) (Nat.le_of_ble_eq_true rfl)
  have he : entryFrame m args 5 = F0 m 0 (lg_sl ([.int p0, .long p1, .long p2]) ++ List.replicate (5 - (lg_sl ([.int p0, .long p1, .long p2])).length) Slot.unset).toArray [] := by rw [hargs, lg_entry_eq]
  rw [he]
  generalize (lg_sl ([.int p0, .long p1, .long p2]) ++ List.replicate (5 - (lg_sl ([.int p0, .long p1, .long p2])).length) Slot.unset).toArray = ls at hl ⊢
  have hl : lv_has ls 5 [(0, .int p0), (1, .long p1), (3, .long p2)] := hl
  show W p l e rm_X12_isAsked s m args below meth c s.heap [] 0 0 _ _
  refine W.genQ (fun Q hQ => ?_)
  generalize hHe : s.heap = H at hP ⊢
  have hS : va_S A s.heap H [] := by rw [← hHe]; exact va_S.rf
  generalize ([] : List Loc) = locs at hS ⊢
  unfold f_X12_isAsked at hg
  refine lv_iload_n hx hb dX12_isAsked_0 rfl (lv_at hl 0 rfl) ?_
  refine lv_bipush (v := 10) hx hb dX12_isAsked_1 (by decide) ?_
  refine lv_icmp_ne (tgt := 20) hx hb dX12_isAsked_3 (by decide) (fun c_1 => ?_) (fun c_1 => ?_)
  · have hg := g_if hg c_1
    refine lv_iload_n hx hb dX12_isAsked_20 rfl (lv_at hl 0 rfl) ?_
    refine lv_bipush (v := 11) hx hb dX12_isAsked_21 (by decide) ?_
    refine lv_icmp_ne (tgt := 40) hx hb dX12_isAsked_23 (by decide) (fun c_2 => ?_) (fun c_2 => ?_)
    · have hg := g_if hg c_2
      refine lv_iload_n hx hb dX12_isAsked_40 rfl (lv_at hl 0 rfl) ?_
      refine lv_bipush (v := 12) hx hb dX12_isAsked_41 (by decide) ?_
      refine lv_icmp_ne (tgt := 60) hx hb dX12_isAsked_43 (by decide) (fun c_3 => ?_) (fun c_3 => ?_)
      · have hg := g_if hg c_3
        refine lv_iload_n hx hb dX12_isAsked_60 rfl (lv_at hl 0 rfl) ?_
        refine lv_bipush (v := 13) hx hb dX12_isAsked_61 (by decide) ?_
        refine lv_icmp_ne (tgt := 80) hx hb dX12_isAsked_63 (by decide) (fun c_4 => ?_) (fun c_4 => ?_)
        · have hg := g_if hg c_4
          refine lv_iload_n hx hb dX12_isAsked_80 rfl (lv_at hl 0 rfl) ?_
          refine lv_bipush (v := 14) hx hb dX12_isAsked_81 (by decide) ?_
          refine lv_icmp_ne (tgt := 100) hx hb dX12_isAsked_83 (by decide) (fun c_5 => ?_) (fun c_5 => ?_)
          · have hg := g_if hg c_5
            refine lv_lload_n hx hb dX12_isAsked_100 rfl (lv_at hl 1 rfl) ?_
            refine lv_lload_n hx hb dX12_isAsked_101 rfl (lv_at hl 2 rfl) ?_
            refine W.lcmp hx hb dX12_isAsked_102 ?_
            refine lv_if_eq (tgt := 110) hx hb dX12_isAsked_103 (by decide) (fun c_6 => ?_) (fun c_6 => ?_)
            · have hg := g_it hg c_6
              refine lv_iconst (v := 0) hx hb dX12_isAsked_110 (by decide) ?_
              have hg := Option.some.inj hg
              rw [hQ]
              exact W.zret (v := 0) (ty := .boolean) hx hb hr rfl (fun t ht hW => ⟨⟨0, (), rfl, hg, by rw [ht]; exact hP, hD⟩, hS.F ht⟩) hS.2.2 dX12_isAsked_111
            · have hg := g_if hg c_6
              refine lv_iconst (v := 1) hx hb dX12_isAsked_106 (by decide) ?_
              refine lv_goto (tgt := 111) hx hb dX12_isAsked_107 (by decide) ?_
              have hg := Option.some.inj hg
              rw [hQ]
              exact W.zret (v := 1) (ty := .boolean) hx hb hr rfl (fun t ht hW => ⟨⟨1, (), rfl, hg, by rw [ht]; exact hP, hD⟩, hS.F ht⟩) hS.2.2 dX12_isAsked_111
          · have hg := g_it hg c_5
            refine lv_lload_n hx hb dX12_isAsked_86 rfl (lv_at hl 1 rfl) ?_
            refine lv_lload_n hx hb dX12_isAsked_87 rfl (lv_at hl 2 rfl) ?_
            refine W.lcmp hx hb dX12_isAsked_88 ?_
            refine lv_if_ne (tgt := 96) hx hb dX12_isAsked_89 (by decide) (fun c_7 => ?_) (fun c_7 => ?_)
            · have hg := g_if hg c_7
              refine lv_iconst (v := 0) hx hb dX12_isAsked_96 (by decide) ?_
              refine lv_goto (tgt := 111) hx hb dX12_isAsked_97 (by decide) ?_
              have hg := Option.some.inj hg
              rw [hQ]
              exact W.zret (v := 0) (ty := .boolean) hx hb hr rfl (fun t ht hW => ⟨⟨0, (), rfl, hg, by rw [ht]; exact hP, hD⟩, hS.F ht⟩) hS.2.2 dX12_isAsked_111
            · have hg := g_it hg c_7
              refine lv_iconst (v := 1) hx hb dX12_isAsked_92 (by decide) ?_
              refine lv_goto (tgt := 111) hx hb dX12_isAsked_93 (by decide) ?_
              have hg := Option.some.inj hg
              rw [hQ]
              exact W.zret (v := 1) (ty := .boolean) hx hb hr rfl (fun t ht hW => ⟨⟨1, (), rfl, hg, by rw [ht]; exact hP, hD⟩, hS.F ht⟩) hS.2.2 dX12_isAsked_111
        · have hg := g_it hg c_4
          refine lv_lload_n hx hb dX12_isAsked_66 rfl (lv_at hl 1 rfl) ?_
          refine lv_lload_n hx hb dX12_isAsked_67 rfl (lv_at hl 2 rfl) ?_
          refine W.lcmp hx hb dX12_isAsked_68 ?_
          refine lv_if_lt (tgt := 76) hx hb dX12_isAsked_69 (by decide) (fun c_8 => ?_) (fun c_8 => ?_)
          · have hg := g_it hg c_8
            refine lv_iconst (v := 0) hx hb dX12_isAsked_76 (by decide) ?_
            refine lv_goto (tgt := 111) hx hb dX12_isAsked_77 (by decide) ?_
            have hg := Option.some.inj hg
            rw [hQ]
            exact W.zret (v := 0) (ty := .boolean) hx hb hr rfl (fun t ht hW => ⟨⟨0, (), rfl, hg, by rw [ht]; exact hP, hD⟩, hS.F ht⟩) hS.2.2 dX12_isAsked_111
          · have hg := g_if hg c_8
            refine lv_iconst (v := 1) hx hb dX12_isAsked_72 (by decide) ?_
            refine lv_goto (tgt := 111) hx hb dX12_isAsked_73 (by decide) ?_
            have hg := Option.some.inj hg
            rw [hQ]
            exact W.zret (v := 1) (ty := .boolean) hx hb hr rfl (fun t ht hW => ⟨⟨1, (), rfl, hg, by rw [ht]; exact hP, hD⟩, hS.F ht⟩) hS.2.2 dX12_isAsked_111
      · have hg := g_it hg c_3
        refine lv_lload_n hx hb dX12_isAsked_46 rfl (lv_at hl 1 rfl) ?_
        refine lv_lload_n hx hb dX12_isAsked_47 rfl (lv_at hl 2 rfl) ?_
        refine W.lcmp hx hb dX12_isAsked_48 ?_
        refine lv_if_le (tgt := 56) hx hb dX12_isAsked_49 (by decide) (fun c_9 => ?_) (fun c_9 => ?_)
        · have hg := g_it hg c_9
          refine lv_iconst (v := 0) hx hb dX12_isAsked_56 (by decide) ?_
          refine lv_goto (tgt := 111) hx hb dX12_isAsked_57 (by decide) ?_
          have hg := Option.some.inj hg
          rw [hQ]
          exact W.zret (v := 0) (ty := .boolean) hx hb hr rfl (fun t ht hW => ⟨⟨0, (), rfl, hg, by rw [ht]; exact hP, hD⟩, hS.F ht⟩) hS.2.2 dX12_isAsked_111
        · have hg := g_if hg c_9
          refine lv_iconst (v := 1) hx hb dX12_isAsked_52 (by decide) ?_
          refine lv_goto (tgt := 111) hx hb dX12_isAsked_53 (by decide) ?_
          have hg := Option.some.inj hg
          rw [hQ]
          exact W.zret (v := 1) (ty := .boolean) hx hb hr rfl (fun t ht hW => ⟨⟨1, (), rfl, hg, by rw [ht]; exact hP, hD⟩, hS.F ht⟩) hS.2.2 dX12_isAsked_111
    · have hg := g_it hg c_2
      refine lv_lload_n hx hb dX12_isAsked_26 rfl (lv_at hl 1 rfl) ?_
      refine lv_lload_n hx hb dX12_isAsked_27 rfl (lv_at hl 2 rfl) ?_
      refine W.lcmp hx hb dX12_isAsked_28 ?_
      refine lv_if_gt (tgt := 36) hx hb dX12_isAsked_29 (by decide) (fun c_10 => ?_) (fun c_10 => ?_)
      · have hg := g_it hg c_10
        refine lv_iconst (v := 0) hx hb dX12_isAsked_36 (by decide) ?_
        refine lv_goto (tgt := 111) hx hb dX12_isAsked_37 (by decide) ?_
        have hg := Option.some.inj hg
        rw [hQ]
        exact W.zret (v := 0) (ty := .boolean) hx hb hr rfl (fun t ht hW => ⟨⟨0, (), rfl, hg, by rw [ht]; exact hP, hD⟩, hS.F ht⟩) hS.2.2 dX12_isAsked_111
      · have hg := g_if hg c_10
        refine lv_iconst (v := 1) hx hb dX12_isAsked_32 (by decide) ?_
        refine lv_goto (tgt := 111) hx hb dX12_isAsked_33 (by decide) ?_
        have hg := Option.some.inj hg
        rw [hQ]
        exact W.zret (v := 1) (ty := .boolean) hx hb hr rfl (fun t ht hW => ⟨⟨1, (), rfl, hg, by rw [ht]; exact hP, hD⟩, hS.F ht⟩) hS.2.2 dX12_isAsked_111
  · have hg := g_it hg c_1
    refine lv_lload_n hx hb dX12_isAsked_6 rfl (lv_at hl 1 rfl) ?_
    refine lv_lload_n hx hb dX12_isAsked_7 rfl (lv_at hl 2 rfl) ?_
    refine W.lcmp hx hb dX12_isAsked_8 ?_
    refine lv_if_ge (tgt := 16) hx hb dX12_isAsked_9 (by decide) (fun c_11 => ?_) (fun c_11 => ?_)
    · have hg := g_it hg c_11
      refine lv_iconst (v := 0) hx hb dX12_isAsked_16 (by decide) ?_
      refine lv_goto (tgt := 111) hx hb dX12_isAsked_17 (by decide) ?_
      have hg := Option.some.inj hg
      rw [hQ]
      exact W.zret (v := 0) (ty := .boolean) hx hb hr rfl (fun t ht hW => ⟨⟨0, (), rfl, hg, by rw [ht]; exact hP, hD⟩, hS.F ht⟩) hS.2.2 dX12_isAsked_111
    · have hg := g_if hg c_11
      refine lv_iconst (v := 1) hx hb dX12_isAsked_12 (by decide) ?_
      refine lv_goto (tgt := 111) hx hb dX12_isAsked_13 (by decide) ?_
      have hg := Option.some.inj hg
      rw [hQ]
      exact W.zret (v := 1) (ty := .boolean) hx hb hr rfl (fun t ht hW => ⟨⟨1, (), rfl, hg, by rw [ht]; exact hP, hD⟩, hS.F ht⟩) hS.2.2 dX12_isAsked_111

/-! ManyEyesModel.valueOf(II)J -/
def WS_X12_valueOf (cI cJ cZ cY : ClassId) (a0 a0_a a0_image a0_texts a0_board a0_taken a0_fars a0_before a0_tape a0_pile a0_rows a0_told a0_values a0_truth a0_keeps : Nat) (v0 : BX12) : va_W := (GX12 cI cJ cZ cY a0 a0_a a0_image a0_texts a0_board a0_taken a0_fars a0_before a0_tape a0_pile a0_rows a0_told a0_values a0_truth a0_keeps v0)
def f_X12_valueOf (v0 : BX12) (p0 : Int32) (p1 : Int32) : Option (Int64) := if p0 = 0 then (some ((p1 : Int32).toInt64)) else (if p0 = 1 then (g_gd (inB p1 8) (some ((((pX12_told v0) (p1 : Int32).toNatClampNeg) : Int32).toInt64))) else (if p0 = 30 then (some (((pX12_now v0) : Int32).toInt64)) else (if p0 = 31 then (g_gd (inB 1 3170) (if (((pX12_a v0) (1 : Int32).toNatClampNeg) : Int32) ≤ p1 then (some 0) else (g_gd (inB ((((38 : Int32) * (pX12_now v0)) + 5) + p1) 2280) (some ((((pX12_rows v0) (((((38 : Int32) * (pX12_now v0)) + 5) + p1) : Int32).toNatClampNeg) : Int32).toInt64))))) else (g_gd (inB 2 3170) (if (((pX12_a v0) (2 : Int32).toNatClampNeg) : Int32) ≤ p1 then (some 0) else (g_gd (inB ((((38 : Int32) * (pX12_now v0)) + 21) + p1) 2280) (some ((((pX12_rows v0) (((((38 : Int32) * (pX12_now v0)) + 21) + p1) : Int32).toNatClampNeg) : Int32).toInt64))))))))
abbrev rm_X12_valueOf : Room := { frames := 0, cells := 0, slots := 0, locals := 0 }
set_option maxHeartbeats 4000000 in
set_option maxRecDepth 100000 in
theorem k_X12_valueOf {l : Launch} {D : va_G} {cI cJ cZ cY : ClassId} {tX tY : Nat} {sz : Nat} (a0 a0_a a0_image a0_texts a0_board a0_taken a0_fars a0_before a0_tape a0_pile a0_rows a0_told a0_values a0_truth a0_keeps : Nat) (v0 : BX12) (p0 : Int32) (p1 : Int32) (res : Int64) (hg : f_X12_valueOf v0 p0 p1 = some res) : Met l yX12_valueOf (Cond.code yX12_valueOf cX12_valueOf 3 (some .long) :: TB) rm_X12_valueOf (PC D cI cJ cZ cY tX tY [.ref a0, .int p0, .int p1] (WS_X12_valueOf cI cJ cZ cY a0 a0_a a0_image a0_texts a0_board a0_taken a0_fars a0_before a0_tape a0_pile a0_rows a0_told a0_values a0_truth a0_keeps v0) sz) (va_Ql (fun (r : Int64) (_ : Unit) => r = res) (BC D (fun _ : Unit => WS_X12_valueOf cI cJ cZ cY a0 a0_a a0_image a0_texts a0_board a0_taken a0_fars a0_before a0_tape a0_pile a0_rows a0_told a0_values a0_truth a0_keeps v0) (va_A (WS_X12_valueOf cI cJ cZ cY a0 a0_a a0_image a0_texts a0_board a0_taken a0_fars a0_before a0_tape a0_pile a0_rows a0_told a0_values a0_truth a0_keeps v0) sz)) (va_A (WS_X12_valueOf cI cJ cZ cY a0 a0_a a0_image a0_texts a0_board a0_taken a0_fars a0_before a0_tape a0_pile a0_rows a0_told a0_values a0_truth a0_keeps v0) sz)) 0 0 (va_A (WS_X12_valueOf cI cJ cZ cY a0 a0_a a0_image a0_texts a0_board a0_taken a0_fars a0_before a0_tape a0_pile a0_rows a0_told a0_values a0_truth a0_keeps v0) sz) := by
  refine Met.ofW (cc := cX12_valueOf) (maxL := 3) (ret := (some .long)) (by decide) rfl ?_
  intro p e s m args below meth c s₁ B hml hv
  obtain ⟨hargs, hsz, hP, hK, hD0, hT⟩ := hv
  have hx := B.exec
  have hb := B.bytes
  have hr := B.returns
  have htb : ∀ w ∈ TB, w.before args s = true := fun w h => atoms_spec (ws := Cond.code yX12_valueOf cX12_valueOf 3 (some .long) :: TB) B.pre w (List.mem_cons_of_mem _ h)
  have hown : s.vm.findClass "ManyEyesModel" = some m.cls := findClass_of_methodNamed B.named
  have hlocks := B.notSynchronized
  subst hsz
  have hD := hD0.self (sz := s.heap.size)
  generalize hAe : va_A (WS_X12_valueOf cI cJ cZ cY a0 a0_a a0_image a0_texts a0_board a0_taken a0_fars a0_before a0_tape a0_pile a0_rows a0_told a0_values a0_truth a0_keeps v0) s.heap.size = A at hD hT ⊢
  have hA : ∀ q : Nat, s.heap.size ≤ q → A q := fun q h => by rw [← hAe]; exact Or.inr h
  have hS : va_S A s.heap s.heap [] := va_S.rf
  have hl := lv_entry ([.ref a0, .int p0, .int p1]) (n := 3) (Nat.le_of_ble_eq_true rfl)
  have he : entryFrame m args 3 = F0 m 0 (lg_sl ([.ref a0, .int p0, .int p1]) ++ List.replicate (3 - (lg_sl ([.ref a0, .int p0, .int p1])).length) Slot.unset).toArray [] := by rw [hargs, lg_entry_eq]
  rw [he]
  generalize (lg_sl ([.ref a0, .int p0, .int p1]) ++ List.replicate (3 - (lg_sl ([.ref a0, .int p0, .int p1])).length) Slot.unset).toArray = ls at hl ⊢
  have hl : lv_has ls 3 [(0, .ref a0), (1, .int p0), (2, .int p1)] := hl
  show W p l e rm_X12_valueOf s m args below meth c s.heap [] 0 0 _ _
  refine W.genQ (fun Q hQ => ?_)
  generalize hHe : s.heap = H at hP ⊢
  have hS : va_S A s.heap H [] := by rw [← hHe]; exact va_S.rf
  generalize ([] : List Loc) = locs at hS ⊢
  unfold f_X12_valueOf at hg
  refine lv_iload_n hx hb dX12_valueOf_0 rfl (lv_at hl 1 rfl) ?_
  by_cases c_1 : p0 = 0
  · have hg := g_it hg c_1
    refine lv_lookup (tgt := 44) (off := 43) hx hb dX12_valueOf_1 (by decide +kernel) (by rw [c_1]; decide +kernel) (by decide) ?_
    refine lv_iload_n hx hb dX12_valueOf_44 rfl (lv_at hl 2 rfl) ?_
    refine lv_i2l (v := (p1 : Int32).toInt64) hx hb dX12_valueOf_45 rfl ?_
    have hg := Option.some.inj hg
    rw [hQ]
    exact W.lret (v := ((p1 : Int32).toInt64)) hx hb hr (fun t ht hW => ⟨⟨((p1 : Int32).toInt64), (), rfl, hg, by rw [ht]; exact hP, hD⟩, hS.F ht⟩) hS.2.2 dX12_valueOf_46
  have hg := g_if hg c_1
  by_cases c_2 : p0 = 1
  · have hg := g_it hg c_2
    refine lv_lookup (tgt := 47) (off := 46) hx hb dX12_valueOf_1 (by decide +kernel) (by rw [c_2]; decide +kernel) (by decide) ?_
    refine lv_aload_n hx hb dX12_valueOf_47 rfl (lv_at hl 0 rfl) ?_
    refine va_get (ci := 11) (v := .ref a0_told) (C := RX12) (T := TX12) (N := 43) hx hb htb uX12 hown hK.1 hP 0 rfl rfl 36 (by decide) (htb _ tg_972) (fun _ h9 => h9) rfl dX12_valueOf_48 ?_
    refine lv_iload_n hx hb dX12_valueOf_51 rfl (lv_at hl 2 rfl) ?_
    obtain ⟨h_3, hg⟩ := g_gde hg
    refine va_iald hx hb hK.1 hP 11 0 rfl rfl (inB_vp h_3) dX12_valueOf_52 ?_
    refine lv_i2l (v := (((pX12_told v0) (p1 : Int32).toNatClampNeg) : Int32).toInt64) hx hb dX12_valueOf_53 rfl ?_
    have hg := Option.some.inj hg
    rw [hQ]
    exact W.lret (v := ((((pX12_told v0) (p1 : Int32).toNatClampNeg) : Int32).toInt64)) hx hb hr (fun t ht hW => ⟨⟨((((pX12_told v0) (p1 : Int32).toNatClampNeg) : Int32).toInt64), (), rfl, hg, by rw [ht]; exact hP, hD⟩, hS.F ht⟩) hS.2.2 dX12_valueOf_54
  have hg := g_if hg c_2
  by_cases c_4 : p0 = 30
  · have hg := g_it hg c_4
    refine lv_lookup (tgt := 55) (off := 54) hx hb dX12_valueOf_1 (by decide +kernel) (by rw [c_4]; decide +kernel) (by decide) ?_
    refine lv_aload_n hx hb dX12_valueOf_55 rfl (lv_at hl 0 rfl) ?_
    refine va_get (ci := 11) (v := .int (pX12_now v0)) (C := RX12) (T := TX12) (N := 43) hx hb htb uX12 hown hK.1 hP 0 rfl rfl 39 (by decide) (htb _ tg_975) (fun _ h9 => h9) rfl dX12_valueOf_56 ?_
    refine lv_i2l (v := ((pX12_now v0) : Int32).toInt64) hx hb dX12_valueOf_59 rfl ?_
    have hg := Option.some.inj hg
    rw [hQ]
    exact W.lret (v := (((pX12_now v0) : Int32).toInt64)) hx hb hr (fun t ht hW => ⟨⟨(((pX12_now v0) : Int32).toInt64), (), rfl, hg, by rw [ht]; exact hP, hD⟩, hS.F ht⟩) hS.2.2 dX12_valueOf_60
  have hg := g_if hg c_4
  by_cases c_5 : p0 = 31
  · have hg := g_it hg c_5
    refine lv_lookup (tgt := 61) (off := 60) hx hb dX12_valueOf_1 (by decide +kernel) (by rw [c_5]; decide +kernel) (by decide) ?_
    refine lv_iload_n hx hb dX12_valueOf_61 rfl (lv_at hl 2 rfl) ?_
    refine lv_aload_n hx hb dX12_valueOf_62 rfl (lv_at hl 0 rfl) ?_
    refine va_get (ci := 11) (v := .ref a0_a) (C := RX12) (T := TX12) (N := 43) hx hb htb uX12 hown hK.1 hP 0 rfl rfl 2 (by decide) (htb _ tg_938) (fun _ h9 => h9) rfl dX12_valueOf_63 ?_
    refine lv_iconst (v := 1) hx hb dX12_valueOf_66 (by decide) ?_
    obtain ⟨h_6, hg⟩ := g_gde hg
    refine va_iald hx hb hK.1 hP 1 0 rfl rfl (inB_vp h_6) dX12_valueOf_67 ?_
    refine lv_icmp_ge (tgt := 91) hx hb dX12_valueOf_68 (by decide) (fun c_7 => ?_) (fun c_7 => ?_)
    · have hg := g_it hg c_7
      refine lv_lconst (v := 0) hx hb dX12_valueOf_91 (by decide) ?_
      have hg := Option.some.inj hg
      rw [hQ]
      exact W.lret (v := 0) hx hb hr (fun t ht hW => ⟨⟨0, (), rfl, hg, by rw [ht]; exact hP, hD⟩, hS.F ht⟩) hS.2.2 dX12_valueOf_92
    · have hg := g_if hg c_7
      refine lv_aload_n hx hb dX12_valueOf_71 rfl (lv_at hl 0 rfl) ?_
      refine va_get (ci := 11) (v := .ref a0_rows) (C := RX12) (T := TX12) (N := 43) hx hb htb uX12 hown hK.1 hP 0 rfl rfl 35 (by decide) (htb _ tg_971) (fun _ h9 => h9) rfl dX12_valueOf_72 ?_
      refine lv_bipush (v := 38) hx hb dX12_valueOf_75 (by decide) ?_
      refine lv_aload_n hx hb dX12_valueOf_77 rfl (lv_at hl 0 rfl) ?_
      refine va_get (ci := 11) (v := .int (pX12_now v0)) (C := RX12) (T := TX12) (N := 43) hx hb htb uX12 hown hK.1 hP 0 rfl rfl 39 (by decide) (htb _ tg_975) (fun _ h9 => h9) rfl dX12_valueOf_78 ?_
      refine lv_imul hx hb dX12_valueOf_81 ?_
      refine lv_iconst (v := 5) hx hb dX12_valueOf_82 (by decide) ?_
      refine lv_iadd hx hb dX12_valueOf_83 ?_
      refine lv_iload_n hx hb dX12_valueOf_84 rfl (lv_at hl 2 rfl) ?_
      refine lv_iadd hx hb dX12_valueOf_85 ?_
      obtain ⟨h_8, hg⟩ := g_gde hg
      refine va_iald hx hb hK.1 hP 10 0 rfl rfl (inB_vp h_8) dX12_valueOf_86 ?_
      refine lv_i2l (v := (((pX12_rows v0) (((((38 : Int32) * (pX12_now v0)) + 5) + p1) : Int32).toNatClampNeg) : Int32).toInt64) hx hb dX12_valueOf_87 rfl ?_
      refine lv_goto (tgt := 92) hx hb dX12_valueOf_88 (by decide) ?_
      have hg := Option.some.inj hg
      rw [hQ]
      exact W.lret (v := ((((pX12_rows v0) (((((38 : Int32) * (pX12_now v0)) + 5) + p1) : Int32).toNatClampNeg) : Int32).toInt64)) hx hb hr (fun t ht hW => ⟨⟨((((pX12_rows v0) (((((38 : Int32) * (pX12_now v0)) + 5) + p1) : Int32).toNatClampNeg) : Int32).toInt64), (), rfl, hg, by rw [ht]; exact hP, hD⟩, hS.F ht⟩) hS.2.2 dX12_valueOf_92
  have hg := g_if hg c_5
  refine lv_lookup (tgt := 93) (off := 92) hx hb dX12_valueOf_1 (by decide +kernel) ((lv_osw c_1 (by decide)).trans ((lv_osw c_2 (by decide)).trans ((lv_osw c_4 (by decide)).trans ((lv_osw c_5 (by decide)).trans (rfl))))) (by decide) ?_
  refine lv_iload_n hx hb dX12_valueOf_93 rfl (lv_at hl 2 rfl) ?_
  refine lv_aload_n hx hb dX12_valueOf_94 rfl (lv_at hl 0 rfl) ?_
  refine va_get (ci := 11) (v := .ref a0_a) (C := RX12) (T := TX12) (N := 43) hx hb htb uX12 hown hK.1 hP 0 rfl rfl 2 (by decide) (htb _ tg_938) (fun _ h9 => h9) rfl dX12_valueOf_95 ?_
  refine lv_iconst (v := 2) hx hb dX12_valueOf_98 (by decide) ?_
  obtain ⟨h_9, hg⟩ := g_gde hg
  refine va_iald hx hb hK.1 hP 1 0 rfl rfl (inB_vp h_9) dX12_valueOf_99 ?_
  refine lv_icmp_ge (tgt := 124) hx hb dX12_valueOf_100 (by decide) (fun c_10 => ?_) (fun c_10 => ?_)
  · have hg := g_it hg c_10
    refine lv_lconst (v := 0) hx hb dX12_valueOf_124 (by decide) ?_
    have hg := Option.some.inj hg
    rw [hQ]
    exact W.lret (v := 0) hx hb hr (fun t ht hW => ⟨⟨0, (), rfl, hg, by rw [ht]; exact hP, hD⟩, hS.F ht⟩) hS.2.2 dX12_valueOf_125
  · have hg := g_if hg c_10
    refine lv_aload_n hx hb dX12_valueOf_103 rfl (lv_at hl 0 rfl) ?_
    refine va_get (ci := 11) (v := .ref a0_rows) (C := RX12) (T := TX12) (N := 43) hx hb htb uX12 hown hK.1 hP 0 rfl rfl 35 (by decide) (htb _ tg_971) (fun _ h9 => h9) rfl dX12_valueOf_104 ?_
    refine lv_bipush (v := 38) hx hb dX12_valueOf_107 (by decide) ?_
    refine lv_aload_n hx hb dX12_valueOf_109 rfl (lv_at hl 0 rfl) ?_
    refine va_get (ci := 11) (v := .int (pX12_now v0)) (C := RX12) (T := TX12) (N := 43) hx hb htb uX12 hown hK.1 hP 0 rfl rfl 39 (by decide) (htb _ tg_975) (fun _ h9 => h9) rfl dX12_valueOf_110 ?_
    refine lv_imul hx hb dX12_valueOf_113 ?_
    refine lv_bipush (v := 21) hx hb dX12_valueOf_114 (by decide) ?_
    refine lv_iadd hx hb dX12_valueOf_116 ?_
    refine lv_iload_n hx hb dX12_valueOf_117 rfl (lv_at hl 2 rfl) ?_
    refine lv_iadd hx hb dX12_valueOf_118 ?_
    obtain ⟨h_11, hg⟩ := g_gde hg
    refine va_iald hx hb hK.1 hP 10 0 rfl rfl (inB_vp h_11) dX12_valueOf_119 ?_
    refine lv_i2l (v := (((pX12_rows v0) (((((38 : Int32) * (pX12_now v0)) + 21) + p1) : Int32).toNatClampNeg) : Int32).toInt64) hx hb dX12_valueOf_120 rfl ?_
    refine lv_goto (tgt := 125) hx hb dX12_valueOf_121 (by decide) ?_
    have hg := Option.some.inj hg
    rw [hQ]
    exact W.lret (v := ((((pX12_rows v0) (((((38 : Int32) * (pX12_now v0)) + 21) + p1) : Int32).toNatClampNeg) : Int32).toInt64)) hx hb hr (fun t ht hW => ⟨⟨((((pX12_rows v0) (((((38 : Int32) * (pX12_now v0)) + 21) + p1) : Int32).toNatClampNeg) : Int32).toInt64), (), rfl, hg, by rw [ht]; exact hP, hD⟩, hS.F ht⟩) hS.2.2 dX12_valueOf_125

/-! ManyEyesModel.work(III)V -/
def WS_X12_work (cI cJ cZ cY : ClassId) (a0 a0_a a0_image a0_texts a0_board a0_taken a0_fars a0_before a0_tape a0_pile a0_rows a0_told a0_values a0_truth a0_keeps : Nat) (v0 : BX12) : va_W := (GX12 cI cJ cZ cY a0 a0_a a0_image a0_texts a0_board a0_taken a0_fars a0_before a0_tape a0_pile a0_rows a0_told a0_values a0_truth a0_keeps v0)
def f_X12_work_b309 (J9 : (Int32 × Int32 × Int32 × Int32 × Int32 × BX12) → Option (BX12)) (x1 : Int32) (x3 : Int32) (x4 : Int32) (x5 : Int32) (x6 : Int32) (v0 : BX12) : Option (BX12) := g_lt (x6 + 1 : Int32) (fun x6_1 => J9 (x1, x3, x4, x5, x6_1, v0))
def f_X12_work_b308 (J9 : (Int32 × Int32 × Int32 × Int32 × Int32 × BX12) → Option (BX12)) (x1 : Int32) (x3 : Int32) (x4 : Int32) (x5 : Int32) (x6 : Int32) (t1 : Int32) (t2 : Int32) (v0 : BX12) : Option (BX12) := g_gd (inB t1 330) (g_lt (sX12_truth v0 (upd (pX12_truth v0) (t1 : Int32).toNatClampNeg (vp_nar .boolean t2))) (fun v0_3 => f_X12_work_b309 J9 x1 x3 x4 x5 x6 v0_3))
def f_X12_work_b303 (J9 : (Int32 × Int32 × Int32 × Int32 × Int32 × BX12) → Option (BX12)) (x1 : Int32) (x3 : Int32) (x4 : Int32) (x5 : Int32) (x6 : Int32) (t1 : Int32) (v0 : BX12) : Option (BX12) := f_X12_work_b308 J9 x1 x3 x4 x5 x6 t1 1 v0
def f_X12_work_b277 (J9 : (Int32 × Int32 × Int32 × Int32 × Int32 × BX12) → Option (BX12)) (x1 : Int32) (x3 : Int32) (x4 : Int32) (x5 : Int32) (x6 : Int32) (t1 : Int32) (v0 : BX12) : Option (BX12) := f_X12_work_b308 J9 x1 x3 x4 x5 x6 t1 0 v0
def f_X12_work_b229 (J9 : (Int32 × Int32 × Int32 × Int32 × Int32 × BX12) → Option (BX12)) (x1 : Int32) (x3 : Int32) (x4 : Int32) (x5 : Int32) (x6 : Int32) (t1 : Int32) (t2 : Int32) (v0 : BX12) : Option (BX12) := g_gd (inB t1 330) (g_lt (sX12_truth v0 (upd (pX12_truth v0) (t1 : Int32).toNatClampNeg (vp_nar .boolean t2))) (fun v0_5 => f_X12_work_b309 J9 x1 x3 x4 x5 x6 v0_5))
def f_X12_work_b56 (J9 : (Int32 × Int32 × Int32 × Int32 × Int32 × BX12) → Option (BX12)) (x1 : Int32) (x3 : Int32) (x4 : Int32) (x5 : Int32) (x6 : Int32) (x7 : Int32) (x8 : Int32) (v0 : BX12) : Option (BX12) := (f_X12_valueOf v0 x7 x8).bind (fun r_6 => (f_X12_bring v0 r_6).bind (fun r_7 => g_gd (inB x4 330) (g_lt (sX12_values r_7.2 (vp_updL (pX12_values r_7.2) (x4 : Int32).toNatClampNeg r_7.1)) (fun v0_9 => g_lt (x4 + 1 : Int32) (fun x4_10 => f_X12_work_b309 J9 x1 x3 x4_10 x5 x6 v0_9)))))
def f_X12_work_b9B (J9 : Int32 × Int32 × Int32 × Int32 × Int32 × BX12 → Option (BX12)) (x1 : Int32) (x3 : Int32) (x4 : Int32) (x5 : Int32) (x6 : Int32) (v0 : BX12) : Option (BX12) := if (x3 : Int32) ≤ x6 then (some (v0)) else (g_gd (inB (x1 + ((2 : Int32) * x6)) 6400) (g_lt (((pX12_texts v0) ((x1 + ((2 : Int32) * x6)) : Int32).toNatClampNeg) : Int32) (fun x7_13 => g_gd (inB ((x1 + ((2 : Int32) * x6)) + 1) 6400) (g_lt (((pX12_texts v0) (((x1 + ((2 : Int32) * x6)) + 1) : Int32).toNatClampNeg) : Int32) (fun x8_15 => if (x7_13 : Int32) ≤ 1 then (f_X12_work_b56 J9 x1 x3 x4 x5 x6 x7_13 x8_15 v0) else (if (x7_13 : Int32) < 30 then (if (x7_13 : Int32) = 2 then (g_gd (inB (x4 - 1) 330) (g_lt ((-((pX12_values v0) ((x4 - 1) : Int32).toNatClampNeg)) : Int64) (fun x_48 => g_gd (inB (x4 - 1) 330) (g_lt (sX12_values v0 (vp_updL (pX12_values v0) ((x4 - 1) : Int32).toNatClampNeg x_48)) (fun v0_50 => f_X12_work_b309 J9 x1 x3 x4 x5 x6 v0_50))))) else (if (10 : Int32) ≤ x7_13 then (if (20 : Int32) ≤ x7_13 then (if (x7_13 : Int32) = 20 then (g_gd (inB (x5 - 1) 330) (if (((pX12_truth v0) ((x5 - 1) : Int32).toNatClampNeg) : Int32) = 0 then (f_X12_work_b229 J9 x1 x3 x4 x5 x6 (x5 - 1) 1 v0) else (f_X12_work_b229 J9 x1 x3 x4 x5 x6 (x5 - 1) 0 v0))) else (g_lt (x5 + (-1) : Int32) (fun x5_22 => if (x7_13 : Int32) = 21 then (g_gd (inB (x5_22 - 1) 330) (if (((pX12_truth v0) ((x5_22 - 1) : Int32).toNatClampNeg) : Int32) = 0 then (f_X12_work_b277 J9 x1 x3 x4 x5_22 x6 (x5_22 - 1) v0) else (g_gd (inB x5_22 330) (if (((pX12_truth v0) (x5_22 : Int32).toNatClampNeg) : Int32) = 0 then (f_X12_work_b277 J9 x1 x3 x4 x5_22 x6 (x5_22 - 1) v0) else (f_X12_work_b308 J9 x1 x3 x4 x5_22 x6 (x5_22 - 1) 1 v0))))) else (g_gd (inB (x5_22 - 1) 330) (if (((pX12_truth v0) ((x5_22 - 1) : Int32).toNatClampNeg) : Int32) = 0 then (g_gd (inB x5_22 330) (if (((pX12_truth v0) (x5_22 : Int32).toNatClampNeg) : Int32) = 0 then (f_X12_work_b308 J9 x1 x3 x4 x5_22 x6 (x5_22 - 1) 0 v0) else (f_X12_work_b303 J9 x1 x3 x4 x5_22 x6 (x5_22 - 1) v0))) else (f_X12_work_b303 J9 x1 x3 x4 x5_22 x6 (x5_22 - 1) v0)))))) else (g_lt (x4 + (-2) : Int32) (fun x4_34 => g_gd (inB x4_34 330) (g_gd (inB (x4_34 + 1) 330) ((f_X12_isAsked x7_13 ((pX12_values v0) (x4_34 : Int32).toNatClampNeg) ((pX12_values v0) ((x4_34 + 1) : Int32).toNatClampNeg)).bind (fun r_37 => g_gd (inB x5 330) (g_lt (sX12_truth v0 (upd (pX12_truth v0) (x5 : Int32).toNatClampNeg (vp_nar .boolean r_37))) (fun v0_39 => g_lt (x5 + 1 : Int32) (fun x5_40 => f_X12_work_b309 J9 x1 x3 x4_34 x5_40 x6 v0_39))))))))) else (g_lt (x4 + (-1) : Int32) (fun x4_41 => g_gd (inB (x4_41 - 1) 330) (g_gd (inB x4_41 330) ((f_X12_two v0 x7_13 ((pX12_values v0) ((x4_41 - 1) : Int32).toNatClampNeg) ((pX12_values v0) (x4_41 : Int32).toNatClampNeg)).bind (fun r_44 => g_gd (inB (x4_41 - 1) 330) (g_lt (sX12_values r_44.2 (vp_updL (pX12_values r_44.2) ((x4_41 - 1) : Int32).toNatClampNeg r_44.1)) (fun v0_46 => f_X12_work_b309 J9 x1 x3 x4_41 x5 x6 v0_46))))))))) else (f_X12_work_b56 J9 x1 x3 x4 x5 x6 x7_13 x8_15 v0)))))))
def f_X12_work_b9 : Nat → (Int32 × Int32 × Int32 × Int32 × Int32 × BX12) → Option (BX12) := g_lp (fun J z => f_X12_work_b9B J z.1 z.2.1 z.2.2.1 z.2.2.2.1 z.2.2.2.2.1 z.2.2.2.2.2)
def f_X12_work (v0 : BX12) (p0 : Int32) (p1 : Int32) (p2 : Int32) : Option (BX12) := f_X12_work_b9 fU (p0, p2, 0, 0, p1, v0)
abbrev rm_X12_work : Room := { frames := 2, cells := 0, slots := 0, locals := 47 }
set_option maxHeartbeats 4000000 in
set_option maxRecDepth 100000 in
theorem k_X12_work {l : Launch} {D : va_G} {cI cJ cZ cY : ClassId} {tX tY : Nat} {sz : Nat} (a0 a0_a a0_image a0_texts a0_board a0_taken a0_fars a0_before a0_tape a0_pile a0_rows a0_told a0_values a0_truth a0_keeps : Nat) (v0 : BX12) (p0 : Int32) (p1 : Int32) (p2 : Int32) (res : BX12) (hg : f_X12_work v0 p0 p1 p2 = some res) : Met l yX12_work (Cond.code yX12_work cX12_work 9 none :: TB) rm_X12_work (PC D cI cJ cZ cY tX tY [.ref a0, .int p0, .int p1, .int p2] (WS_X12_work cI cJ cZ cY a0 a0_a a0_image a0_texts a0_board a0_taken a0_fars a0_before a0_tape a0_pile a0_rows a0_told a0_values a0_truth a0_keeps v0) sz) (va_Qv (fun (u : BX12) => u = res) (BC D (fun u : BX12 => WS_X12_work cI cJ cZ cY a0 a0_a a0_image a0_texts a0_board a0_taken a0_fars a0_before a0_tape a0_pile a0_rows a0_told a0_values a0_truth a0_keeps u) (va_A (WS_X12_work cI cJ cZ cY a0 a0_a a0_image a0_texts a0_board a0_taken a0_fars a0_before a0_tape a0_pile a0_rows a0_told a0_values a0_truth a0_keeps v0) sz)) (va_A (WS_X12_work cI cJ cZ cY a0 a0_a a0_image a0_texts a0_board a0_taken a0_fars a0_before a0_tape a0_pile a0_rows a0_told a0_values a0_truth a0_keeps v0) sz)) 0 0 (va_A (WS_X12_work cI cJ cZ cY a0 a0_a a0_image a0_texts a0_board a0_taken a0_fars a0_before a0_tape a0_pile a0_rows a0_told a0_values a0_truth a0_keeps v0) sz) := by
  refine Met.ofW (cc := cX12_work) (maxL := 9) (ret := none) (by decide) rfl ?_
  intro p e s m args below meth c s₁ B hml hv
  obtain ⟨hargs, hsz, hP, hK, hD0, hT⟩ := hv
  have hx := B.exec
  have hb := B.bytes
  have hr := B.returns
  have htb : ∀ w ∈ TB, w.before args s = true := fun w h => atoms_spec (ws := Cond.code yX12_work cX12_work 9 none :: TB) B.pre w (List.mem_cons_of_mem _ h)
  have hown : s.vm.findClass "ManyEyesModel" = some m.cls := findClass_of_methodNamed B.named
  have hlocks := B.notSynchronized
  subst hsz
  have hD := hD0.self (sz := s.heap.size)
  generalize hAe : va_A (WS_X12_work cI cJ cZ cY a0 a0_a a0_image a0_texts a0_board a0_taken a0_fars a0_before a0_tape a0_pile a0_rows a0_told a0_values a0_truth a0_keeps v0) s.heap.size = A at hD hT ⊢
  have hA : ∀ q : Nat, s.heap.size ≤ q → A q := fun q h => by rw [← hAe]; exact Or.inr h
  have hS : va_S A s.heap s.heap [] := va_S.rf
  have hl := lv_entry ([.ref a0, .int p0, .int p1, .int p2]) (n := 9) (Nat.le_of_ble_eq_true rfl)
  have he : entryFrame m args 9 = F0 m 0 (lg_sl ([.ref a0, .int p0, .int p1, .int p2]) ++ List.replicate (9 - (lg_sl ([.ref a0, .int p0, .int p1, .int p2])).length) Slot.unset).toArray [] := by rw [hargs, lg_entry_eq]
  rw [he]
  generalize (lg_sl ([.ref a0, .int p0, .int p1, .int p2]) ++ List.replicate (9 - (lg_sl ([.ref a0, .int p0, .int p1, .int p2])).length) Slot.unset).toArray = ls at hl ⊢
  have hl : lv_has ls 9 [(0, .ref a0), (1, .int p0), (2, .int p1), (3, .int p2)] := hl
  show W p l e rm_X12_work s m args below meth c s.heap [] 0 0 _ _
  refine W.genQ (fun Q hQ => ?_)
  have b_309 : ∀ (J9 : (Int32 × Int32 × Int32 × Int32 × Int32 × BX12) → Option (BX12)) (hJ9 : ∀ (x1 : Int32) (x3 : Int32) (x4 : Int32) (x5 : Int32) (x6 : Int32) (v0 : BX12) (H : Heap) (locs : List Loc) (ls : Array Slot), va_P D vwCl (WS_X12_work cI cJ cZ cY a0 a0_a a0_image a0_texts a0_board a0_taken a0_fars a0_before a0_tape a0_pile a0_rows a0_told a0_values a0_truth a0_keeps v0) H → va_D A (WS_X12_work cI cJ cZ cY a0 a0_a a0_image a0_texts a0_board a0_taken a0_fars a0_before a0_tape a0_pile a0_rows a0_told a0_values a0_truth a0_keeps v0) → va_S A s.heap H locs → lv_has ls 9 [(0, .ref a0), (1, .int x1), (3, .int x3), (4, .int x4), (5, .int x5), (6, .int x6)] → J9 (x1, x3, x4, x5, x6, v0) = some res → W p l e rm_X12_work s m args below meth c H locs 0 0 Q (F0 m 9 ls [])), ∀ (x1 : Int32) (x3 : Int32) (x4 : Int32) (x5 : Int32) (x6 : Int32) (v0 : BX12) (H : Heap) (locs : List Loc) (ls : Array Slot), va_P D vwCl (WS_X12_work cI cJ cZ cY a0 a0_a a0_image a0_texts a0_board a0_taken a0_fars a0_before a0_tape a0_pile a0_rows a0_told a0_values a0_truth a0_keeps v0) H → va_D A (WS_X12_work cI cJ cZ cY a0 a0_a a0_image a0_texts a0_board a0_taken a0_fars a0_before a0_tape a0_pile a0_rows a0_told a0_values a0_truth a0_keeps v0) → va_S A s.heap H locs → lv_has ls 9 [(0, .ref a0), (1, .int x1), (3, .int x3), (4, .int x4), (5, .int x5), (6, .int x6)] → f_X12_work_b309 J9 x1 x3 x4 x5 x6 v0 = some res → W p l e rm_X12_work s m args below meth c H locs 0 0 Q (F0 m 309 ls []) := by
    intro J9 hJ9 x1 x3 x4 x5 x6 v0 H locs ls hP hD hS hl hg
    unfold f_X12_work_b309 at hg
    obtain ⟨x6_1, ex6_1⟩ : ∃ z : Int32, z = x6 + 1 := ⟨_, rfl⟩
    have hg := g_lte hg x6_1 ex6_1
    refine lv_iinc (v := x6_1) (lv' := [(6, .int x6_1), (0, .ref a0), (1, .int x1), (3, .int x3), (4, .int x4), (5, .int x5)]) hx hb dX12_work_309 hl (k := 5) rfl (by rw [ex6_1]; rfl) (by decide) rfl (fun ls hl => ?_)
    refine lv_goto (tgt := 9) hx hb dX12_work_312 (by decide) ?_
    exact hJ9 x1 x3 x4 x5 x6_1 v0 H locs ls hP hD hS (lv_sub hl [1, 2, 3, 4, 5, 0] rfl) hg
  have b_308 : ∀ (J9 : (Int32 × Int32 × Int32 × Int32 × Int32 × BX12) → Option (BX12)) (hJ9 : ∀ (x1 : Int32) (x3 : Int32) (x4 : Int32) (x5 : Int32) (x6 : Int32) (v0 : BX12) (H : Heap) (locs : List Loc) (ls : Array Slot), va_P D vwCl (WS_X12_work cI cJ cZ cY a0 a0_a a0_image a0_texts a0_board a0_taken a0_fars a0_before a0_tape a0_pile a0_rows a0_told a0_values a0_truth a0_keeps v0) H → va_D A (WS_X12_work cI cJ cZ cY a0 a0_a a0_image a0_texts a0_board a0_taken a0_fars a0_before a0_tape a0_pile a0_rows a0_told a0_values a0_truth a0_keeps v0) → va_S A s.heap H locs → lv_has ls 9 [(0, .ref a0), (1, .int x1), (3, .int x3), (4, .int x4), (5, .int x5), (6, .int x6)] → J9 (x1, x3, x4, x5, x6, v0) = some res → W p l e rm_X12_work s m args below meth c H locs 0 0 Q (F0 m 9 ls [])), ∀ (x1 : Int32) (x3 : Int32) (x4 : Int32) (x5 : Int32) (x6 : Int32) (t1 : Int32) (t2 : Int32) (v0 : BX12) (H : Heap) (locs : List Loc) (ls : Array Slot), va_P D vwCl (WS_X12_work cI cJ cZ cY a0 a0_a a0_image a0_texts a0_board a0_taken a0_fars a0_before a0_tape a0_pile a0_rows a0_told a0_values a0_truth a0_keeps v0) H → va_D A (WS_X12_work cI cJ cZ cY a0 a0_a a0_image a0_texts a0_board a0_taken a0_fars a0_before a0_tape a0_pile a0_rows a0_told a0_values a0_truth a0_keeps v0) → va_S A s.heap H locs → lv_has ls 9 [(0, .ref a0), (1, .int x1), (3, .int x3), (4, .int x4), (5, .int x5), (6, .int x6)] → f_X12_work_b308 J9 x1 x3 x4 x5 x6 t1 t2 v0 = some res → W p l e rm_X12_work s m args below meth c H locs 0 0 Q (F0 m 308 ls [.int t2, .int t1, .ref a0_truth]) := by
    intro J9 hJ9 x1 x3 x4 x5 x6 t1 t2 v0 H locs ls hP hD hS hl hg
    unfold f_X12_work_b308 at hg
    obtain ⟨h_2, hg⟩ := g_gde hg
    refine va_zast hx hb hK.1 hP hD hS 13 2 rfl rfl (inB_vp h_2) dX12_work_308 (fun H locs hP hD hS => ?_)
    obtain ⟨v0_3, ev0_3⟩ : ∃ z, z = sX12_truth v0 (upd (pX12_truth v0) (t1 : Int32).toNatClampNeg (vp_nar .boolean t2)) := ⟨_, rfl⟩
    have hP : va_P D vwCl (WS_X12_work cI cJ cZ cY a0 a0_a a0_image a0_texts a0_board a0_taken a0_fars a0_before a0_tape a0_pile a0_rows a0_told a0_values a0_truth a0_keeps v0_3) H := by rw [ev0_3]; exact hP
    have hD : va_D A (WS_X12_work cI cJ cZ cY a0 a0_a a0_image a0_texts a0_board a0_taken a0_fars a0_before a0_tape a0_pile a0_rows a0_told a0_values a0_truth a0_keeps v0_3) := by rw [ev0_3]; exact hD
    have hg := g_lte hg v0_3 ev0_3
    exact b_309 J9 hJ9 x1 x3 x4 x5 x6 v0_3 H locs ls hP hD hS (lv_sub hl [0, 1, 2, 3, 4, 5] rfl) hg
  have b_303 : ∀ (J9 : (Int32 × Int32 × Int32 × Int32 × Int32 × BX12) → Option (BX12)) (hJ9 : ∀ (x1 : Int32) (x3 : Int32) (x4 : Int32) (x5 : Int32) (x6 : Int32) (v0 : BX12) (H : Heap) (locs : List Loc) (ls : Array Slot), va_P D vwCl (WS_X12_work cI cJ cZ cY a0 a0_a a0_image a0_texts a0_board a0_taken a0_fars a0_before a0_tape a0_pile a0_rows a0_told a0_values a0_truth a0_keeps v0) H → va_D A (WS_X12_work cI cJ cZ cY a0 a0_a a0_image a0_texts a0_board a0_taken a0_fars a0_before a0_tape a0_pile a0_rows a0_told a0_values a0_truth a0_keeps v0) → va_S A s.heap H locs → lv_has ls 9 [(0, .ref a0), (1, .int x1), (3, .int x3), (4, .int x4), (5, .int x5), (6, .int x6)] → J9 (x1, x3, x4, x5, x6, v0) = some res → W p l e rm_X12_work s m args below meth c H locs 0 0 Q (F0 m 9 ls [])), ∀ (x1 : Int32) (x3 : Int32) (x4 : Int32) (x5 : Int32) (x6 : Int32) (t1 : Int32) (v0 : BX12) (H : Heap) (locs : List Loc) (ls : Array Slot), va_P D vwCl (WS_X12_work cI cJ cZ cY a0 a0_a a0_image a0_texts a0_board a0_taken a0_fars a0_before a0_tape a0_pile a0_rows a0_told a0_values a0_truth a0_keeps v0) H → va_D A (WS_X12_work cI cJ cZ cY a0 a0_a a0_image a0_texts a0_board a0_taken a0_fars a0_before a0_tape a0_pile a0_rows a0_told a0_values a0_truth a0_keeps v0) → va_S A s.heap H locs → lv_has ls 9 [(0, .ref a0), (1, .int x1), (3, .int x3), (4, .int x4), (5, .int x5), (6, .int x6)] → f_X12_work_b303 J9 x1 x3 x4 x5 x6 t1 v0 = some res → W p l e rm_X12_work s m args below meth c H locs 0 0 Q (F0 m 303 ls [.int t1, .ref a0_truth]) := by
    intro J9 hJ9 x1 x3 x4 x5 x6 t1 v0 H locs ls hP hD hS hl hg
    unfold f_X12_work_b303 at hg
    refine lv_iconst (v := 1) hx hb dX12_work_303 (by decide) ?_
    refine lv_goto (tgt := 308) hx hb dX12_work_304 (by decide) ?_
    exact b_308 J9 hJ9 x1 x3 x4 x5 x6 t1 1 v0 H locs ls hP hD hS (lv_sub hl [0, 1, 2, 3, 4, 5] rfl) hg
  have b_277 : ∀ (J9 : (Int32 × Int32 × Int32 × Int32 × Int32 × BX12) → Option (BX12)) (hJ9 : ∀ (x1 : Int32) (x3 : Int32) (x4 : Int32) (x5 : Int32) (x6 : Int32) (v0 : BX12) (H : Heap) (locs : List Loc) (ls : Array Slot), va_P D vwCl (WS_X12_work cI cJ cZ cY a0 a0_a a0_image a0_texts a0_board a0_taken a0_fars a0_before a0_tape a0_pile a0_rows a0_told a0_values a0_truth a0_keeps v0) H → va_D A (WS_X12_work cI cJ cZ cY a0 a0_a a0_image a0_texts a0_board a0_taken a0_fars a0_before a0_tape a0_pile a0_rows a0_told a0_values a0_truth a0_keeps v0) → va_S A s.heap H locs → lv_has ls 9 [(0, .ref a0), (1, .int x1), (3, .int x3), (4, .int x4), (5, .int x5), (6, .int x6)] → J9 (x1, x3, x4, x5, x6, v0) = some res → W p l e rm_X12_work s m args below meth c H locs 0 0 Q (F0 m 9 ls [])), ∀ (x1 : Int32) (x3 : Int32) (x4 : Int32) (x5 : Int32) (x6 : Int32) (t1 : Int32) (v0 : BX12) (H : Heap) (locs : List Loc) (ls : Array Slot), va_P D vwCl (WS_X12_work cI cJ cZ cY a0 a0_a a0_image a0_texts a0_board a0_taken a0_fars a0_before a0_tape a0_pile a0_rows a0_told a0_values a0_truth a0_keeps v0) H → va_D A (WS_X12_work cI cJ cZ cY a0 a0_a a0_image a0_texts a0_board a0_taken a0_fars a0_before a0_tape a0_pile a0_rows a0_told a0_values a0_truth a0_keeps v0) → va_S A s.heap H locs → lv_has ls 9 [(0, .ref a0), (1, .int x1), (3, .int x3), (4, .int x4), (5, .int x5), (6, .int x6)] → f_X12_work_b277 J9 x1 x3 x4 x5 x6 t1 v0 = some res → W p l e rm_X12_work s m args below meth c H locs 0 0 Q (F0 m 277 ls [.int t1, .ref a0_truth]) := by
    intro J9 hJ9 x1 x3 x4 x5 x6 t1 v0 H locs ls hP hD hS hl hg
    unfold f_X12_work_b277 at hg
    refine lv_iconst (v := 0) hx hb dX12_work_277 (by decide) ?_
    refine lv_goto (tgt := 308) hx hb dX12_work_278 (by decide) ?_
    exact b_308 J9 hJ9 x1 x3 x4 x5 x6 t1 0 v0 H locs ls hP hD hS (lv_sub hl [0, 1, 2, 3, 4, 5] rfl) hg
  have b_229 : ∀ (J9 : (Int32 × Int32 × Int32 × Int32 × Int32 × BX12) → Option (BX12)) (hJ9 : ∀ (x1 : Int32) (x3 : Int32) (x4 : Int32) (x5 : Int32) (x6 : Int32) (v0 : BX12) (H : Heap) (locs : List Loc) (ls : Array Slot), va_P D vwCl (WS_X12_work cI cJ cZ cY a0 a0_a a0_image a0_texts a0_board a0_taken a0_fars a0_before a0_tape a0_pile a0_rows a0_told a0_values a0_truth a0_keeps v0) H → va_D A (WS_X12_work cI cJ cZ cY a0 a0_a a0_image a0_texts a0_board a0_taken a0_fars a0_before a0_tape a0_pile a0_rows a0_told a0_values a0_truth a0_keeps v0) → va_S A s.heap H locs → lv_has ls 9 [(0, .ref a0), (1, .int x1), (3, .int x3), (4, .int x4), (5, .int x5), (6, .int x6)] → J9 (x1, x3, x4, x5, x6, v0) = some res → W p l e rm_X12_work s m args below meth c H locs 0 0 Q (F0 m 9 ls [])), ∀ (x1 : Int32) (x3 : Int32) (x4 : Int32) (x5 : Int32) (x6 : Int32) (t1 : Int32) (t2 : Int32) (v0 : BX12) (H : Heap) (locs : List Loc) (ls : Array Slot), va_P D vwCl (WS_X12_work cI cJ cZ cY a0 a0_a a0_image a0_texts a0_board a0_taken a0_fars a0_before a0_tape a0_pile a0_rows a0_told a0_values a0_truth a0_keeps v0) H → va_D A (WS_X12_work cI cJ cZ cY a0 a0_a a0_image a0_texts a0_board a0_taken a0_fars a0_before a0_tape a0_pile a0_rows a0_told a0_values a0_truth a0_keeps v0) → va_S A s.heap H locs → lv_has ls 9 [(0, .ref a0), (1, .int x1), (3, .int x3), (4, .int x4), (5, .int x5), (6, .int x6)] → f_X12_work_b229 J9 x1 x3 x4 x5 x6 t1 t2 v0 = some res → W p l e rm_X12_work s m args below meth c H locs 0 0 Q (F0 m 229 ls [.int t2, .int t1, .ref a0_truth]) := by
    intro J9 hJ9 x1 x3 x4 x5 x6 t1 t2 v0 H locs ls hP hD hS hl hg
    unfold f_X12_work_b229 at hg
    obtain ⟨h_4, hg⟩ := g_gde hg
    refine va_zast hx hb hK.1 hP hD hS 13 2 rfl rfl (inB_vp h_4) dX12_work_229 (fun H locs hP hD hS => ?_)
    obtain ⟨v0_5, ev0_5⟩ : ∃ z, z = sX12_truth v0 (upd (pX12_truth v0) (t1 : Int32).toNatClampNeg (vp_nar .boolean t2)) := ⟨_, rfl⟩
    have hP : va_P D vwCl (WS_X12_work cI cJ cZ cY a0 a0_a a0_image a0_texts a0_board a0_taken a0_fars a0_before a0_tape a0_pile a0_rows a0_told a0_values a0_truth a0_keeps v0_5) H := by rw [ev0_5]; exact hP
    have hD : va_D A (WS_X12_work cI cJ cZ cY a0 a0_a a0_image a0_texts a0_board a0_taken a0_fars a0_before a0_tape a0_pile a0_rows a0_told a0_values a0_truth a0_keeps v0_5) := by rw [ev0_5]; exact hD
    have hg := g_lte hg v0_5 ev0_5
    refine lv_goto (tgt := 309) hx hb dX12_work_230 (by decide) ?_
    exact b_309 J9 hJ9 x1 x3 x4 x5 x6 v0_5 H locs ls hP hD hS (lv_sub hl [0, 1, 2, 3, 4, 5] rfl) hg
  have b_56 : ∀ (J9 : (Int32 × Int32 × Int32 × Int32 × Int32 × BX12) → Option (BX12)) (hJ9 : ∀ (x1 : Int32) (x3 : Int32) (x4 : Int32) (x5 : Int32) (x6 : Int32) (v0 : BX12) (H : Heap) (locs : List Loc) (ls : Array Slot), va_P D vwCl (WS_X12_work cI cJ cZ cY a0 a0_a a0_image a0_texts a0_board a0_taken a0_fars a0_before a0_tape a0_pile a0_rows a0_told a0_values a0_truth a0_keeps v0) H → va_D A (WS_X12_work cI cJ cZ cY a0 a0_a a0_image a0_texts a0_board a0_taken a0_fars a0_before a0_tape a0_pile a0_rows a0_told a0_values a0_truth a0_keeps v0) → va_S A s.heap H locs → lv_has ls 9 [(0, .ref a0), (1, .int x1), (3, .int x3), (4, .int x4), (5, .int x5), (6, .int x6)] → J9 (x1, x3, x4, x5, x6, v0) = some res → W p l e rm_X12_work s m args below meth c H locs 0 0 Q (F0 m 9 ls [])), ∀ (x1 : Int32) (x3 : Int32) (x4 : Int32) (x5 : Int32) (x6 : Int32) (x7 : Int32) (x8 : Int32) (v0 : BX12) (H : Heap) (locs : List Loc) (ls : Array Slot), va_P D vwCl (WS_X12_work cI cJ cZ cY a0 a0_a a0_image a0_texts a0_board a0_taken a0_fars a0_before a0_tape a0_pile a0_rows a0_told a0_values a0_truth a0_keeps v0) H → va_D A (WS_X12_work cI cJ cZ cY a0 a0_a a0_image a0_texts a0_board a0_taken a0_fars a0_before a0_tape a0_pile a0_rows a0_told a0_values a0_truth a0_keeps v0) → va_S A s.heap H locs → lv_has ls 9 [(0, .ref a0), (1, .int x1), (3, .int x3), (4, .int x4), (5, .int x5), (6, .int x6), (7, .int x7), (8, .int x8)] → f_X12_work_b56 J9 x1 x3 x4 x5 x6 x7 x8 v0 = some res → W p l e rm_X12_work s m args below meth c H locs 0 0 Q (F0 m 56 ls []) := by
    intro J9 hJ9 x1 x3 x4 x5 x6 x7 x8 v0 H locs ls hP hD hS hl hg
    unfold f_X12_work_b56 at hg
    refine lv_aload_n hx hb dX12_work_56 rfl (lv_at hl 0 rfl) ?_
    refine va_get (ci := 11) (v := .ref a0_values) (C := RX12) (T := TX12) (N := 43) hx hb htb uX12 hown hK.1 hP 0 rfl rfl 37 (by decide) (htb _ tg_973) (fun _ h9 => h9) rfl dX12_work_57 ?_
    refine lv_iload hx hb dX12_work_60 (lv_at hl 3 rfl) ?_
    refine lv_aload_n hx hb dX12_work_62 rfl (lv_at hl 0 rfl) ?_
    refine lv_aload_n hx hb dX12_work_63 rfl (lv_at hl 0 rfl) ?_
    refine lv_iload hx hb dX12_work_64 (lv_at hl 6 rfl) ?_
    refine lv_iload hx hb dX12_work_66 (lv_at hl 7 rfl) ?_
    obtain ⟨r_6, hr_6, hg⟩ := g_bd hg
    refine cc_l (va_runV (C := RX12) (As := [.int x7, .int x8]) (rest := [.ref a0, .int x4, .ref a0_values]) ⟨hx, hb, hml, hown, htb⟩ (k_X12_valueOf a0 a0_a a0_image a0_texts a0_board a0_taken a0_fars a0_before a0_tape a0_pile a0_rows a0_told a0_values a0_truth a0_keeps v0 x7 x8 r_6 hr_6) (cw_V 2 htb tg_1330 tg_13 tg_1327 tg_1329 ts_67 rfl rfl (by decide +kernel) ⟨Nat.le_of_ble_eq_true rfl, Nat.le_of_ble_eq_true rfl⟩) ⟨PC.blind, va_recv hK.1 hP (ci := 11) (q0 := 0) rfl rfl, PC.pre hK hT hP hD hS hA [0, 1, 2, 3, 4, 5, 6, 7, 8, 9, 10, 11, 12, 13, 14] rfl (by decide)⟩ rfl rfl hl.1 rfl (lv_room (Nat.le_of_ble_eq_true rfl)) dX12_work_68 ⟨Nat.le_of_ble_eq_true rfl, Nat.le_of_ble_eq_true rfl⟩) hP hD hS hA [0, 1, 2, 3, 4, 5, 6, 7, 8, 9, 10, 11, 12, 13, 14] [] rfl rfl (by decide) (by decide) (fun r9 u9 H locs hw hP hD hS => ?_)
    have hw := hw.symm
    subst hw
    have hP : va_P D vwCl (WS_X12_work cI cJ cZ cY a0 a0_a a0_image a0_texts a0_board a0_taken a0_fars a0_before a0_tape a0_pile a0_rows a0_told a0_values a0_truth a0_keeps v0) H := hP.sub [0, 1, 2, 3, 4, 5, 6, 7, 8, 9, 10, 11, 12, 13, 14] rfl
    have hD : va_D A (WS_X12_work cI cJ cZ cY a0 a0_a a0_image a0_texts a0_board a0_taken a0_fars a0_before a0_tape a0_pile a0_rows a0_told a0_values a0_truth a0_keeps v0) := hD.sub [0, 1, 2, 3, 4, 5, 6, 7, 8, 9, 10, 11, 12, 13, 14] (by decide) rfl
    obtain ⟨r_7, hr_7, hg⟩ := g_bd hg
    refine cc_l (va_runV (C := RX12) (As := [.long r_6]) (rest := [.int x4, .ref a0_values]) ⟨hx, hb, hml, hown, htb⟩ (k_X12_bring a0 a0_a a0_image a0_texts a0_board a0_taken a0_fars a0_before a0_tape a0_pile a0_rows a0_told a0_values a0_truth a0_keeps v0 r_6 r_7 hr_7) (cw_V 1 htb tg_1334 tg_13 tg_1331 tg_1333 ts_68 rfl rfl (by decide +kernel) ⟨Nat.le_of_ble_eq_true rfl, Nat.le_of_ble_eq_true rfl⟩) ⟨PC.blind, va_recv hK.1 hP (ci := 11) (q0 := 0) rfl rfl, PC.pre hK hT hP hD hS hA [0, 1, 2, 3, 4, 5, 6, 7, 8, 9, 10, 11, 12, 13, 14] rfl (by decide)⟩ rfl rfl hl.1 rfl (lv_room (Nat.le_of_ble_eq_true rfl)) dX12_work_71 ⟨Nat.le_of_ble_eq_true rfl, Nat.le_of_ble_eq_true rfl⟩) hP hD hS hA [0, 1, 2, 3, 4, 5, 6, 7, 8, 9, 10, 11, 12, 13, 14] [] rfl rfl (by decide) (by decide) (fun r9 u9 H locs hw hP hD hS => ?_)
    obtain ⟨rfl, rfl⟩ := hw
    have hP : va_P D vwCl (WS_X12_work cI cJ cZ cY a0 a0_a a0_image a0_texts a0_board a0_taken a0_fars a0_before a0_tape a0_pile a0_rows a0_told a0_values a0_truth a0_keeps r_7.2) H := hP.sub [0, 1, 2, 3, 4, 5, 6, 7, 8, 9, 10, 11, 12, 13, 14] rfl
    have hD : va_D A (WS_X12_work cI cJ cZ cY a0 a0_a a0_image a0_texts a0_board a0_taken a0_fars a0_before a0_tape a0_pile a0_rows a0_told a0_values a0_truth a0_keeps r_7.2) := hD.sub [0, 1, 2, 3, 4, 5, 6, 7, 8, 9, 10, 11, 12, 13, 14] (by decide) rfl
    obtain ⟨h_8, hg⟩ := g_gde hg
    refine va_last hx hb hK.1 hP hD hS 12 1 rfl rfl (inB_vp h_8) dX12_work_74 (fun H locs hP hD hS => ?_)
    obtain ⟨v0_9, ev0_9⟩ : ∃ z, z = sX12_values r_7.2 (vp_updL (pX12_values r_7.2) (x4 : Int32).toNatClampNeg r_7.1) := ⟨_, rfl⟩
    have hP : va_P D vwCl (WS_X12_work cI cJ cZ cY a0 a0_a a0_image a0_texts a0_board a0_taken a0_fars a0_before a0_tape a0_pile a0_rows a0_told a0_values a0_truth a0_keeps v0_9) H := by rw [ev0_9]; exact hP
    have hD : va_D A (WS_X12_work cI cJ cZ cY a0 a0_a a0_image a0_texts a0_board a0_taken a0_fars a0_before a0_tape a0_pile a0_rows a0_told a0_values a0_truth a0_keeps v0_9) := by rw [ev0_9]; exact hD
    have hg := g_lte hg v0_9 ev0_9
    obtain ⟨x4_10, ex4_10⟩ : ∃ z : Int32, z = x4 + 1 := ⟨_, rfl⟩
    have hg := g_lte hg x4_10 ex4_10
    refine lv_iinc (v := x4_10) (lv' := [(4, .int x4_10), (0, .ref a0), (1, .int x1), (3, .int x3), (5, .int x5), (6, .int x6), (7, .int x7), (8, .int x8)]) hx hb dX12_work_75 hl (k := 3) rfl (by rw [ex4_10]; rfl) (by decide) rfl (fun ls hl => ?_)
    refine lv_goto (tgt := 309) hx hb dX12_work_78 (by decide) ?_
    exact b_309 J9 hJ9 x1 x3 x4_10 x5 x6 v0_9 H locs ls hP hD hS (lv_sub hl [1, 2, 3, 0, 4, 5] rfl) hg
  have b_9 : ∀ (n : Nat), ∀ (x1 : Int32) (x3 : Int32) (x4 : Int32) (x5 : Int32) (x6 : Int32) (v0 : BX12) (H : Heap) (locs : List Loc) (ls : Array Slot), va_P D vwCl (WS_X12_work cI cJ cZ cY a0 a0_a a0_image a0_texts a0_board a0_taken a0_fars a0_before a0_tape a0_pile a0_rows a0_told a0_values a0_truth a0_keeps v0) H → va_D A (WS_X12_work cI cJ cZ cY a0 a0_a a0_image a0_texts a0_board a0_taken a0_fars a0_before a0_tape a0_pile a0_rows a0_told a0_values a0_truth a0_keeps v0) → va_S A s.heap H locs → lv_has ls 9 [(0, .ref a0), (1, .int x1), (3, .int x3), (4, .int x4), (5, .int x5), (6, .int x6)] → f_X12_work_b9 n (x1, x3, x4, x5, x6, v0) = some res → W p l e rm_X12_work s m args below meth c H locs 0 0 Q (F0 m 9 ls []) := by
    intro n
    induction n with
    | zero =>
      intro x1 x3 x4 x5 x6 v0 H locs ls hP hD hS hl hg
      exact (g_lp0 hg).elim
    | succ n ih =>
      intro x1 x3 x4 x5 x6 v0 H locs ls hP hD hS hl hg
      have hg : f_X12_work_b9B (f_X12_work_b9 n) x1 x3 x4 x5 x6 v0 = some res := hg
      unfold f_X12_work_b9B at hg
      refine lv_iload hx hb dX12_work_9 (lv_at hl 5 rfl) ?_
      refine lv_iload_n hx hb dX12_work_11 rfl (lv_at hl 2 rfl) ?_
      refine lv_icmp_ge (tgt := 315) hx hb dX12_work_12 (by decide) (fun c_11 => ?_) (fun c_11 => ?_)
      · have hg := g_it hg c_11
        have hg := Option.some.inj hg
        rw [hQ]
        exact W.vret hx hb hr (fun t ht hW => ⟨⟨(v0), rfl, hg, by rw [ht]; exact hP, hD⟩, hS.F ht⟩) hS.2.2 dX12_work_315
      · have hg := g_if hg c_11
        refine lv_aload_n hx hb dX12_work_15 rfl (lv_at hl 0 rfl) ?_
        refine va_get (ci := 11) (v := .ref a0_texts) (C := RX12) (T := TX12) (N := 43) hx hb htb uX12 hown hK.1 hP 0 rfl rfl 4 (by decide) (htb _ tg_940) (fun _ h9 => h9) rfl dX12_work_16 ?_
        refine lv_iload_n hx hb dX12_work_19 rfl (lv_at hl 1 rfl) ?_
        refine lv_iconst (v := 2) hx hb dX12_work_20 (by decide) ?_
        refine lv_iload hx hb dX12_work_21 (lv_at hl 5 rfl) ?_
        refine lv_imul hx hb dX12_work_23 ?_
        refine lv_iadd hx hb dX12_work_24 ?_
        obtain ⟨h_12, hg⟩ := g_gde hg
        refine va_iald hx hb hK.1 hP 3 0 rfl rfl (inB_vp h_12) dX12_work_25 ?_
        refine lv_topi (fun x7_13 ex7_13 => ?_)
        have hg := g_lte hg x7_13 ex7_13
        refine lv_istore (lv' := [(7, .int x7_13), (0, .ref a0), (1, .int x1), (3, .int x3), (4, .int x4), (5, .int x5), (6, .int x6)]) hx hb dX12_work_26 hl (by decide) rfl (fun ls hl => ?_)
        refine lv_aload_n hx hb dX12_work_28 rfl (lv_at hl 1 rfl) ?_
        refine va_get (ci := 11) (v := .ref a0_texts) (C := RX12) (T := TX12) (N := 43) hx hb htb uX12 hown hK.1 hP 0 rfl rfl 4 (by decide) (htb _ tg_940) (fun _ h9 => h9) rfl dX12_work_29 ?_
        refine lv_iload_n hx hb dX12_work_32 rfl (lv_at hl 2 rfl) ?_
        refine lv_iconst (v := 2) hx hb dX12_work_33 (by decide) ?_
        refine lv_iload hx hb dX12_work_34 (lv_at hl 6 rfl) ?_
        refine lv_imul hx hb dX12_work_36 ?_
        refine lv_iadd hx hb dX12_work_37 ?_
        refine lv_iconst (v := 1) hx hb dX12_work_38 (by decide) ?_
        refine lv_iadd hx hb dX12_work_39 ?_
        obtain ⟨h_14, hg⟩ := g_gde hg
        refine va_iald hx hb hK.1 hP 3 0 rfl rfl (inB_vp h_14) dX12_work_40 ?_
        refine lv_topi (fun x8_15 ex8_15 => ?_)
        have hg := g_lte hg x8_15 ex8_15
        refine lv_istore (lv' := [(8, .int x8_15), (7, .int x7_13), (0, .ref a0), (1, .int x1), (3, .int x3), (4, .int x4), (5, .int x5), (6, .int x6)]) hx hb dX12_work_41 hl (by decide) rfl (fun ls hl => ?_)
        refine lv_iload hx hb dX12_work_43 (lv_at hl 1 rfl) ?_
        refine lv_iconst (v := 1) hx hb dX12_work_45 (by decide) ?_
        refine lv_icmp_le (tgt := 56) hx hb dX12_work_46 (by decide) (fun c_16 => ?_) (fun c_16 => ?_)
        · have hg := g_it hg c_16
          exact b_56 (f_X12_work_b9 n) ih x1 x3 x4 x5 x6 x7_13 x8_15 v0 H locs ls hP hD hS (lv_sub hl [2, 3, 4, 5, 6, 7, 1, 0] rfl) hg
        · have hg := g_if hg c_16
          refine lv_iload hx hb dX12_work_49 (lv_at hl 1 rfl) ?_
          refine lv_bipush (v := 30) hx hb dX12_work_51 (by decide) ?_
          refine lv_icmp_lt (tgt := 81) hx hb dX12_work_53 (by decide) (fun c_17 => ?_) (fun c_17 => ?_)
          · have hg := g_it hg c_17
            refine lv_iload hx hb dX12_work_81 (lv_at hl 1 rfl) ?_
            refine lv_iconst (v := 2) hx hb dX12_work_83 (by decide) ?_
            refine lv_icmp_ne (tgt := 109) hx hb dX12_work_84 (by decide) (fun c_18 => ?_) (fun c_18 => ?_)
            · have hg := g_if hg c_18
              refine lv_iload hx hb dX12_work_109 (lv_at hl 1 rfl) ?_
              refine lv_bipush (v := 10) hx hb dX12_work_111 (by decide) ?_
              refine lv_icmp_ge (tgt := 153) hx hb dX12_work_113 (by decide) (fun c_19 => ?_) (fun c_19 => ?_)
              · have hg := g_it hg c_19
                refine lv_iload hx hb dX12_work_153 (lv_at hl 1 rfl) ?_
                refine lv_bipush (v := 20) hx hb dX12_work_155 (by decide) ?_
                refine lv_icmp_ge (tgt := 197) hx hb dX12_work_157 (by decide) (fun c_20 => ?_) (fun c_20 => ?_)
                · have hg := g_it hg c_20
                  refine lv_iload hx hb dX12_work_197 (lv_at hl 1 rfl) ?_
                  refine lv_bipush (v := 20) hx hb dX12_work_199 (by decide) ?_
                  refine lv_icmp_ne (tgt := 233) hx hb dX12_work_201 (by decide) (fun c_21 => ?_) (fun c_21 => ?_)
                  · have hg := g_if hg c_21
                    obtain ⟨x5_22, ex5_22⟩ : ∃ z : Int32, z = x5 + (-1) := ⟨_, rfl⟩
                    have hg := g_lte hg x5_22 ex5_22
                    refine lv_iinc (v := x5_22) (lv' := [(5, .int x5_22), (8, .int x8_15), (7, .int x7_13), (0, .ref a0), (1, .int x1), (3, .int x3), (4, .int x4), (6, .int x6)]) hx hb dX12_work_233 hl (k := 6) rfl (by rw [ex5_22]; rfl) (by decide) rfl (fun ls hl => ?_)
                    refine lv_aload_n hx hb dX12_work_236 rfl (lv_at hl 3 rfl) ?_
                    refine va_get (ci := 11) (v := .ref a0_truth) (C := RX12) (T := TX12) (N := 43) hx hb htb uX12 hown hK.1 hP 0 rfl rfl 38 (by decide) (htb _ tg_974) (fun _ h9 => h9) rfl dX12_work_237 ?_
                    refine lv_iload hx hb dX12_work_240 (lv_at hl 0 rfl) ?_
                    refine lv_iconst (v := 1) hx hb dX12_work_242 (by decide) ?_
                    refine lv_isub hx hb dX12_work_243 ?_
                    refine lv_iload hx hb dX12_work_244 (lv_at hl 2 rfl) ?_
                    refine lv_bipush (v := 21) hx hb dX12_work_246 (by decide) ?_
                    refine lv_icmp_ne (tgt := 281) hx hb dX12_work_248 (by decide) (fun c_23 => ?_) (fun c_23 => ?_)
                    · have hg := g_if hg c_23
                      refine lv_aload_n hx hb dX12_work_281 rfl (lv_at hl 3 rfl) ?_
                      refine va_get (ci := 11) (v := .ref a0_truth) (C := RX12) (T := TX12) (N := 43) hx hb htb uX12 hown hK.1 hP 0 rfl rfl 38 (by decide) (htb _ tg_974) (fun _ h9 => h9) rfl dX12_work_282 ?_
                      refine lv_iload hx hb dX12_work_285 (lv_at hl 0 rfl) ?_
                      refine lv_iconst (v := 1) hx hb dX12_work_287 (by decide) ?_
                      refine lv_isub hx hb dX12_work_288 ?_
                      obtain ⟨h_24, hg⟩ := g_gde hg
                      refine va_zald hx hb hK.1 hP 13 2 rfl rfl (inB_vp h_24) dX12_work_289 ?_
                      refine lv_if_ne (tgt := 303) hx hb dX12_work_290 (by decide) (fun c_25 => ?_) (fun c_25 => ?_)
                      · have hg := g_if hg c_25
                        exact b_303 (f_X12_work_b9 n) ih x1 x3 x4 x5_22 x6 (x5_22 - 1) v0 H locs ls hP hD hS (lv_sub hl [3, 4, 5, 6, 0, 7] rfl) hg
                      · have hg := g_it hg c_25
                        refine lv_aload_n hx hb dX12_work_293 rfl (lv_at hl 3 rfl) ?_
                        refine va_get (ci := 11) (v := .ref a0_truth) (C := RX12) (T := TX12) (N := 43) hx hb htb uX12 hown hK.1 hP 0 rfl rfl 38 (by decide) (htb _ tg_974) (fun _ h9 => h9) rfl dX12_work_294 ?_
                        refine lv_iload hx hb dX12_work_297 (lv_at hl 0 rfl) ?_
                        obtain ⟨h_26, hg⟩ := g_gde hg
                        refine va_zald hx hb hK.1 hP 13 2 rfl rfl (inB_vp h_26) dX12_work_299 ?_
                        refine lv_if_eq (tgt := 307) hx hb dX12_work_300 (by decide) (fun c_27 => ?_) (fun c_27 => ?_)
                        · have hg := g_it hg c_27
                          refine lv_iconst (v := 0) hx hb dX12_work_307 (by decide) ?_
                          exact b_308 (f_X12_work_b9 n) ih x1 x3 x4 x5_22 x6 (x5_22 - 1) 0 v0 H locs ls hP hD hS (lv_sub hl [3, 4, 5, 6, 0, 7] rfl) hg
                        · have hg := g_if hg c_27
                          exact b_303 (f_X12_work_b9 n) ih x1 x3 x4 x5_22 x6 (x5_22 - 1) v0 H locs ls hP hD hS (lv_sub hl [3, 4, 5, 6, 0, 7] rfl) hg
                    · have hg := g_it hg c_23
                      refine lv_aload_n hx hb dX12_work_251 rfl (lv_at hl 3 rfl) ?_
                      refine va_get (ci := 11) (v := .ref a0_truth) (C := RX12) (T := TX12) (N := 43) hx hb htb uX12 hown hK.1 hP 0 rfl rfl 38 (by decide) (htb _ tg_974) (fun _ h9 => h9) rfl dX12_work_252 ?_
                      refine lv_iload hx hb dX12_work_255 (lv_at hl 0 rfl) ?_
                      refine lv_iconst (v := 1) hx hb dX12_work_257 (by decide) ?_
                      refine lv_isub hx hb dX12_work_258 ?_
                      obtain ⟨h_28, hg⟩ := g_gde hg
                      refine va_zald hx hb hK.1 hP 13 2 rfl rfl (inB_vp h_28) dX12_work_259 ?_
                      refine lv_if_eq (tgt := 277) hx hb dX12_work_260 (by decide) (fun c_29 => ?_) (fun c_29 => ?_)
                      · have hg := g_it hg c_29
                        exact b_277 (f_X12_work_b9 n) ih x1 x3 x4 x5_22 x6 (x5_22 - 1) v0 H locs ls hP hD hS (lv_sub hl [3, 4, 5, 6, 0, 7] rfl) hg
                      · have hg := g_if hg c_29
                        refine lv_aload_n hx hb dX12_work_263 rfl (lv_at hl 3 rfl) ?_
                        refine va_get (ci := 11) (v := .ref a0_truth) (C := RX12) (T := TX12) (N := 43) hx hb htb uX12 hown hK.1 hP 0 rfl rfl 38 (by decide) (htb _ tg_974) (fun _ h9 => h9) rfl dX12_work_264 ?_
                        refine lv_iload hx hb dX12_work_267 (lv_at hl 0 rfl) ?_
                        obtain ⟨h_30, hg⟩ := g_gde hg
                        refine va_zald hx hb hK.1 hP 13 2 rfl rfl (inB_vp h_30) dX12_work_269 ?_
                        refine lv_if_eq (tgt := 277) hx hb dX12_work_270 (by decide) (fun c_31 => ?_) (fun c_31 => ?_)
                        · have hg := g_it hg c_31
                          exact b_277 (f_X12_work_b9 n) ih x1 x3 x4 x5_22 x6 (x5_22 - 1) v0 H locs ls hP hD hS (lv_sub hl [3, 4, 5, 6, 0, 7] rfl) hg
                        · have hg := g_if hg c_31
                          refine lv_iconst (v := 1) hx hb dX12_work_273 (by decide) ?_
                          refine lv_goto (tgt := 308) hx hb dX12_work_274 (by decide) ?_
                          exact b_308 (f_X12_work_b9 n) ih x1 x3 x4 x5_22 x6 (x5_22 - 1) 1 v0 H locs ls hP hD hS (lv_sub hl [3, 4, 5, 6, 0, 7] rfl) hg
                  · have hg := g_it hg c_21
                    refine lv_aload_n hx hb dX12_work_204 rfl (lv_at hl 2 rfl) ?_
                    refine va_get (ci := 11) (v := .ref a0_truth) (C := RX12) (T := TX12) (N := 43) hx hb htb uX12 hown hK.1 hP 0 rfl rfl 38 (by decide) (htb _ tg_974) (fun _ h9 => h9) rfl dX12_work_205 ?_
                    refine lv_iload hx hb dX12_work_208 (lv_at hl 6 rfl) ?_
                    refine lv_iconst (v := 1) hx hb dX12_work_210 (by decide) ?_
                    refine lv_isub hx hb dX12_work_211 ?_
                    refine lv_aload_n hx hb dX12_work_212 rfl (lv_at hl 2 rfl) ?_
                    refine va_get (ci := 11) (v := .ref a0_truth) (C := RX12) (T := TX12) (N := 43) hx hb htb uX12 hown hK.1 hP 0 rfl rfl 38 (by decide) (htb _ tg_974) (fun _ h9 => h9) rfl dX12_work_213 ?_
                    refine lv_iload hx hb dX12_work_216 (lv_at hl 6 rfl) ?_
                    refine lv_iconst (v := 1) hx hb dX12_work_218 (by decide) ?_
                    refine lv_isub hx hb dX12_work_219 ?_
                    obtain ⟨h_32, hg⟩ := g_gde hg
                    refine va_zald hx hb hK.1 hP 13 2 rfl rfl (inB_vp h_32) dX12_work_220 ?_
                    refine lv_if_ne (tgt := 228) hx hb dX12_work_221 (by decide) (fun c_33 => ?_) (fun c_33 => ?_)
                    · have hg := g_if hg c_33
                      refine lv_iconst (v := 0) hx hb dX12_work_228 (by decide) ?_
                      exact b_229 (f_X12_work_b9 n) ih x1 x3 x4 x5 x6 (x5 - 1) 0 v0 H locs ls hP hD hS (lv_sub hl [2, 3, 4, 5, 6, 7] rfl) hg
                    · have hg := g_it hg c_33
                      refine lv_iconst (v := 1) hx hb dX12_work_224 (by decide) ?_
                      refine lv_goto (tgt := 229) hx hb dX12_work_225 (by decide) ?_
                      exact b_229 (f_X12_work_b9 n) ih x1 x3 x4 x5 x6 (x5 - 1) 1 v0 H locs ls hP hD hS (lv_sub hl [2, 3, 4, 5, 6, 7] rfl) hg
                · have hg := g_if hg c_20
                  obtain ⟨x4_34, ex4_34⟩ : ∃ z : Int32, z = x4 + (-2) := ⟨_, rfl⟩
                  have hg := g_lte hg x4_34 ex4_34
                  refine lv_iinc (v := x4_34) (lv' := [(4, .int x4_34), (8, .int x8_15), (7, .int x7_13), (0, .ref a0), (1, .int x1), (3, .int x3), (5, .int x5), (6, .int x6)]) hx hb dX12_work_160 hl (k := 5) rfl (by rw [ex4_34]; rfl) (by decide) rfl (fun ls hl => ?_)
                  refine lv_aload_n hx hb dX12_work_163 rfl (lv_at hl 3 rfl) ?_
                  refine va_get (ci := 11) (v := .ref a0_truth) (C := RX12) (T := TX12) (N := 43) hx hb htb uX12 hown hK.1 hP 0 rfl rfl 38 (by decide) (htb _ tg_974) (fun _ h9 => h9) rfl dX12_work_164 ?_
                  refine lv_iload hx hb dX12_work_167 (lv_at hl 6 rfl) ?_
                  refine lv_iload hx hb dX12_work_169 (lv_at hl 2 rfl) ?_
                  refine lv_aload_n hx hb dX12_work_171 rfl (lv_at hl 3 rfl) ?_
                  refine va_get (ci := 11) (v := .ref a0_values) (C := RX12) (T := TX12) (N := 43) hx hb htb uX12 hown hK.1 hP 0 rfl rfl 37 (by decide) (htb _ tg_973) (fun _ h9 => h9) rfl dX12_work_172 ?_
                  refine lv_iload hx hb dX12_work_175 (lv_at hl 0 rfl) ?_
                  obtain ⟨h_35, hg⟩ := g_gde hg
                  refine va_lald hx hb hK.1 hP 12 1 rfl rfl (inB_vp h_35) dX12_work_177 ?_
                  refine lv_aload_n hx hb dX12_work_178 rfl (lv_at hl 3 rfl) ?_
                  refine va_get (ci := 11) (v := .ref a0_values) (C := RX12) (T := TX12) (N := 43) hx hb htb uX12 hown hK.1 hP 0 rfl rfl 37 (by decide) (htb _ tg_973) (fun _ h9 => h9) rfl dX12_work_179 ?_
                  refine lv_iload hx hb dX12_work_182 (lv_at hl 0 rfl) ?_
                  refine lv_iconst (v := 1) hx hb dX12_work_184 (by decide) ?_
                  refine lv_iadd hx hb dX12_work_185 ?_
                  obtain ⟨h_36, hg⟩ := g_gde hg
                  refine va_lald hx hb hK.1 hP 12 1 rfl rfl (inB_vp h_36) dX12_work_186 ?_
                  obtain ⟨r_37, hr_37, hg⟩ := g_bd hg
                  refine cc_i (va_runS (As := [.int x7_13, .long ((pX12_values v0) (x4_34 : Int32).toNatClampNeg), .long ((pX12_values v0) ((x4_34 + 1) : Int32).toNatClampNeg)]) (rest := [.int x5, .ref a0_truth]) ⟨hx, hb, hml, hown, htb⟩ (k_X12_isAsked x7_13 ((pX12_values v0) (x4_34 : Int32).toNatClampNeg) ((pX12_values v0) ((x4_34 + 1) : Int32).toNatClampNeg) r_37 hr_37) (cw_S 3 htb tg_1341 tg_13 tg_1339 tg_1340 rfl rfl (by decide +kernel) ⟨Nat.le_of_ble_eq_true rfl, Nat.le_of_ble_eq_true rfl⟩) ⟨PC.blind, PC.pre hK hT hP hD hS hA [] rfl (by decide)⟩ rfl rfl hl.1 rfl (lv_room (Nat.le_of_ble_eq_true rfl)) dX12_work_187 ⟨Nat.le_of_ble_eq_true rfl, Nat.le_of_ble_eq_true rfl⟩) hP hD hS hA [] [0, 1, 2, 3, 4, 5, 6, 7, 8, 9, 10, 11, 12, 13, 14] rfl rfl (by decide) (by decide) (fun r9 u9 H locs hw hP hD hS => ?_)
                  have hw := hw.symm
                  subst hw
                  have hP : va_P D vwCl (WS_X12_work cI cJ cZ cY a0 a0_a a0_image a0_texts a0_board a0_taken a0_fars a0_before a0_tape a0_pile a0_rows a0_told a0_values a0_truth a0_keeps v0) H := hP.sub [0, 1, 2, 3, 4, 5, 6, 7, 8, 9, 10, 11, 12, 13, 14] rfl
                  have hD : va_D A (WS_X12_work cI cJ cZ cY a0 a0_a a0_image a0_texts a0_board a0_taken a0_fars a0_before a0_tape a0_pile a0_rows a0_told a0_values a0_truth a0_keeps v0) := hD.sub [0, 1, 2, 3, 4, 5, 6, 7, 8, 9, 10, 11, 12, 13, 14] (by decide) rfl
                  obtain ⟨h_38, hg⟩ := g_gde hg
                  refine va_zast hx hb hK.1 hP hD hS 13 2 rfl rfl (inB_vp h_38) dX12_work_190 (fun H locs hP hD hS => ?_)
                  obtain ⟨v0_39, ev0_39⟩ : ∃ z, z = sX12_truth v0 (upd (pX12_truth v0) (x5 : Int32).toNatClampNeg (vp_nar .boolean r_37)) := ⟨_, rfl⟩
                  have hP : va_P D vwCl (WS_X12_work cI cJ cZ cY a0 a0_a a0_image a0_texts a0_board a0_taken a0_fars a0_before a0_tape a0_pile a0_rows a0_told a0_values a0_truth a0_keeps v0_39) H := by rw [ev0_39]; exact hP
                  have hD : va_D A (WS_X12_work cI cJ cZ cY a0 a0_a a0_image a0_texts a0_board a0_taken a0_fars a0_before a0_tape a0_pile a0_rows a0_told a0_values a0_truth a0_keeps v0_39) := by rw [ev0_39]; exact hD
                  have hg := g_lte hg v0_39 ev0_39
                  obtain ⟨x5_40, ex5_40⟩ : ∃ z : Int32, z = x5 + 1 := ⟨_, rfl⟩
                  have hg := g_lte hg x5_40 ex5_40
                  refine lv_iinc (v := x5_40) (lv' := [(5, .int x5_40), (4, .int x4_34), (8, .int x8_15), (7, .int x7_13), (0, .ref a0), (1, .int x1), (3, .int x3), (6, .int x6)]) hx hb dX12_work_191 hl (k := 6) rfl (by rw [ex5_40]; rfl) (by decide) rfl (fun ls hl => ?_)
                  refine lv_goto (tgt := 309) hx hb dX12_work_194 (by decide) ?_
                  exact b_309 (f_X12_work_b9 n) ih x1 x3 x4_34 x5_40 x6 v0_39 H locs ls hP hD hS (lv_sub hl [4, 5, 6, 1, 0, 7] rfl) hg
              · have hg := g_if hg c_19
                obtain ⟨x4_41, ex4_41⟩ : ∃ z : Int32, z = x4 + (-1) := ⟨_, rfl⟩
                have hg := g_lte hg x4_41 ex4_41
                refine lv_iinc (v := x4_41) (lv' := [(4, .int x4_41), (8, .int x8_15), (7, .int x7_13), (0, .ref a0), (1, .int x1), (3, .int x3), (5, .int x5), (6, .int x6)]) hx hb dX12_work_116 hl (k := 5) rfl (by rw [ex4_41]; rfl) (by decide) rfl (fun ls hl => ?_)
                refine lv_aload_n hx hb dX12_work_119 rfl (lv_at hl 3 rfl) ?_
                refine va_get (ci := 11) (v := .ref a0_values) (C := RX12) (T := TX12) (N := 43) hx hb htb uX12 hown hK.1 hP 0 rfl rfl 37 (by decide) (htb _ tg_973) (fun _ h9 => h9) rfl dX12_work_120 ?_
                refine lv_iload hx hb dX12_work_123 (lv_at hl 0 rfl) ?_
                refine lv_iconst (v := 1) hx hb dX12_work_125 (by decide) ?_
                refine lv_isub hx hb dX12_work_126 ?_
                refine lv_aload_n hx hb dX12_work_127 rfl (lv_at hl 3 rfl) ?_
                refine lv_iload hx hb dX12_work_128 (lv_at hl 2 rfl) ?_
                refine lv_aload_n hx hb dX12_work_130 rfl (lv_at hl 3 rfl) ?_
                refine va_get (ci := 11) (v := .ref a0_values) (C := RX12) (T := TX12) (N := 43) hx hb htb uX12 hown hK.1 hP 0 rfl rfl 37 (by decide) (htb _ tg_973) (fun _ h9 => h9) rfl dX12_work_131 ?_
                refine lv_iload hx hb dX12_work_134 (lv_at hl 0 rfl) ?_
                refine lv_iconst (v := 1) hx hb dX12_work_136 (by decide) ?_
                refine lv_isub hx hb dX12_work_137 ?_
                obtain ⟨h_42, hg⟩ := g_gde hg
                refine va_lald hx hb hK.1 hP 12 1 rfl rfl (inB_vp h_42) dX12_work_138 ?_
                refine lv_aload_n hx hb dX12_work_139 rfl (lv_at hl 3 rfl) ?_
                refine va_get (ci := 11) (v := .ref a0_values) (C := RX12) (T := TX12) (N := 43) hx hb htb uX12 hown hK.1 hP 0 rfl rfl 37 (by decide) (htb _ tg_973) (fun _ h9 => h9) rfl dX12_work_140 ?_
                refine lv_iload hx hb dX12_work_143 (lv_at hl 0 rfl) ?_
                obtain ⟨h_43, hg⟩ := g_gde hg
                refine va_lald hx hb hK.1 hP 12 1 rfl rfl (inB_vp h_43) dX12_work_145 ?_
                obtain ⟨r_44, hr_44, hg⟩ := g_bd hg
                refine cc_l (va_runV (C := RX12) (As := [.int x7_13, .long ((pX12_values v0) ((x4_41 - 1) : Int32).toNatClampNeg), .long ((pX12_values v0) (x4_41 : Int32).toNatClampNeg)]) (rest := [.int (x4_41 - 1), .ref a0_values]) ⟨hx, hb, hml, hown, htb⟩ (k_X12_two a0 a0_a a0_image a0_texts a0_board a0_taken a0_fars a0_before a0_tape a0_pile a0_rows a0_told a0_values a0_truth a0_keeps v0 x7_13 ((pX12_values v0) ((x4_41 - 1) : Int32).toNatClampNeg) ((pX12_values v0) (x4_41 : Int32).toNatClampNeg) r_44 hr_44) (cw_V 3 htb tg_1338 tg_13 tg_1335 tg_1337 ts_69 rfl rfl (by decide +kernel) ⟨Nat.le_of_ble_eq_true rfl, Nat.le_of_ble_eq_true rfl⟩) ⟨PC.blind, va_recv hK.1 hP (ci := 11) (q0 := 0) rfl rfl, PC.pre hK hT hP hD hS hA [0, 1, 2, 3, 4, 5, 6, 7, 8, 9, 10, 11, 12, 13, 14] rfl (by decide)⟩ rfl rfl hl.1 rfl (lv_room (Nat.le_of_ble_eq_true rfl)) dX12_work_146 ⟨Nat.le_of_ble_eq_true rfl, Nat.le_of_ble_eq_true rfl⟩) hP hD hS hA [0, 1, 2, 3, 4, 5, 6, 7, 8, 9, 10, 11, 12, 13, 14] [] rfl rfl (by decide) (by decide) (fun r9 u9 H locs hw hP hD hS => ?_)
                obtain ⟨rfl, rfl⟩ := hw
                have hP : va_P D vwCl (WS_X12_work cI cJ cZ cY a0 a0_a a0_image a0_texts a0_board a0_taken a0_fars a0_before a0_tape a0_pile a0_rows a0_told a0_values a0_truth a0_keeps r_44.2) H := hP.sub [0, 1, 2, 3, 4, 5, 6, 7, 8, 9, 10, 11, 12, 13, 14] rfl
                have hD : va_D A (WS_X12_work cI cJ cZ cY a0 a0_a a0_image a0_texts a0_board a0_taken a0_fars a0_before a0_tape a0_pile a0_rows a0_told a0_values a0_truth a0_keeps r_44.2) := hD.sub [0, 1, 2, 3, 4, 5, 6, 7, 8, 9, 10, 11, 12, 13, 14] (by decide) rfl
                obtain ⟨h_45, hg⟩ := g_gde hg
                refine va_last hx hb hK.1 hP hD hS 12 1 rfl rfl (inB_vp h_45) dX12_work_149 (fun H locs hP hD hS => ?_)
                obtain ⟨v0_46, ev0_46⟩ : ∃ z, z = sX12_values r_44.2 (vp_updL (pX12_values r_44.2) ((x4_41 - 1) : Int32).toNatClampNeg r_44.1) := ⟨_, rfl⟩
                have hP : va_P D vwCl (WS_X12_work cI cJ cZ cY a0 a0_a a0_image a0_texts a0_board a0_taken a0_fars a0_before a0_tape a0_pile a0_rows a0_told a0_values a0_truth a0_keeps v0_46) H := by rw [ev0_46]; exact hP
                have hD : va_D A (WS_X12_work cI cJ cZ cY a0 a0_a a0_image a0_texts a0_board a0_taken a0_fars a0_before a0_tape a0_pile a0_rows a0_told a0_values a0_truth a0_keeps v0_46) := by rw [ev0_46]; exact hD
                have hg := g_lte hg v0_46 ev0_46
                refine lv_goto (tgt := 309) hx hb dX12_work_150 (by decide) ?_
                exact b_309 (f_X12_work_b9 n) ih x1 x3 x4_41 x5 x6 v0_46 H locs ls hP hD hS (lv_sub hl [3, 4, 5, 0, 6, 7] rfl) hg
            · have hg := g_it hg c_18
              refine lv_aload_n hx hb dX12_work_87 rfl (lv_at hl 2 rfl) ?_
              refine va_get (ci := 11) (v := .ref a0_values) (C := RX12) (T := TX12) (N := 43) hx hb htb uX12 hown hK.1 hP 0 rfl rfl 37 (by decide) (htb _ tg_973) (fun _ h9 => h9) rfl dX12_work_88 ?_
              refine lv_iload hx hb dX12_work_91 (lv_at hl 5 rfl) ?_
              refine lv_iconst (v := 1) hx hb dX12_work_93 (by decide) ?_
              refine lv_isub hx hb dX12_work_94 ?_
              refine lv_aload_n hx hb dX12_work_95 rfl (lv_at hl 2 rfl) ?_
              refine va_get (ci := 11) (v := .ref a0_values) (C := RX12) (T := TX12) (N := 43) hx hb htb uX12 hown hK.1 hP 0 rfl rfl 37 (by decide) (htb _ tg_973) (fun _ h9 => h9) rfl dX12_work_96 ?_
              refine lv_iload hx hb dX12_work_99 (lv_at hl 5 rfl) ?_
              refine lv_iconst (v := 1) hx hb dX12_work_101 (by decide) ?_
              refine lv_isub hx hb dX12_work_102 ?_
              obtain ⟨h_47, hg⟩ := g_gde hg
              refine va_lald hx hb hK.1 hP 12 1 rfl rfl (inB_vp h_47) dX12_work_103 ?_
              refine lv_lneg hx hb dX12_work_104 ?_
              refine lv_topl (fun x_48 ex_48 => ?_)
              have hg := g_lte hg x_48 ex_48
              obtain ⟨h_49, hg⟩ := g_gde hg
              refine va_last hx hb hK.1 hP hD hS 12 1 rfl rfl (inB_vp h_49) dX12_work_105 (fun H locs hP hD hS => ?_)
              obtain ⟨v0_50, ev0_50⟩ : ∃ z, z = sX12_values v0 (vp_updL (pX12_values v0) ((x4 - 1) : Int32).toNatClampNeg x_48) := ⟨_, rfl⟩
              have hP : va_P D vwCl (WS_X12_work cI cJ cZ cY a0 a0_a a0_image a0_texts a0_board a0_taken a0_fars a0_before a0_tape a0_pile a0_rows a0_told a0_values a0_truth a0_keeps v0_50) H := by rw [ev0_50]; exact hP
              have hD : va_D A (WS_X12_work cI cJ cZ cY a0 a0_a a0_image a0_texts a0_board a0_taken a0_fars a0_before a0_tape a0_pile a0_rows a0_told a0_values a0_truth a0_keeps v0_50) := by rw [ev0_50]; exact hD
              have hg := g_lte hg v0_50 ev0_50
              refine lv_goto (tgt := 309) hx hb dX12_work_106 (by decide) ?_
              exact b_309 (f_X12_work_b9 n) ih x1 x3 x4 x5 x6 v0_50 H locs ls hP hD hS (lv_sub hl [2, 3, 4, 5, 6, 7] rfl) hg
          · have hg := g_if hg c_17
            exact b_56 (f_X12_work_b9 n) ih x1 x3 x4 x5 x6 x7_13 x8_15 v0 H locs ls hP hD hS (lv_sub hl [2, 3, 4, 5, 6, 7, 1, 0] rfl) hg
  generalize hHe : s.heap = H at hP ⊢
  have hS : va_S A s.heap H [] := by rw [← hHe]; exact va_S.rf
  generalize ([] : List Loc) = locs at hS ⊢
  unfold f_X12_work at hg
  refine lv_iconst (v := 0) hx hb dX12_work_0 (by decide) ?_
  refine lv_istore (lv' := [(4, .int 0), (0, .ref a0), (1, .int p0), (2, .int p1), (3, .int p2)]) hx hb dX12_work_1 hl (by decide) rfl (fun ls hl => ?_)
  refine lv_iconst (v := 0) hx hb dX12_work_3 (by decide) ?_
  refine lv_istore (lv' := [(5, .int 0), (4, .int 0), (0, .ref a0), (1, .int p0), (2, .int p1), (3, .int p2)]) hx hb dX12_work_4 hl (by decide) rfl (fun ls hl => ?_)
  refine lv_iload_n hx hb dX12_work_6 rfl (lv_at hl 4 rfl) ?_
  refine lv_istore (lv' := [(6, .int p1), (5, .int 0), (4, .int 0), (0, .ref a0), (1, .int p0), (2, .int p1), (3, .int p2)]) hx hb dX12_work_7 hl (by decide) rfl (fun ls hl => ?_)
  exact b_9 fU p0 p2 0 0 p1 v0 H locs ls hP hD hS (lv_sub hl [3, 4, 6, 2, 1, 0] rfl) hg
