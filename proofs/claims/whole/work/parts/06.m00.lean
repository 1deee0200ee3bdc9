/-! ManyEyes$Eye.allWeights(I)I -/
def WS_X1_allWeights (cI cJ cZ cY : ClassId) : va_W := []
def f_X1_allWeights (p0 : Int32) : Option (Int32) := some ((p0 + 1) * (p0 + 1))
abbrev rm_X1_allWeights : Room := { frames := 0, cells := 0, slots := 0, locals := 0 }
set_option maxHeartbeats 4000000 in
set_option maxRecDepth 100000 in
theorem k_X1_allWeights {l : Launch} {D : va_G} {cI cJ cZ cY : ClassId} {tX tY : Nat} {sz : Nat} (p0 : Int32) (res : Int32) (hg : f_X1_allWeights p0 = some res) : Met l yX1_allWeights (Cond.code yX1_allWeights cX1_allWeights 1 (some .int) :: TB) rm_X1_allWeights (PC D cI cJ cZ cY tX tY [.int p0] (WS_X1_allWeights cI cJ cZ cY) sz) (va_Qi (fun (r : Int32) (_ : Unit) => r = res) (BC D (fun _ : Unit => WS_X1_allWeights cI cJ cZ cY) (va_A (WS_X1_allWeights cI cJ cZ cY) sz)) (va_A (WS_X1_allWeights cI cJ cZ cY) sz)) 0 0 (va_A (WS_X1_allWeights cI cJ cZ cY) sz) := by
  refine Met.ofW (cc := cX1_allWeights) (maxL := 1) (ret := (some .int)) (by decide) rfl ?_
  intro p e s m args below meth c s₁ B hml hv
  obtain ⟨hargs, hsz, hP, hK, hD0, hT⟩ := hv
  have hx := B.exec
  have hb := B.bytes
  have hr := B.returns
  have htb : ∀ w ∈ TB, w.before args s = true := fun w h => atoms_spec (ws := Cond.code yX1_allWeights cX1_allWeights 1 (some .int) :: TB) B.pre w (List.mem_cons_of_mem _ h)
  have hown : s.vm.findClass "ManyEyes$Eye" = some m.cls := findClass_of_methodNamed B.named
  have hlocks := B.notSynchronized
  subst hsz
  have hD := hD0.self (sz := s.heap.size)
  generalize hAe : va_A (WS_X1_allWeights cI cJ cZ cY) s.heap.size = A at hD hT ⊢
  have hA : ∀ q : Nat, s.heap.size ≤ q → A q := fun q h => by rw [← hAe]; exact Or.inr h
  have hS : va_S A s.heap s.heap [] := va_S.rf
  have hl := lv_entry ([.int p0]) (n := 1) (Nat.le_of_ble_eq_true rfl)
  have he : entryFrame m args 1 = F0 m 0 (lg_sl ([.int p0]) ++ List.replicate (1 - (lg_sl ([.int p0])).length) Slot.unset).toArray [] := by rw [hargs, lg_entry_eq]
  rw [he]
  generalize (lg_sl ([.int p0]) ++ List.replicate (1 - (lg_sl ([.int p0])).length) Slot.unset).toArray = ls at hl ⊢
  have hl : lv_has ls 1 [(0, .int p0)] := hl
  show W p l e rm_X1_allWeights s m args below meth c s.heap [] 0 0 _ _
  refine W.genQ (fun Q hQ => ?_)
  generalize hHe : s.heap = H at hP ⊢
  have hS : va_S A s.heap H [] := by rw [← hHe]; exact va_S.rf
  generalize ([] : List Loc) = locs at hS ⊢
  unfold f_X1_allWeights at hg
  refine lv_iload_n hx hb dX1_allWeights_0 rfl (lv_at hl 0 rfl) ?_
  refine lv_iconst (v := 1) hx hb dX1_allWeights_1 (by decide) ?_
  refine lv_iadd hx hb dX1_allWeights_2 ?_
  refine lv_iload_n hx hb dX1_allWeights_3 rfl (lv_at hl 0 rfl) ?_
  refine lv_iconst (v := 1) hx hb dX1_allWeights_4 (by decide) ?_
  refine lv_iadd hx hb dX1_allWeights_5 ?_
  refine lv_imul hx hb dX1_allWeights_6 ?_
  have hg := Option.some.inj hg
  rw [hQ]
  exact W.iret (v := ((p0 + 1) * (p0 + 1))) hx hb hr (fun t ht hW => ⟨⟨((p0 + 1) * (p0 + 1)), (), rfl, hg, by rw [ht]; exact hP, hD⟩, hS.F ht⟩) hS.2.2 dX1_allWeights_7

/-! ManyEyes$Eye.weightOf(II)I -/
def WS_X1_weightOf (cI cJ cZ cY : ClassId) (a0 a0_lensSide a0_lensWidth a0_pairA a0_pairB a0_pairDelay : Nat) (v0 : BX1) : va_W := (GX1 cI cJ cZ cY a0 a0_lensSide a0_lensWidth a0_pairA a0_pairB a0_pairDelay v0)
def f_X1_weightOf (v0 : BX1) (p0 : Int32) (p1 : Int32) : Option (Int32) := g_gd (inB p0 16) (g_lt (((p1 - ((pX1_lensSide v0) (p0 : Int32).toNatClampNeg)) &&& 63) : Int32) (fun x3_2 => g_gd (inB p0 16) (some (if (0 : Int32) < ((((pX1_lensWidth v0) (p0 : Int32).toNatClampNeg) + 1) - (if (((64 : Int32) - x3_2) : Int32) < x3_2 then ((64 : Int32) - x3_2) else x3_2)) then ((((pX1_lensWidth v0) (p0 : Int32).toNatClampNeg) + 1) - (if (((64 : Int32) - x3_2) : Int32) < x3_2 then ((64 : Int32) - x3_2) else x3_2)) else 0))))
abbrev rm_X1_weightOf : Room := { frames := 1, cells := 0, slots := 0, locals := 21 }
set_option maxHeartbeats 4000000 in
set_option maxRecDepth 100000 in
theorem k_X1_weightOf {l : Launch} {D : va_G} {cI cJ cZ cY : ClassId} {tX tY : Nat} {sz : Nat} (a0 a0_lensSide a0_lensWidth a0_pairA a0_pairB a0_pairDelay : Nat) (v0 : BX1) (p0 : Int32) (p1 : Int32) (res : Int32) (hg : f_X1_weightOf v0 p0 p1 = some res) : Met l yX1_weightOf (Cond.code yX1_weightOf cX1_weightOf 4 (some .int) :: TB) rm_X1_weightOf (PC D cI cJ cZ cY tX tY [.ref a0, .int p0, .int p1] (WS_X1_weightOf cI cJ cZ cY a0 a0_lensSide a0_lensWidth a0_pairA a0_pairB a0_pairDelay v0) sz) (va_Qi (fun (r : Int32) (_ : Unit) => r = res) (BC D (fun _ : Unit => WS_X1_weightOf cI cJ cZ cY a0 a0_lensSide a0_lensWidth a0_pairA a0_pairB a0_pairDelay v0) (va_A (WS_X1_weightOf cI cJ cZ cY a0 a0_lensSide a0_lensWidth a0_pairA a0_pairB a0_pairDelay v0) sz)) (va_A (WS_X1_weightOf cI cJ cZ cY a0 a0_lensSide a0_lensWidth a0_pairA a0_pairB a0_pairDelay v0) sz)) 0 0 (va_A (WS_X1_weightOf cI cJ cZ cY a0 a0_lensSide a0_lensWidth a0_pairA a0_pairB a0_pairDelay v0) sz) := by
  refine Met.ofW (cc := cX1_weightOf) (maxL := 4) (ret := (some .int)) (by decide) rfl ?_
  intro p e s m args below meth c s₁ B hml hv
  obtain ⟨hargs, hsz, hP, hK, hD0, hT⟩ := hv
  have hx := B.exec
  have hb := B.bytes
  have hr := B.returns
  have htb : ∀ w ∈ TB, w.before args s = true := fun w h => atoms_spec (ws := Cond.code yX1_weightOf cX1_weightOf 4 (some .int) :: TB) B.pre w (List.mem_cons_of_mem _ h)
  have hown : s.vm.findClass "ManyEyes$Eye" = some m.cls := findClass_of_methodNamed B.named
  have hlocks := B.notSynchronized
  subst hsz
  have hD := hD0.self (sz := s.heap.size)
  generalize hAe : va_A (WS_X1_weightOf cI cJ cZ cY a0 a0_lensSide a0_lensWidth a0_pairA a0_pairB a0_pairDelay v0) s.heap.size = A at hD hT ⊢
  have hA : ∀ q : Nat, s.heap.size ≤ q → A q := fun q h => by rw [← hAe]; exact Or.inr h
  have hS : va_S A s.heap s.heap [] := va_S.rf
  have hl := lv_entry ([.ref a0, .int p0, .int p1]) (n := 4) (Nat.le_of_ble_eq_true rfl)
  have he : entryFrame m args 4 = F0 m 0 (lg_sl ([.ref a0, .int p0, .int p1]) ++ List.replicate (4 - (lg_sl ([.ref a0, .int p0, .int p1])).length) Slot.unset).toArray [] := by rw [hargs, lg_entry_eq]
  rw [he]
  generalize (lg_sl ([.ref a0, .int p0, .int p1]) ++ List.replicate (4 - (lg_sl ([.ref a0, .int p0, .int p1])).length) Slot.unset).toArray = ls at hl ⊢
  have hl : lv_has ls 4 [(0, .ref a0), (1, .int p0), (2, .int p1)] := hl
  show W p l e rm_X1_weightOf s m args below meth c s.heap [] 0 0 _ _
  refine W.genQ (fun Q hQ => ?_)
  generalize hHe : s.heap = H at hP ⊢
  have hS : va_S A s.heap H [] := by rw [← hHe]; exact va_S.rf
  generalize ([] : List Loc) = locs at hS ⊢
  unfold f_X1_weightOf at hg
  refine lv_iload_n hx hb dX1_weightOf_0 rfl (lv_at hl 2 rfl) ?_
  refine lv_aload_n hx hb dX1_weightOf_1 rfl (lv_at hl 0 rfl) ?_
  refine va_get (ci := 0) (v := .ref a0_lensSide) (C := RX1) (T := TX1) (N := 7) hx hb htb uX1 hown hK.1 hP 0 rfl rfl 0 (by decide) (htb _ tg_92) (fun _ h9 => h9) rfl dX1_weightOf_2 ?_
  refine lv_iload_n hx hb dX1_weightOf_5 rfl (lv_at hl 1 rfl) ?_
  obtain ⟨h_1, hg⟩ := g_gde hg
  refine va_iald hx hb hK.1 hP 1 0 rfl rfl (inB_vp h_1) dX1_weightOf_6 ?_
  refine lv_isub hx hb dX1_weightOf_7 ?_
  refine lv_bipush (v := 63) hx hb dX1_weightOf_8 (by decide) ?_
  refine lv_iand hx hb dX1_weightOf_10 ?_
  refine lv_topi (fun x3_2 ex3_2 => ?_)
  have hg := g_lte hg x3_2 ex3_2
  refine lv_istore_n (lv' := [(3, .int x3_2), (0, .ref a0), (1, .int p0), (2, .int p1)]) hx hb dX1_weightOf_11 rfl hl (by decide) rfl (fun ls hl => ?_)
  refine lv_iconst (v := 0) hx hb dX1_weightOf_12 (by decide) ?_
  refine lv_aload_n hx hb dX1_weightOf_13 rfl (lv_at hl 1 rfl) ?_
  refine va_get (ci := 0) (v := .ref a0_lensWidth) (C := RX1) (T := TX1) (N := 7) hx hb htb uX1 hown hK.1 hP 0 rfl rfl 1 (by decide) (htb _ tg_95) (fun _ h9 => h9) rfl dX1_weightOf_14 ?_
  refine lv_iload_n hx hb dX1_weightOf_17 rfl (lv_at hl 2 rfl) ?_
  obtain ⟨h_3, hg⟩ := g_gde hg
  refine va_iald hx hb hK.1 hP 2 0 rfl rfl (inB_vp h_3) dX1_weightOf_18 ?_
  refine lv_iconst (v := 1) hx hb dX1_weightOf_19 (by decide) ?_
  refine lv_iadd hx hb dX1_weightOf_20 ?_
  refine lv_iload_n hx hb dX1_weightOf_21 rfl (lv_at hl 0 rfl) ?_
  refine lv_bipush (v := 64) hx hb dX1_weightOf_22 (by decide) ?_
  refine lv_iload_n hx hb dX1_weightOf_24 rfl (lv_at hl 0 rfl) ?_
  refine lv_isub hx hb dX1_weightOf_25 ?_
  refine va_mmin hx hb (hml.trans hl.1.symm) hown (htb _ tg_550) (htb _ tg_38) (htb _ tg_4) (htb _ tg_39) (Nat.le_of_ble_eq_true rfl) (Nat.le_of_ble_eq_true rfl) (Nat.le_of_ble_eq_true rfl) (Nat.le_of_ble_eq_true rfl) dX1_weightOf_26 ?_
  refine lv_isub hx hb dX1_weightOf_29 ?_
  refine va_mmax hx hb (hml.trans hl.1.symm) hown (htb _ tg_551) (htb _ tg_41) (htb _ tg_4) (htb _ tg_42) (Nat.le_of_ble_eq_true rfl) (Nat.le_of_ble_eq_true rfl) (Nat.le_of_ble_eq_true rfl) (Nat.le_of_ble_eq_true rfl) dX1_weightOf_30 ?_
  have hg := Option.some.inj hg
  rw [hQ]
  exact W.iret (v := (if (0 : Int32) < ((((pX1_lensWidth v0) (p0 : Int32).toNatClampNeg) + 1) - (if (((64 : Int32) - x3_2) : Int32) < x3_2 then ((64 : Int32) - x3_2) else x3_2)) then ((((pX1_lensWidth v0) (p0 : Int32).toNatClampNeg) + 1) - (if (((64 : Int32) - x3_2) : Int32) < x3_2 then ((64 : Int32) - x3_2) else x3_2)) else 0)) hx hb hr (fun t ht hW => ⟨⟨(if (0 : Int32) < ((((pX1_lensWidth v0) (p0 : Int32).toNatClampNeg) + 1) - (if (((64 : Int32) - x3_2) : Int32) < x3_2 then ((64 : Int32) - x3_2) else x3_2)) then ((((pX1_lensWidth v0) (p0 : Int32).toNatClampNeg) + 1) - (if (((64 : Int32) - x3_2) : Int32) < x3_2 then ((64 : Int32) - x3_2) else x3_2)) else 0), (), rfl, hg, by rw [ht]; exact hP, hD⟩, hS.F ht⟩) hS.2.2 dX1_weightOf_33

/-! ManyEyes$Eye.lensesTo(I)I -/
def WS_X1_lensesTo (cI cJ cZ cY : ClassId) (a0 a0_lensSide a0_lensWidth a0_pairA a0_pairB a0_pairDelay : Nat) (v0 : BX1) : va_W := (GX1 cI cJ cZ cY a0 a0_lensSide a0_lensWidth a0_pairA a0_pairB a0_pairDelay v0)
def f_X1_lensesTo_b24 (v0 : BX1) (J4 : (Int32 × Int32 × Int32) → Option (Int32)) (x1 : Int32) (x2 : Int32) (x3 : Int32) : Option (Int32) := g_lt (x3 + 1 : Int32) (fun x3_1 => J4 (x1, x2, x3_1))
def f_X1_lensesTo_b4B (v0 : BX1) (J4 : Int32 × Int32 × Int32 → Option (Int32)) (x1 : Int32) (x2 : Int32) (x3 : Int32) : Option (Int32) := if ((pX1_lenses v0) : Int32) ≤ x3 then (some x2) else ((f_X1_weightOf v0 x3 x1).bind (fun r_3 => if (r_3 : Int32) ≤ 0 then (f_X1_lensesTo_b24 v0 J4 x1 x2 x3) else (g_lt (x2 + 1 : Int32) (fun x2_5 => f_X1_lensesTo_b24 v0 J4 x1 x2_5 x3))))
def f_X1_lensesTo_b4 (v0 : BX1) : Nat → (Int32 × Int32 × Int32) → Option (Int32) := g_lp (fun J z => f_X1_lensesTo_b4B v0 J z.1 z.2.1 z.2.2)
def f_X1_lensesTo (v0 : BX1) (p0 : Int32) : Option (Int32) := f_X1_lensesTo_b4 v0 fU (p0, 0, 0)
abbrev rm_X1_lensesTo : Room := { frames := 2, cells := 0, slots := 0, locals := 44 }
set_option maxHeartbeats 4000000 in
set_option maxRecDepth 100000 in
theorem k_X1_lensesTo {l : Launch} {D : va_G} {cI cJ cZ cY : ClassId} {tX tY : Nat} {sz : Nat} (a0 a0_lensSide a0_lensWidth a0_pairA a0_pairB a0_pairDelay : Nat) (v0 : BX1) (p0 : Int32) (res : Int32) (hg : f_X1_lensesTo v0 p0 = some res) : Met l yX1_lensesTo (Cond.code yX1_lensesTo cX1_lensesTo 4 (some .int) :: TB) rm_X1_lensesTo (PC D cI cJ cZ cY tX tY [.ref a0, .int p0] (WS_X1_lensesTo cI cJ cZ cY a0 a0_lensSide a0_lensWidth a0_pairA a0_pairB a0_pairDelay v0) sz) (va_Qi (fun (r : Int32) (_ : Unit) => r = res) (BC D (fun _ : Unit => WS_X1_lensesTo cI cJ cZ cY a0 a0_lensSide a0_lensWidth a0_pairA a0_pairB a0_pairDelay v0) (va_A (WS_X1_lensesTo cI cJ cZ cY a0 a0_lensSide a0_lensWidth a0_pairA a0_pairB a0_pairDelay v0) sz)) (va_A (WS_X1_lensesTo cI cJ cZ cY a0 a0_lensSide a0_lensWidth a0_pairA a0_pairB a0_pairDelay v0) sz)) 0 0 (va_A (WS_X1_lensesTo cI cJ cZ cY a0 a0_lensSide a0_lensWidth a0_pairA a0_pairB a0_pairDelay v0) sz) := by
  refine Met.ofW (cc := cX1_lensesTo) (maxL := 4) (ret := (some .int)) (by decide) rfl ?_
  intro p e s m args below meth c s₁ B hml hv
  obtain ⟨hargs, hsz, hP, hK, hD0, hT⟩ := hv
  have hx := B.exec
  have hb := B.bytes
  have hr := B.returns
  have htb : ∀ w ∈ TB, w.before args s = true := fun w h => atoms_spec (ws := Cond.code yX1_lensesTo cX1_lensesTo 4 (some .int) :: TB) B.pre w (List.mem_cons_of_mem _ h)
  have hown : s.vm.findClass "ManyEyes$Eye" = some m.cls := findClass_of_methodNamed B.named
  have hlocks := B.notSynchronized
  subst hsz
  have hD := hD0.self (sz := s.heap.size)
  generalize hAe : va_A (WS_X1_lensesTo cI cJ cZ cY a0 a0_lensSide a0_lensWidth a0_pairA a0_pairB a0_pairDelay v0) s.heap.size = A at hD hT ⊢
  have hA : ∀ q : Nat, s.heap.size ≤ q → A q := fun q h => by rw [← hAe]; exact Or.inr h
  have hS : va_S A s.heap s.heap [] := va_S.rf
  have hl := lv_entry ([.ref a0, .int p0]) (n := 4) (Nat.le_of_ble_eq_true rfl)
  have he : entryFrame m args 4 = F0 m 0 (lg_sl ([.ref a0, .int p0]) ++ List.replicate (4 - (lg_sl ([.ref a0, .int p0])).length) Slot.unset).toArray [] := by rw [hargs, lg_entry_eq]
  rw [he]
  generalize (lg_sl ([.ref a0, .int p0]) ++ List.replicate (4 - (lg_sl ([.ref a0, .int p0])).length) Slot.unset).toArray = ls at hl ⊢
  have hl : lv_has ls 4 [(0, .ref a0), (1, .int p0)] := hl
  show W p l e rm_X1_lensesTo s m args below meth c s.heap [] 0 0 _ _
  refine W.genQ (fun Q hQ => ?_)
  have b_24 : ∀ (J4 : (Int32 × Int32 × Int32) → Option (Int32)) (hJ4 : ∀ (x1 : Int32) (x2 : Int32) (x3 : Int32) (H : Heap) (locs : List Loc) (ls : Array Slot), va_P D vwCl (WS_X1_lensesTo cI cJ cZ cY a0 a0_lensSide a0_lensWidth a0_pairA a0_pairB a0_pairDelay v0) H → va_D A (WS_X1_lensesTo cI cJ cZ cY a0 a0_lensSide a0_lensWidth a0_pairA a0_pairB a0_pairDelay v0) → va_S A s.heap H locs → lv_has ls 4 [(0, .ref a0), (1, .int x1), (2, .int x2), (3, .int x3)] → J4 (x1, x2, x3) = some res → W p l e rm_X1_lensesTo s m args below meth c H locs 0 0 Q (F0 m 4 ls [])), ∀ (x1 : Int32) (x2 : Int32) (x3 : Int32) (H : Heap) (locs : List Loc) (ls : Array Slot), va_P D vwCl (WS_X1_lensesTo cI cJ cZ cY a0 a0_lensSide a0_lensWidth a0_pairA a0_pairB a0_pairDelay v0) H → va_D A (WS_X1_lensesTo cI cJ cZ cY a0 a0_lensSide a0_lensWidth a0_pairA a0_pairB a0_pairDelay v0) → va_S A s.heap H locs → lv_has ls 4 [(0, .ref a0), (1, .int x1), (2, .int x2), (3, .int x3)] → f_X1_lensesTo_b24 v0 J4 x1 x2 x3 = some res → W p l e rm_X1_lensesTo s m args below meth c H locs 0 0 Q (F0 m 24 ls []) := by
    intro J4 hJ4 x1 x2 x3 H locs ls hP hD hS hl hg
    unfold f_X1_lensesTo_b24 at hg
    obtain ⟨x3_1, ex3_1⟩ : ∃ z : Int32, z = x3 + 1 := ⟨_, rfl⟩
    have hg := g_lte hg x3_1 ex3_1
    refine lv_iinc (v := x3_1) (lv' := [(3, .int x3_1), (0, .ref a0), (1, .int x1), (2, .int x2)]) hx hb dX1_lensesTo_24 hl (k := 3) rfl (by rw [ex3_1]; rfl) (by decide) rfl (fun ls hl => ?_)
    refine lv_goto (tgt := 4) hx hb dX1_lensesTo_27 (by decide) ?_
    exact hJ4 x1 x2 x3_1 H locs ls hP hD hS (lv_sub hl [1, 2, 3, 0] rfl) hg
  have b_4 : ∀ (n : Nat), ∀ (x1 : Int32) (x2 : Int32) (x3 : Int32) (H : Heap) (locs : List Loc) (ls : Array Slot), va_P D vwCl (WS_X1_lensesTo cI cJ cZ cY a0 a0_lensSide a0_lensWidth a0_pairA a0_pairB a0_pairDelay v0) H → va_D A (WS_X1_lensesTo cI cJ cZ cY a0 a0_lensSide a0_lensWidth a0_pairA a0_pairB a0_pairDelay v0) → va_S A s.heap H locs → lv_has ls 4 [(0, .ref a0), (1, .int x1), (2, .int x2), (3, .int x3)] → f_X1_lensesTo_b4 v0 n (x1, x2, x3) = some res → W p l e rm_X1_lensesTo s m args below meth c H locs 0 0 Q (F0 m 4 ls []) := by
    intro n
    induction n with
    | zero =>
      intro x1 x2 x3 H locs ls hP hD hS hl hg
      exact (g_lp0 hg).elim
    | succ n ih =>
      intro x1 x2 x3 H locs ls hP hD hS hl hg
      have hg : f_X1_lensesTo_b4B v0 (f_X1_lensesTo_b4 v0 n) x1 x2 x3 = some res := hg
      unfold f_X1_lensesTo_b4B at hg
      refine lv_iload_n hx hb dX1_lensesTo_4 rfl (lv_at hl 3 rfl) ?_
      refine lv_aload_n hx hb dX1_lensesTo_5 rfl (lv_at hl 0 rfl) ?_
      refine va_get (ci := 0) (v := .int (pX1_lenses v0)) (C := RX1) (T := TX1) (N := 7) hx hb htb uX1 hown hK.1 hP 0 rfl rfl 5 (by decide) (htb _ tg_107) (fun _ h9 => h9) rfl dX1_lensesTo_6 ?_
      refine lv_icmp_ge (tgt := 30) hx hb dX1_lensesTo_9 (by decide) (fun c_2 => ?_) (fun c_2 => ?_)
      · have hg := g_it hg c_2
        refine lv_iload_n hx hb dX1_lensesTo_30 rfl (lv_at hl 2 rfl) ?_
        have hg := Option.some.inj hg
        rw [hQ]
        exact W.iret (v := x2) hx hb hr (fun t ht hW => ⟨⟨x2, (), rfl, hg, by rw [ht]; exact hP, hD⟩, hS.F ht⟩) hS.2.2 dX1_lensesTo_31
      · have hg := g_if hg c_2
        refine lv_aload_n hx hb dX1_lensesTo_12 rfl (lv_at hl 0 rfl) ?_
        refine lv_iload_n hx hb dX1_lensesTo_13 rfl (lv_at hl 3 rfl) ?_
        refine lv_iload_n hx hb dX1_lensesTo_14 rfl (lv_at hl 1 rfl) ?_
        obtain ⟨r_3, hr_3, hg⟩ := g_bd hg
        refine cc_i (va_runV (C := RX1) (As := [.int x3, .int x1]) (rest := []) ⟨hx, hb, hml, hown, htb⟩ (k_X1_weightOf a0 a0_lensSide a0_lensWidth a0_pairA a0_pairB a0_pairDelay v0 x3 x1 r_3 hr_3) (cw_V 2 htb tg_549 tg_5 tg_546 tg_547 tg_548 rfl rfl (by decide +kernel) ⟨Nat.le_of_ble_eq_true rfl, Nat.le_of_ble_eq_true rfl⟩) ⟨PC.blind, va_recv hK.1 hP (ci := 0) (q0 := 0) rfl rfl, PC.pre hK hT hP hD hS hA [0, 1, 2, 3, 4, 5] rfl (by decide)⟩ rfl rfl hl.1 rfl (lv_room (Nat.le_of_ble_eq_true rfl)) dX1_lensesTo_15 ⟨Nat.le_of_ble_eq_true rfl, Nat.le_of_ble_eq_true rfl⟩) hP hD hS hA [0, 1, 2, 3, 4, 5] [] rfl rfl (by decide) (by decide) (fun r9 u9 H locs hw hP hD hS => ?_)
        have hw := hw.symm
        subst hw
        have hP : va_P D vwCl (WS_X1_lensesTo cI cJ cZ cY a0 a0_lensSide a0_lensWidth a0_pairA a0_pairB a0_pairDelay v0) H := hP.sub [0, 1, 2, 3, 4, 5] rfl
        have hD : va_D A (WS_X1_lensesTo cI cJ cZ cY a0 a0_lensSide a0_lensWidth a0_pairA a0_pairB a0_pairDelay v0) := hD.sub [0, 1, 2, 3, 4, 5] (by decide) rfl
        refine lv_if_le (tgt := 24) hx hb dX1_lensesTo_18 (by decide) (fun c_4 => ?_) (fun c_4 => ?_)
        · have hg := g_it hg c_4
          exact b_24 (f_X1_lensesTo_b4 v0 n) ih x1 x2 x3 H locs ls hP hD hS (lv_sub hl [0, 1, 2, 3] rfl) hg
        · have hg := g_if hg c_4
          obtain ⟨x2_5, ex2_5⟩ : ∃ z : Int32, z = x2 + 1 := ⟨_, rfl⟩
          have hg := g_lte hg x2_5 ex2_5
          refine lv_iinc (v := x2_5) (lv' := [(2, .int x2_5), (0, .ref a0), (1, .int x1), (3, .int x3)]) hx hb dX1_lensesTo_21 hl (k := 2) rfl (by rw [ex2_5]; rfl) (by decide) rfl (fun ls hl => ?_)
          exact b_24 (f_X1_lensesTo_b4 v0 n) ih x1 x2_5 x3 H locs ls hP hD hS (lv_sub hl [1, 2, 0, 3] rfl) hg
  generalize hHe : s.heap = H at hP ⊢
  have hS : va_S A s.heap H [] := by rw [← hHe]; exact va_S.rf
  generalize ([] : List Loc) = locs at hS ⊢
  unfold f_X1_lensesTo at hg
  refine lv_iconst (v := 0) hx hb dX1_lensesTo_0 (by decide) ?_
  refine lv_istore_n (lv' := [(2, .int 0), (0, .ref a0), (1, .int p0)]) hx hb dX1_lensesTo_1 rfl hl (by decide) rfl (fun ls hl => ?_)
  refine lv_iconst (v := 0) hx hb dX1_lensesTo_2 (by decide) ?_
  refine lv_istore_n (lv' := [(3, .int 0), (2, .int 0), (0, .ref a0), (1, .int p0)]) hx hb dX1_lensesTo_3 rfl hl (by decide) rfl (fun ls hl => ?_)
  exact b_4 fU p0 0 0 H locs ls hP hD hS (lv_sub hl [2, 3, 1, 0] rfl) hg

/-! ManyEyes$Eye.sidesUnseen()I -/
def WS_X1_sidesUnseen (cI cJ cZ cY : ClassId) (a0 a0_lensSide a0_lensWidth a0_pairA a0_pairB a0_pairDelay : Nat) (v0 : BX1) : va_W := (GX1 cI cJ cZ cY a0 a0_lensSide a0_lensWidth a0_pairA a0_pairB a0_pairDelay v0)
def f_X1_sidesUnseen_b21 (v0 : BX1) (J4 : (Int32 × Int32) → Option (Int32)) (x1 : Int32) (x2 : Int32) : Option (Int32) := g_lt (x2 + 1 : Int32) (fun x2_1 => J4 (x1, x2_1))
def f_X1_sidesUnseen_b4B (v0 : BX1) (J4 : Int32 × Int32 → Option (Int32)) (x1 : Int32) (x2 : Int32) : Option (Int32) := if (64 : Int32) ≤ x2 then (some x1) else ((f_X1_lensesTo v0 x2).bind (fun r_3 => if (r_3 : Int32) = 0 then (g_lt (x1 + 1 : Int32) (fun x1_5 => f_X1_sidesUnseen_b21 v0 J4 x1_5 x2)) else (f_X1_sidesUnseen_b21 v0 J4 x1 x2)))
def f_X1_sidesUnseen_b4 (v0 : BX1) : Nat → (Int32 × Int32) → Option (Int32) := g_lp (fun J z => f_X1_sidesUnseen_b4B v0 J z.1 z.2)
def f_X1_sidesUnseen (v0 : BX1) : Option (Int32) := f_X1_sidesUnseen_b4 v0 fU (0, 0)
abbrev rm_X1_sidesUnseen : Room := { frames := 3, cells := 0, slots := 0, locals := 67 }
set_option maxHeartbeats 4000000 in
set_option maxRecDepth 100000 in
theorem k_X1_sidesUnseen {l : Launch} {D : va_G} {cI cJ cZ cY : ClassId} {tX tY : Nat} {sz : Nat} (a0 a0_lensSide a0_lensWidth a0_pairA a0_pairB a0_pairDelay : Nat) (v0 : BX1) (res : Int32) (hg : f_X1_sidesUnseen v0 = some res) : Met l yX1_sidesUnseen (Cond.code yX1_sidesUnseen cX1_sidesUnseen 3 (some .int) :: TB) rm_X1_sidesUnseen (PC D cI cJ cZ cY tX tY [.ref a0] (WS_X1_sidesUnseen cI cJ cZ cY a0 a0_lensSide a0_lensWidth a0_pairA a0_pairB a0_pairDelay v0) sz) (va_Qi (fun (r : Int32) (_ : Unit) => r = res) (BC D (fun _ : Unit => WS_X1_sidesUnseen cI cJ cZ cY a0 a0_lensSide a0_lensWidth a0_pairA a0_pairB a0_pairDelay v0) (va_A (WS_X1_sidesUnseen cI cJ cZ cY a0 a0_lensSide a0_lensWidth a0_pairA a0_pairB a0_pairDelay v0) sz)) (va_A (WS_X1_sidesUnseen cI cJ cZ cY a0 a0_lensSide a0_lensWidth a0_pairA a0_pairB a0_pairDelay v0) sz)) 0 0 (va_A (WS_X1_sidesUnseen cI cJ cZ cY a0 a0_lensSide a0_lensWidth a0_pairA a0_pairB a0_pairDelay v0) sz) := by
  refine Met.ofW (cc := cX1_sidesUnseen) (maxL := 3) (ret := (some .int)) (by decide) rfl ?_
  intro p e s m args below meth c s₁ B hml hv
  obtain ⟨hargs, hsz, hP, hK, hD0, hT⟩ := hv
  have hx := B.exec
  have hb := B.bytes
  have hr := B.returns
  have htb : ∀ w ∈ TB, w.before args s = true := fun w h => atoms_spec (ws := Cond.code yX1_sidesUnseen cX1_sidesUnseen 3 (some .int) :: TB) B.pre w (List.mem_cons_of_mem _ h)
  have hown : s.vm.findClass "ManyEyes$Eye" = some m.cls := findClass_of_methodNamed B.named
  have hlocks := B.notSynchronized
  subst hsz
  have hD := hD0.self (sz := s.heap.size)
  generalize hAe : va_A (WS_X1_sidesUnseen cI cJ cZ cY a0 a0_lensSide a0_lensWidth a0_pairA a0_pairB a0_pairDelay v0) s.heap.size = A at hD hT ⊢
  have hA : ∀ q : Nat, s.heap.size ≤ q → A q := fun q h => by rw [← hAe]; exact Or.inr h
  have hS : va_S A s.heap s.heap [] := va_S.rf
  have hl := lv_entry ([.ref a0]) (n := 3) (Nat.le_of_ble_eq_true rfl)
  have he : entryFrame m args 3 = F0 m 0 (lg_sl ([.ref a0]) ++ List.replicate (3 - (lg_sl ([.ref a0])).length) Slot.unset).toArray [] := by rw [hargs, lg_entry_eq]
  rw [he]
  generalize (lg_sl ([.ref a0]) ++ List.replicate (3 - (lg_sl ([.ref a0])).length) Slot.unset).toArray = ls at hl ⊢
  have hl : lv_has ls 3 [(0, .ref a0)] := hl
  show W p l e rm_X1_sidesUnseen s m args below meth c s.heap [] 0 0 _ _
  refine W.genQ (fun Q hQ => ?_)
  have b_21 : ∀ (J4 : (Int32 × Int32) → Option (Int32)) (hJ4 : ∀ (x1 : Int32) (x2 : Int32) (H : Heap) (locs : List Loc) (ls : Array Slot), va_P D vwCl (WS_X1_sidesUnseen cI cJ cZ cY a0 a0_lensSide a0_lensWidth a0_pairA a0_pairB a0_pairDelay v0) H → va_D A (WS_X1_sidesUnseen cI cJ cZ cY a0 a0_lensSide a0_lensWidth a0_pairA a0_pairB a0_pairDelay v0) → va_S A s.heap H locs → lv_has ls 3 [(0, .ref a0), (1, .int x1), (2, .int x2)] → J4 (x1, x2) = some res → W p l e rm_X1_sidesUnseen s m args below meth c H locs 0 0 Q (F0 m 4 ls [])), ∀ (x1 : Int32) (x2 : Int32) (H : Heap) (locs : List Loc) (ls : Array Slot), va_P D vwCl (WS_X1_sidesUnseen cI cJ cZ cY a0 a0_lensSide a0_lensWidth a0_pairA a0_pairB a0_pairDelay v0) H → va_D A (WS_X1_sidesUnseen cI cJ cZ cY a0 a0_lensSide a0_lensWidth a0_pairA a0_pairB a0_pairDelay v0) → va_S A s.heap H locs → lv_has ls 3 [(0, .ref a0), (1, .int x1), (2, .int x2)] → f_X1_sidesUnseen_b21 v0 J4 x1 x2 = some res → W p l e rm_X1_sidesUnseen s m args below meth c H locs 0 0 Q (F0 m 21 ls []) := by
    intro J4 hJ4 x1 x2 H locs ls hP hD hS hl hg
    unfold f_X1_sidesUnseen_b21 at hg
    obtain ⟨x2_1, ex2_1⟩ : ∃ z : Int32, z = x2 + 1 := ⟨_, rfl⟩
    have hg := g_lte hg x2_1 ex2_1
    refine lv_iinc (v := x2_1) (lv' := [(2, .int x2_1), (0, .ref a0), (1, .int x1)]) hx hb dX1_sidesUnseen_21 hl (k := 2) rfl (by rw [ex2_1]; rfl) (by decide) rfl (fun ls hl => ?_)
    refine lv_goto (tgt := 4) hx hb dX1_sidesUnseen_24 (by decide) ?_
    exact hJ4 x1 x2_1 H locs ls hP hD hS (lv_sub hl [1, 2, 0] rfl) hg
  have b_4 : ∀ (n : Nat), ∀ (x1 : Int32) (x2 : Int32) (H : Heap) (locs : List Loc) (ls : Array Slot), va_P D vwCl (WS_X1_sidesUnseen cI cJ cZ cY a0 a0_lensSide a0_lensWidth a0_pairA a0_pairB a0_pairDelay v0) H → va_D A (WS_X1_sidesUnseen cI cJ cZ cY a0 a0_lensSide a0_lensWidth a0_pairA a0_pairB a0_pairDelay v0) → va_S A s.heap H locs → lv_has ls 3 [(0, .ref a0), (1, .int x1), (2, .int x2)] → f_X1_sidesUnseen_b4 v0 n (x1, x2) = some res → W p l e rm_X1_sidesUnseen s m args below meth c H locs 0 0 Q (F0 m 4 ls []) := by
    intro n
    induction n with
    | zero =>
      intro x1 x2 H locs ls hP hD hS hl hg
      exact (g_lp0 hg).elim
    | succ n ih =>
      intro x1 x2 H locs ls hP hD hS hl hg
      have hg : f_X1_sidesUnseen_b4B v0 (f_X1_sidesUnseen_b4 v0 n) x1 x2 = some res := hg
      unfold f_X1_sidesUnseen_b4B at hg
      refine lv_iload_n hx hb dX1_sidesUnseen_4 rfl (lv_at hl 2 rfl) ?_
      refine lv_bipush (v := 64) hx hb dX1_sidesUnseen_5 (by decide) ?_
      refine lv_icmp_ge (tgt := 27) hx hb dX1_sidesUnseen_7 (by decide) (fun c_2 => ?_) (fun c_2 => ?_)
      · have hg := g_it hg c_2
        refine lv_iload_n hx hb dX1_sidesUnseen_27 rfl (lv_at hl 1 rfl) ?_
        have hg := Option.some.inj hg
        rw [hQ]
        exact W.iret (v := x1) hx hb hr (fun t ht hW => ⟨⟨x1, (), rfl, hg, by rw [ht]; exact hP, hD⟩, hS.F ht⟩) hS.2.2 dX1_sidesUnseen_28
      · have hg := g_if hg c_2
        refine lv_aload_n hx hb dX1_sidesUnseen_10 rfl (lv_at hl 0 rfl) ?_
        refine lv_iload_n hx hb dX1_sidesUnseen_11 rfl (lv_at hl 2 rfl) ?_
        obtain ⟨r_3, hr_3, hg⟩ := g_bd hg
        refine cc_i (va_runV (C := RX1) (As := [.int x2]) (rest := []) ⟨hx, hb, hml, hown, htb⟩ (k_X1_lensesTo a0 a0_lensSide a0_lensWidth a0_pairA a0_pairB a0_pairDelay v0 x2 r_3 hr_3) (cw_V 1 htb tg_545 tg_5 tg_556 tg_543 tg_544 rfl rfl (by decide +kernel) ⟨Nat.le_of_ble_eq_true rfl, Nat.le_of_ble_eq_true rfl⟩) ⟨PC.blind, va_recv hK.1 hP (ci := 0) (q0 := 0) rfl rfl, PC.pre hK hT hP hD hS hA [0, 1, 2, 3, 4, 5] rfl (by decide)⟩ rfl rfl hl.1 rfl (lv_room (Nat.le_of_ble_eq_true rfl)) dX1_sidesUnseen_12 ⟨Nat.le_of_ble_eq_true rfl, Nat.le_of_ble_eq_true rfl⟩) hP hD hS hA [0, 1, 2, 3, 4, 5] [] rfl rfl (by decide) (by decide) (fun r9 u9 H locs hw hP hD hS => ?_)
        have hw := hw.symm
        subst hw
        have hP : va_P D vwCl (WS_X1_sidesUnseen cI cJ cZ cY a0 a0_lensSide a0_lensWidth a0_pairA a0_pairB a0_pairDelay v0) H := hP.sub [0, 1, 2, 3, 4, 5] rfl
        have hD : va_D A (WS_X1_sidesUnseen cI cJ cZ cY a0 a0_lensSide a0_lensWidth a0_pairA a0_pairB a0_pairDelay v0) := hD.sub [0, 1, 2, 3, 4, 5] (by decide) rfl
        refine lv_if_ne (tgt := 21) hx hb dX1_sidesUnseen_15 (by decide) (fun c_4 => ?_) (fun c_4 => ?_)
        · have hg := g_if hg c_4
          exact b_21 (f_X1_sidesUnseen_b4 v0 n) ih x1 x2 H locs ls hP hD hS (lv_sub hl [0, 1, 2] rfl) hg
        · have hg := g_it hg c_4
          obtain ⟨x1_5, ex1_5⟩ : ∃ z : Int32, z = x1 + 1 := ⟨_, rfl⟩
          have hg := g_lte hg x1_5 ex1_5
          refine lv_iinc (v := x1_5) (lv' := [(1, .int x1_5), (0, .ref a0), (2, .int x2)]) hx hb dX1_sidesUnseen_18 hl (k := 1) rfl (by rw [ex1_5]; rfl) (by decide) rfl (fun ls hl => ?_)
          exact b_21 (f_X1_sidesUnseen_b4 v0 n) ih x1_5 x2 H locs ls hP hD hS (lv_sub hl [1, 0, 2] rfl) hg
  generalize hHe : s.heap = H at hP ⊢
  have hS : va_S A s.heap H [] := by rw [← hHe]; exact va_S.rf
  generalize ([] : List Loc) = locs at hS ⊢
  unfold f_X1_sidesUnseen at hg
  refine lv_iconst (v := 0) hx hb dX1_sidesUnseen_0 (by decide) ?_
  refine lv_istore_n (lv' := [(1, .int 0), (0, .ref a0)]) hx hb dX1_sidesUnseen_1 rfl hl (by decide) rfl (fun ls hl => ?_)
  refine lv_iconst (v := 0) hx hb dX1_sidesUnseen_2 (by decide) ?_
  refine lv_istore_n (lv' := [(2, .int 0), (1, .int 0), (0, .ref a0)]) hx hb dX1_sidesUnseen_3 rfl hl (by decide) rfl (fun ls hl => ?_)
  exact b_4 fU 0 0 H locs ls hP hD hS (lv_sub hl [2, 1, 0] rfl) hg

/-! ManyEyes$Flight.note(II)V -/
def WS_X2_note (cI cJ cZ cY : ClassId) (a0 a0_rows a0_takes : Nat) (v0 : BX2) : va_W := (GX2 cI cJ cZ cY a0 a0_rows a0_takes v0)
def f_X2_note (v0 : BX2) (p0 : Int32) (p1 : Int32) : Option (BX2) := g_lt (((pX2_count v0) * 5) : Int32) (fun x3_1 => if (300 : Int32) < (x3_1 + 5) then (some (v0)) else (g_gd (inB x3_1 300) (g_lt (sX2_rows v0 (upd (pX2_rows v0) (x3_1 : Int32).toNatClampNeg p0)) (fun v0_4 => g_gd (inB (x3_1 + 1) 300) (g_lt (sX2_rows v0_4 (upd (pX2_rows v0_4) ((x3_1 + 1) : Int32).toNatClampNeg p1)) (fun v0_6 => g_lt ((pX2_x v0_6) : Int32) (fun x_7 => g_gd (inB (x3_1 + 2) 300) (g_lt (sX2_rows v0_6 (upd (pX2_rows v0_6) ((x3_1 + 2) : Int32).toNatClampNeg x_7)) (fun v0_9 => g_lt ((pX2_y v0_9) : Int32) (fun x_10 => g_gd (inB (x3_1 + 3) 300) (g_lt (sX2_rows v0_9 (upd (pX2_rows v0_9) ((x3_1 + 3) : Int32).toNatClampNeg x_10)) (fun v0_12 => g_lt ((pX2_head v0_12) : Int32) (fun x_13 => g_gd (inB (x3_1 + 4) 300) (g_lt (sX2_rows v0_12 (upd (pX2_rows v0_12) ((x3_1 + 4) : Int32).toNatClampNeg x_13)) (fun v0_15 => some (v0_15))))))))))))))))
abbrev rm_X2_note : Room := { frames := 0, cells := 0, slots := 0, locals := 0 }
set_option maxHeartbeats 4000000 in
set_option maxRecDepth 100000 in
theorem k_X2_note {l : Launch} {D : va_G} {cI cJ cZ cY : ClassId} {tX tY : Nat} {sz : Nat} (a0 a0_rows a0_takes : Nat) (v0 : BX2) (p0 : Int32) (p1 : Int32) (res : BX2) (hg : f_X2_note v0 p0 p1 = some res) : Met l yX2_note (Cond.code yX2_note cX2_note 4 none :: TB) rm_X2_note (PC D cI cJ cZ cY tX tY [.ref a0, .int p0, .int p1] (WS_X2_note cI cJ cZ cY a0 a0_rows a0_takes v0) sz) (va_Qv (fun (u : BX2) => u = res) (BC D (fun u : BX2 => WS_X2_note cI cJ cZ cY a0 a0_rows a0_takes u) (va_A (WS_X2_note cI cJ cZ cY a0 a0_rows a0_takes v0) sz)) (va_A (WS_X2_note cI cJ cZ cY a0 a0_rows a0_takes v0) sz)) 0 0 (va_A (WS_X2_note cI cJ cZ cY a0 a0_rows a0_takes v0) sz) := by
  refine Met.ofW (cc := cX2_note) (maxL := 4) (ret := none) (by decide) rfl ?_
  intro p e s m args below meth c s₁ B hml hv
  obtain ⟨hargs, hsz, hP, hK, hD0, hT⟩ := hv
  have hx := B.exec
  have hb := B.bytes
  have hr := B.returns
  have htb : ∀ w ∈ TB, w.before args s = true := fun w h => atoms_spec (ws := Cond.code yX2_note cX2_note 4 none :: TB) B.pre w (List.mem_cons_of_mem _ h)
  have hown : s.vm.findClass "ManyEyes$Flight" = some m.cls := findClass_of_methodNamed B.named
  have hlocks := B.notSynchronized
  subst hsz
  have hD := hD0.self (sz := s.heap.size)
  generalize hAe : va_A (WS_X2_note cI cJ cZ cY a0 a0_rows a0_takes v0) s.heap.size = A at hD hT ⊢
  have hA : ∀ q : Nat, s.heap.size ≤ q → A q := fun q h => by rw [← hAe]; exact Or.inr h
  have hS : va_S A s.heap s.heap [] := va_S.rf
  have hl := lv_entry ([.ref a0, .int p0, .int p1]) (n := 4) (Nat.le_of_ble_eq_true rfl)
  have he : entryFrame m args 4 = F0 m 0 (lg_sl ([.ref a0, .int p0, .int p1]) ++ List.replicate (4 - (lg_sl ([.ref a0, .int p0, .int p1])).length) Slot.unset).toArray [] := by rw [hargs, lg_entry_eq]
  rw [he]
  generalize (lg_sl ([.ref a0, .int p0, .int p1]) ++ List.replicate (4 - (lg_sl ([.ref a0, .int p0, .int p1])).length) Slot.unset).toArray = ls at hl ⊢
  have hl : lv_has ls 4 [(0, .ref a0), (1, .int p0), (2, .int p1)] := hl
  show W p l e rm_X2_note s m args below meth c s.heap [] 0 0 _ _
  refine W.genQ (fun Q hQ => ?_)
  generalize hHe : s.heap = H at hP ⊢
  have hS : va_S A s.heap H [] := by rw [← hHe]; exact va_S.rf
  generalize ([] : List Loc) = locs at hS ⊢
  unfold f_X2_note at hg
  refine lv_aload_n hx hb dX2_note_0 rfl (lv_at hl 0 rfl) ?_
  refine va_get (ci := 1) (v := .int (pX2_count v0)) (C := RX2) (T := TX2) (N := 12) hx hb htb uX2 hown hK.1 hP 0 rfl rfl 5 (by decide) (htb _ tg_183) (fun _ h9 => h9) rfl dX2_note_1 ?_
  refine lv_iconst (v := 5) hx hb dX2_note_4 (by decide) ?_
  refine lv_imul hx hb dX2_note_5 ?_
  refine lv_topi (fun x3_1 ex3_1 => ?_)
  have hg := g_lte hg x3_1 ex3_1
  refine lv_istore_n (lv' := [(3, .int x3_1), (0, .ref a0), (1, .int p0), (2, .int p1)]) hx hb dX2_note_6 rfl hl (by decide) rfl (fun ls hl => ?_)
  refine lv_iload_n hx hb dX2_note_7 rfl (lv_at hl 0 rfl) ?_
  refine lv_iconst (v := 5) hx hb dX2_note_8 (by decide) ?_
  refine lv_iadd hx hb dX2_note_9 ?_
  refine lv_aload_n hx hb dX2_note_10 rfl (lv_at hl 1 rfl) ?_
  refine va_get (ci := 1) (v := .ref a0_rows) (C := RX2) (T := TX2) (N := 12) hx hb htb uX2 hown hK.1 hP 0 rfl rfl 0 (by decide) (htb _ tg_171) (fun _ h9 => h9) rfl dX2_note_11 ?_
  refine va_alen (v := 300) hx hb hK.1 hP 1 0 rfl rfl rfl dX2_note_14 ?_
  refine lv_icmp_gt (tgt := 70) hx hb dX2_note_15 (by decide) (fun c_2 => ?_) (fun c_2 => ?_)
  · have hg := g_it hg c_2
    have hg := Option.some.inj hg
    rw [hQ]
    exact W.vret hx hb hr (fun t ht hW => ⟨⟨(v0), rfl, hg, by rw [ht]; exact hP, hD⟩, hS.F ht⟩) hS.2.2 dX2_note_70
  · have hg := g_if hg c_2
    refine lv_aload_n hx hb dX2_note_18 rfl (lv_at hl 1 rfl) ?_
    refine va_get (ci := 1) (v := .ref a0_rows) (C := RX2) (T := TX2) (N := 12) hx hb htb uX2 hown hK.1 hP 0 rfl rfl 0 (by decide) (htb _ tg_171) (fun _ h9 => h9) rfl dX2_note_19 ?_
    refine lv_iload_n hx hb dX2_note_22 rfl (lv_at hl 0 rfl) ?_
    refine lv_iload_n hx hb dX2_note_23 rfl (lv_at hl 2 rfl) ?_
    obtain ⟨h_3, hg⟩ := g_gde hg
    refine va_iast hx hb hK.1 hP hD hS 1 0 rfl rfl (inB_vp h_3) dX2_note_24 (fun H locs hP hD hS => ?_)
    obtain ⟨v0_4, ev0_4⟩ : ∃ z, z = sX2_rows v0 (upd (pX2_rows v0) (x3_1 : Int32).toNatClampNeg p0) := ⟨_, rfl⟩
    have hP : va_P D vwCl (WS_X2_note cI cJ cZ cY a0 a0_rows a0_takes v0_4) H := by rw [ev0_4]; exact hP
    have hD : va_D A (WS_X2_note cI cJ cZ cY a0 a0_rows a0_takes v0_4) := by rw [ev0_4]; exact hD
    have hg := g_lte hg v0_4 ev0_4
    refine lv_aload_n hx hb dX2_note_25 rfl (lv_at hl 1 rfl) ?_
    refine va_get (ci := 1) (v := .ref a0_rows) (C := RX2) (T := TX2) (N := 12) hx hb htb uX2 hown hK.1 hP 0 rfl rfl 0 (by decide) (htb _ tg_171) (fun _ h9 => h9) rfl dX2_note_26 ?_
    refine lv_iload_n hx hb dX2_note_29 rfl (lv_at hl 0 rfl) ?_
    refine lv_iconst (v := 1) hx hb dX2_note_30 (by decide) ?_
    refine lv_iadd hx hb dX2_note_31 ?_
    refine lv_iload_n hx hb dX2_note_32 rfl (lv_at hl 3 rfl) ?_
    obtain ⟨h_5, hg⟩ := g_gde hg
    refine va_iast hx hb hK.1 hP hD hS 1 0 rfl rfl (inB_vp h_5) dX2_note_33 (fun H locs hP hD hS => ?_)
    obtain ⟨v0_6, ev0_6⟩ : ∃ z, z = sX2_rows v0_4 (upd (pX2_rows v0_4) ((x3_1 + 1) : Int32).toNatClampNeg p1) := ⟨_, rfl⟩
    have hP : va_P D vwCl (WS_X2_note cI cJ cZ cY a0 a0_rows a0_takes v0_6) H := by rw [ev0_6]; exact hP
    have hD : va_D A (WS_X2_note cI cJ cZ cY a0 a0_rows a0_takes v0_6) := by rw [ev0_6]; exact hD
    have hg := g_lte hg v0_6 ev0_6
    refine lv_aload_n hx hb dX2_note_34 rfl (lv_at hl 1 rfl) ?_
    refine va_get (ci := 1) (v := .ref a0_rows) (C := RX2) (T := TX2) (N := 12) hx hb htb uX2 hown hK.1 hP 0 rfl rfl 0 (by decide) (htb _ tg_171) (fun _ h9 => h9) rfl dX2_note_35 ?_
    refine lv_iload_n hx hb dX2_note_38 rfl (lv_at hl 0 rfl) ?_
    refine lv_iconst (v := 2) hx hb dX2_note_39 (by decide) ?_
    refine lv_iadd hx hb dX2_note_40 ?_
    refine lv_aload_n hx hb dX2_note_41 rfl (lv_at hl 1 rfl) ?_
    refine va_get (ci := 1) (v := .int (pX2_x v0_6)) (C := RX2) (T := TX2) (N := 12) hx hb htb uX2 hown hK.1 hP 0 rfl rfl 7 (by decide) (htb _ tg_190) (fun _ h9 => h9) rfl dX2_note_42 ?_
    refine lv_topi (fun x_7 ex_7 => ?_)
    have hg := g_lte hg x_7 ex_7
    obtain ⟨h_8, hg⟩ := g_gde hg
    refine va_iast hx hb hK.1 hP hD hS 1 0 rfl rfl (inB_vp h_8) dX2_note_45 (fun H locs hP hD hS => ?_)
    obtain ⟨v0_9, ev0_9⟩ : ∃ z, z = sX2_rows v0_6 (upd (pX2_rows v0_6) ((x3_1 + 2) : Int32).toNatClampNeg x_7) := ⟨_, rfl⟩
    have hP : va_P D vwCl (WS_X2_note cI cJ cZ cY a0 a0_rows a0_takes v0_9) H := by rw [ev0_9]; exact hP
    have hD : va_D A (WS_X2_note cI cJ cZ cY a0 a0_rows a0_takes v0_9) := by rw [ev0_9]; exact hD
    have hg := g_lte hg v0_9 ev0_9
    refine lv_aload_n hx hb dX2_note_46 rfl (lv_at hl 1 rfl) ?_
    refine va_get (ci := 1) (v := .ref a0_rows) (C := RX2) (T := TX2) (N := 12) hx hb htb uX2 hown hK.1 hP 0 rfl rfl 0 (by decide) (htb _ tg_171) (fun _ h9 => h9) rfl dX2_note_47 ?_
    refine lv_iload_n hx hb dX2_note_50 rfl (lv_at hl 0 rfl) ?_
    refine lv_iconst (v := 3) hx hb dX2_note_51 (by decide) ?_
    refine lv_iadd hx hb dX2_note_52 ?_
    refine lv_aload_n hx hb dX2_note_53 rfl (lv_at hl 1 rfl) ?_
    refine va_get (ci := 1) (v := .int (pX2_y v0_9)) (C := RX2) (T := TX2) (N := 12) hx hb htb uX2 hown hK.1 hP 0 rfl rfl 8 (by decide) (htb _ tg_193) (fun _ h9 => h9) rfl dX2_note_54 ?_
    refine lv_topi (fun x_10 ex_10 => ?_)
    have hg := g_lte hg x_10 ex_10
    obtain ⟨h_11, hg⟩ := g_gde hg
    refine va_iast hx hb hK.1 hP hD hS 1 0 rfl rfl (inB_vp h_11) dX2_note_57 (fun H locs hP hD hS => ?_)
    obtain ⟨v0_12, ev0_12⟩ : ∃ z, z = sX2_rows v0_9 (upd (pX2_rows v0_9) ((x3_1 + 3) : Int32).toNatClampNeg x_10) := ⟨_, rfl⟩
    have hP : va_P D vwCl (WS_X2_note cI cJ cZ cY a0 a0_rows a0_takes v0_12) H := by rw [ev0_12]; exact hP
    have hD : va_D A (WS_X2_note cI cJ cZ cY a0 a0_rows a0_takes v0_12) := by rw [ev0_12]; exact hD
    have hg := g_lte hg v0_12 ev0_12
    refine lv_aload_n hx hb dX2_note_58 rfl (lv_at hl 1 rfl) ?_
    refine va_get (ci := 1) (v := .ref a0_rows) (C := RX2) (T := TX2) (N := 12) hx hb htb uX2 hown hK.1 hP 0 rfl rfl 0 (by decide) (htb _ tg_171) (fun _ h9 => h9) rfl dX2_note_59 ?_
    refine lv_iload_n hx hb dX2_note_62 rfl (lv_at hl 0 rfl) ?_
    refine lv_iconst (v := 4) hx hb dX2_note_63 (by decide) ?_
    refine lv_iadd hx hb dX2_note_64 ?_
    refine lv_aload_n hx hb dX2_note_65 rfl (lv_at hl 1 rfl) ?_
    refine va_get (ci := 1) (v := .int (pX2_head v0_12)) (C := RX2) (T := TX2) (N := 12) hx hb htb uX2 hown hK.1 hP 0 rfl rfl 9 (by decide) (htb _ tg_196) (fun _ h9 => h9) rfl dX2_note_66 ?_
    refine lv_topi (fun x_13 ex_13 => ?_)
    have hg := g_lte hg x_13 ex_13
    obtain ⟨h_14, hg⟩ := g_gde hg
    refine va_iast hx hb hK.1 hP hD hS 1 0 rfl rfl (inB_vp h_14) dX2_note_69 (fun H locs hP hD hS => ?_)
    obtain ⟨v0_15, ev0_15⟩ : ∃ z, z = sX2_rows v0_12 (upd (pX2_rows v0_12) ((x3_1 + 4) : Int32).toNatClampNeg x_13) := ⟨_, rfl⟩
    have hP : va_P D vwCl (WS_X2_note cI cJ cZ cY a0 a0_rows a0_takes v0_15) H := by rw [ev0_15]; exact hP
    have hD : va_D A (WS_X2_note cI cJ cZ cY a0 a0_rows a0_takes v0_15) := by rw [ev0_15]; exact hD
    have hg := g_lte hg v0_15 ev0_15
    have hg := Option.some.inj hg
    rw [hQ]
    exact W.vret hx hb hr (fun t ht hW => ⟨⟨(v0_15), rfl, hg, by rw [ht]; exact hP, hD⟩, hS.F ht⟩) hS.2.2 dX2_note_70

/-! ManyEyes$Flight.noted(II)I -/
def WS_X2_noted (cI cJ cZ cY : ClassId) (a0 a0_rows a0_takes : Nat) (v0 : BX2) : va_W := (GX2 cI cJ cZ cY a0 a0_rows a0_takes v0)
def f_X2_noted (v0 : BX2) (p0 : Int32) (p1 : Int32) : Option (Int32) := g_lt (((p0 * 5) + p1) : Int32) (fun x3_1 => if (x3_1 : Int32) < 0 then (some 0) else (if (300 : Int32) ≤ x3_1 then (some 0) else (g_gd (inB x3_1 300) (some ((pX2_rows v0) (x3_1 : Int32).toNatClampNeg)))))
abbrev rm_X2_noted : Room := { frames := 0, cells := 0, slots := 0, locals := 0 }
set_option maxHeartbeats 4000000 in
set_option maxRecDepth 100000 in
theorem k_X2_noted {l : Launch} {D : va_G} {cI cJ cZ cY : ClassId} {tX tY : Nat} {sz : Nat} (a0 a0_rows a0_takes : Nat) (v0 : BX2) (p0 : Int32) (p1 : Int32) (res : Int32) (hg : f_X2_noted v0 p0 p1 = some res) : Met l yX2_noted (Cond.code yX2_noted cX2_noted 4 (some .int) :: TB) rm_X2_noted (PC D cI cJ cZ cY tX tY [.ref a0, .int p0, .int p1] (WS_X2_noted cI cJ cZ cY a0 a0_rows a0_takes v0) sz) (va_Qi (fun (r : Int32) (_ : Unit) => r = res) (BC D (fun _ : Unit => WS_X2_noted cI cJ cZ cY a0 a0_rows a0_takes v0) (va_A (WS_X2_noted cI cJ cZ cY a0 a0_rows a0_takes v0) sz)) (va_A (WS_X2_noted cI cJ cZ cY a0 a0_rows a0_takes v0) sz)) 0 0 (va_A (WS_X2_noted cI cJ cZ cY a0 a0_rows a0_takes v0) sz) := by
  refine Met.ofW (cc := cX2_noted) (maxL := 4) (ret := (some .int)) (by decide) rfl ?_
  intro p e s m args below meth c s₁ B hml hv
  obtain ⟨hargs, hsz, hP, hK, hD0, hT⟩ := hv
  have hx := B.exec
  have hb := B.bytes
  have hr := B.returns
  have htb : ∀ w ∈ TB, w.before args s = true := fun w h => atoms_spec (ws := Cond.code yX2_noted cX2_noted 4 (some .int) :: TB) B.pre w (List.mem_cons_of_mem _ h)
  have hown : s.vm.findClass "ManyEyes$Flight" = some m.cls := findClass_of_methodNamed B.named
  have hlocks := B.notSynchronized
  subst hsz
  have hD := hD0.self (sz := s.heap.size)
  generalize hAe : va_A (WS_X2_noted cI cJ cZ cY a0 a0_rows a0_takes v0) s.heap.size = A at hD hT ⊢
  have hA : ∀ q : Nat, s.heap.size ≤ q → A q := fun q h => by rw [← hAe]; exact Or.inr h
  have hS : va_S A s.heap s.heap [] := va_S.rf
  have hl := lv_entry ([.ref a0, .int p0, .int p1]) (n := 4) (Nat.le_of_ble_eq_true rfl)
  have he : entryFrame m args 4 = F0 m 0 (lg_sl ([.ref a0, .int p0, .int p1]) ++ List.replicate (4 - (lg_sl ([.ref a0, .int p0, .int p1])).length) Slot.unset).toArray [] := by rw [hargs, lg_entry_eq]
  rw [he]
  generalize (lg_sl ([.ref a0, .int p0, .int p1]) ++ List.replicate (4 - (lg_sl ([.ref a0, .int p0, .int p1])).length) Slot.unset).toArray = ls at hl ⊢
  have hl : lv_has ls 4 [(0, .ref a0), (1, .int p0), (2, .int p1)] := hl
  show W p l e rm_X2_noted s m args below meth c s.heap [] 0 0 _ _
  refine W.genQ (fun Q hQ => ?_)
  generalize hHe : s.heap = H at hP ⊢
  have hS : va_S A s.heap H [] := by rw [← hHe]; exact va_S.rf
  generalize ([] : List Loc) = locs at hS ⊢
  unfold f_X2_noted at hg
  refine lv_iload_n hx hb dX2_noted_0 rfl (lv_at hl 1 rfl) ?_
  refine lv_iconst (v := 5) hx hb dX2_noted_1 (by decide) ?_
  refine lv_imul hx hb dX2_noted_2 ?_
  refine lv_iload_n hx hb dX2_noted_3 rfl (lv_at hl 2 rfl) ?_
  refine lv_iadd hx hb dX2_noted_4 ?_
  refine lv_topi (fun x3_1 ex3_1 => ?_)
  have hg := g_lte hg x3_1 ex3_1
  refine lv_istore_n (lv' := [(3, .int x3_1), (0, .ref a0), (1, .int p0), (2, .int p1)]) hx hb dX2_noted_5 rfl hl (by decide) rfl (fun ls hl => ?_)
  refine lv_iload_n hx hb dX2_noted_6 rfl (lv_at hl 0 rfl) ?_
  refine lv_if_lt (tgt := 28) hx hb dX2_noted_7 (by decide) (fun c_2 => ?_) (fun c_2 => ?_)
  · have hg := g_it hg c_2
    refine lv_iconst (v := 0) hx hb dX2_noted_28 (by decide) ?_
    have hg := Option.some.inj hg
    rw [hQ]
    exact W.iret (v := 0) hx hb hr (fun t ht hW => ⟨⟨0, (), rfl, hg, by rw [ht]; exact hP, hD⟩, hS.F ht⟩) hS.2.2 dX2_noted_29
  · have hg := g_if hg c_2
    refine lv_iload_n hx hb dX2_noted_10 rfl (lv_at hl 0 rfl) ?_
    refine lv_aload_n hx hb dX2_noted_11 rfl (lv_at hl 1 rfl) ?_
    refine va_get (ci := 1) (v := .ref a0_rows) (C := RX2) (T := TX2) (N := 12) hx hb htb uX2 hown hK.1 hP 0 rfl rfl 0 (by decide) (htb _ tg_171) (fun _ h9 => h9) rfl dX2_noted_12 ?_
    refine va_alen (v := 300) hx hb hK.1 hP 1 0 rfl rfl rfl dX2_noted_15 ?_
    refine lv_icmp_ge (tgt := 28) hx hb dX2_noted_16 (by decide) (fun c_3 => ?_) (fun c_3 => ?_)
    · have hg := g_it hg c_3
      refine lv_iconst (v := 0) hx hb dX2_noted_28 (by decide) ?_
      have hg := Option.some.inj hg
      rw [hQ]
      exact W.iret (v := 0) hx hb hr (fun t ht hW => ⟨⟨0, (), rfl, hg, by rw [ht]; exact hP, hD⟩, hS.F ht⟩) hS.2.2 dX2_noted_29
    · have hg := g_if hg c_3
      refine lv_aload_n hx hb dX2_noted_19 rfl (lv_at hl 1 rfl) ?_
      refine va_get (ci := 1) (v := .ref a0_rows) (C := RX2) (T := TX2) (N := 12) hx hb htb uX2 hown hK.1 hP 0 rfl rfl 0 (by decide) (htb _ tg_171) (fun _ h9 => h9) rfl dX2_noted_20 ?_
      refine lv_iload_n hx hb dX2_noted_23 rfl (lv_at hl 0 rfl) ?_
      obtain ⟨h_4, hg⟩ := g_gde hg
      refine va_iald hx hb hK.1 hP 1 0 rfl rfl (inB_vp h_4) dX2_noted_24 ?_
      refine lv_goto (tgt := 29) hx hb dX2_noted_25 (by decide) ?_
      have hg := Option.some.inj hg
      rw [hQ]
      exact W.iret (v := ((pX2_rows v0) (x3_1 : Int32).toNatClampNeg)) hx hb hr (fun t ht hW => ⟨⟨((pX2_rows v0) (x3_1 : Int32).toNatClampNeg), (), rfl, hg, by rw [ht]; exact hP, hD⟩, hS.F ht⟩) hS.2.2 dX2_noted_29

/-! ManyEyes$Flight.takenBy(II)I -/
def WS_X2_takenBy (cI cJ cZ cY : ClassId) (a0 a0_rows a0_takes : Nat) (v0 : BX2) : va_W := (GX2 cI cJ cZ cY a0 a0_rows a0_takes v0)
def f_X2_takenBy (v0 : BX2) (p0 : Int32) (p1 : Int32) : Option (Int32) := g_lt (((p1 * 16) + p0) : Int32) (fun x3_1 => if (p0 : Int32) < 0 then (some 0) else (if ((pX2_lenses v0) : Int32) ≤ p0 then (some 0) else (if (x3_1 : Int32) < 0 then (some 0) else (if (960 : Int32) ≤ x3_1 then (some 0) else (g_gd (inB x3_1 960) (some ((pX2_takes v0) (x3_1 : Int32).toNatClampNeg)))))))
abbrev rm_X2_takenBy : Room := { frames := 0, cells := 0, slots := 0, locals := 0 }
set_option maxHeartbeats 4000000 in
set_option maxRecDepth 100000 in
theorem k_X2_takenBy {l : Launch} {D : va_G} {cI cJ cZ cY : ClassId} {tX tY : Nat} {sz : Nat} (a0 a0_rows a0_takes : Nat) (v0 : BX2) (p0 : Int32) (p1 : Int32) (res : Int32) (hg : f_X2_takenBy v0 p0 p1 = some res) : Met l yX2_takenBy (Cond.code yX2_takenBy cX2_takenBy 4 (some .int) :: TB) rm_X2_takenBy (PC D cI cJ cZ cY tX tY [.ref a0, .int p0, .int p1] (WS_X2_takenBy cI cJ cZ cY a0 a0_rows a0_takes v0) sz) (va_Qi (fun (r : Int32) (_ : Unit) => r = res) (BC D (fun _ : Unit => WS_X2_takenBy cI cJ cZ cY a0 a0_rows a0_takes v0) (va_A (WS_X2_takenBy cI cJ cZ cY a0 a0_rows a0_takes v0) sz)) (va_A (WS_X2_takenBy cI cJ cZ cY a0 a0_rows a0_takes v0) sz)) 0 0 (va_A (WS_X2_takenBy cI cJ cZ cY a0 a0_rows a0_takes v0) sz) := by
  refine Met.ofW (cc := cX2_takenBy) (maxL := 4) (ret := (some .int)) (by decide) rfl ?_
  intro p e s m args below meth c s₁ B hml hv
  obtain ⟨hargs, hsz, hP, hK, hD0, hT⟩ := hv
  have hx := B.exec
  have hb := B.bytes
  have hr := B.returns
  have htb : ∀ w ∈ TB, w.before args s = true := fun w h => atoms_spec (ws := Cond.code yX2_takenBy cX2_takenBy 4 (some .int) :: TB) B.pre w (List.mem_cons_of_mem _ h)
  have hown : s.vm.findClass "ManyEyes$Flight" = some m.cls := findClass_of_methodNamed B.named
  have hlocks := B.notSynchronized
  subst hsz
  have hD := hD0.self (sz := s.heap.size)
  generalize hAe : va_A (WS_X2_takenBy cI cJ cZ cY a0 a0_rows a0_takes v0) s.heap.size = A at hD hT ⊢
  have hA : ∀ q : Nat, s.heap.size ≤ q → A q := fun q h => by rw [← hAe]; exact Or.inr h
  have hS : va_S A s.heap s.heap [] := va_S.rf
  have hl := lv_entry ([.ref a0, .int p0, .int p1]) (n := 4) (Nat.le_of_ble_eq_true rfl)
  have he : entryFrame m args 4 = F0 m 0 (lg_sl ([.ref a0, .int p0, .int p1]) ++ List.replicate (4 - (lg_sl ([.ref a0, .int p0, .int p1])).length) Slot.unset).toArray [] := by rw [hargs, lg_entry_eq]
  rw [he]
  generalize (lg_sl ([.ref a0, .int p0, .int p1]) ++ List.replicate (4 - (lg_sl ([.ref a0, .int p0, .int p1])).length) Slot.unset).toArray = ls at hl ⊢
  have hl : lv_has ls 4 [(0, .ref a0), (1, .int p0), (2, .int p1)] := hl
  show W p l e rm_X2_takenBy s m args below meth c s.heap [] 0 0 _ _
  refine W.genQ (fun Q hQ => ?_)
  generalize hHe : s.heap = H at hP ⊢
  have hS : va_S A s.heap H [] := by rw [← hHe]; exact va_S.rf
  generalize ([] : List Loc) = locs at hS ⊢
  unfold f_X2_takenBy at hg
  refine lv_iload_n hx hb dX2_takenBy_0 rfl (lv_at hl 2 rfl) ?_
  refine lv_bipush (v := 16) hx hb dX2_takenBy_1 (by decide) ?_
  refine lv_imul hx hb dX2_takenBy_3 ?_
  refine lv_iload_n hx hb dX2_takenBy_4 rfl (lv_at hl 1 rfl) ?_
  refine lv_iadd hx hb dX2_takenBy_5 ?_
  refine lv_topi (fun x3_1 ex3_1 => ?_)
  have hg := g_lte hg x3_1 ex3_1
  refine lv_istore_n (lv' := [(3, .int x3_1), (0, .ref a0), (1, .int p0), (2, .int p1)]) hx hb dX2_takenBy_6 rfl hl (by decide) rfl (fun ls hl => ?_)
  refine lv_iload_n hx hb dX2_takenBy_7 rfl (lv_at hl 2 rfl) ?_
  refine lv_if_lt (tgt := 41) hx hb dX2_takenBy_8 (by decide) (fun c_2 => ?_) (fun c_2 => ?_)
  · have hg := g_it hg c_2
    refine lv_iconst (v := 0) hx hb dX2_takenBy_41 (by decide) ?_
    have hg := Option.some.inj hg
    rw [hQ]
    exact W.iret (v := 0) hx hb hr (fun t ht hW => ⟨⟨0, (), rfl, hg, by rw [ht]; exact hP, hD⟩, hS.F ht⟩) hS.2.2 dX2_takenBy_42
  · have hg := g_if hg c_2
    refine lv_iload_n hx hb dX2_takenBy_11 rfl (lv_at hl 2 rfl) ?_
    refine lv_aload_n hx hb dX2_takenBy_12 rfl (lv_at hl 1 rfl) ?_
    refine va_get (ci := 1) (v := .int (pX2_lenses v0)) (C := RX2) (T := TX2) (N := 12) hx hb htb uX2 hown hK.1 hP 0 rfl rfl 10 (by decide) (htb _ tg_200) (fun _ h9 => h9) rfl dX2_takenBy_13 ?_
    refine lv_icmp_ge (tgt := 41) hx hb dX2_takenBy_16 (by decide) (fun c_3 => ?_) (fun c_3 => ?_)
    · have hg := g_it hg c_3
      refine lv_iconst (v := 0) hx hb dX2_takenBy_41 (by decide) ?_
      have hg := Option.some.inj hg
      rw [hQ]
      exact W.iret (v := 0) hx hb hr (fun t ht hW => ⟨⟨0, (), rfl, hg, by rw [ht]; exact hP, hD⟩, hS.F ht⟩) hS.2.2 dX2_takenBy_42
    · have hg := g_if hg c_3
      refine lv_iload_n hx hb dX2_takenBy_19 rfl (lv_at hl 0 rfl) ?_
      refine lv_if_lt (tgt := 41) hx hb dX2_takenBy_20 (by decide) (fun c_4 => ?_) (fun c_4 => ?_)
      · have hg := g_it hg c_4
        refine lv_iconst (v := 0) hx hb dX2_takenBy_41 (by decide) ?_
        have hg := Option.some.inj hg
        rw [hQ]
        exact W.iret (v := 0) hx hb hr (fun t ht hW => ⟨⟨0, (), rfl, hg, by rw [ht]; exact hP, hD⟩, hS.F ht⟩) hS.2.2 dX2_takenBy_42
      · have hg := g_if hg c_4
        refine lv_iload_n hx hb dX2_takenBy_23 rfl (lv_at hl 0 rfl) ?_
        refine lv_aload_n hx hb dX2_takenBy_24 rfl (lv_at hl 1 rfl) ?_
        refine va_get (ci := 1) (v := .ref a0_takes) (C := RX2) (T := TX2) (N := 12) hx hb htb uX2 hown hK.1 hP 0 rfl rfl 1 (by decide) (htb _ tg_172) (fun _ h9 => h9) rfl dX2_takenBy_25 ?_
        refine va_alen (v := 960) hx hb hK.1 hP 2 0 rfl rfl rfl dX2_takenBy_28 ?_
        refine lv_icmp_ge (tgt := 41) hx hb dX2_takenBy_29 (by decide) (fun c_5 => ?_) (fun c_5 => ?_)
        · have hg := g_it hg c_5
          refine lv_iconst (v := 0) hx hb dX2_takenBy_41 (by decide) ?_
          have hg := Option.some.inj hg
          rw [hQ]
          exact W.iret (v := 0) hx hb hr (fun t ht hW => ⟨⟨0, (), rfl, hg, by rw [ht]; exact hP, hD⟩, hS.F ht⟩) hS.2.2 dX2_takenBy_42
        · have hg := g_if hg c_5
          refine lv_aload_n hx hb dX2_takenBy_32 rfl (lv_at hl 1 rfl) ?_
          refine va_get (ci := 1) (v := .ref a0_takes) (C := RX2) (T := TX2) (N := 12) hx hb htb uX2 hown hK.1 hP 0 rfl rfl 1 (by decide) (htb _ tg_172) (fun _ h9 => h9) rfl dX2_takenBy_33 ?_
          refine lv_iload_n hx hb dX2_takenBy_36 rfl (lv_at hl 0 rfl) ?_
          obtain ⟨h_6, hg⟩ := g_gde hg
          refine va_iald hx hb hK.1 hP 2 0 rfl rfl (inB_vp h_6) dX2_takenBy_37 ?_
          refine lv_goto (tgt := 42) hx hb dX2_takenBy_38 (by decide) ?_
          have hg := Option.some.inj hg
          rw [hQ]
          exact W.iret (v := ((pX2_takes v0) (x3_1 : Int32).toNatClampNeg)) hx hb hr (fun t ht hW => ⟨⟨((pX2_takes v0) (x3_1 : Int32).toNatClampNeg), (), rfl, hg, by rw [ht]; exact hP, hD⟩, hS.F ht⟩) hS.2.2 dX2_takenBy_42

/-! ManyEyes$Flyer.bindTo(I)V -/
def WS_X3_bindTo (cI cJ cZ cY : ClassId) (a0 r0_state r0_sight r0_trial a1 a1_stack a1_letters r1_eye : Nat) (v0 : BX3) (v1 : BX6) : va_W := (GX3 cI cJ cZ cY a0 r0_state r0_sight a1 r0_trial v0) ++ ((GX6 cI cJ cZ cY a1 a1_stack a1_letters r1_eye v1))
def f_X3_bindTo (v0 : BX3) (v1 : BX6) (p0 : Int32) : Option (BX6) := g_lt (sX6_bound v1 p0) (fun v1_1 => some (v1_1))
abbrev rm_X3_bindTo : Room := { frames := 0, cells := 0, slots := 0, locals := 0 }
set_option maxHeartbeats 4000000 in
set_option maxRecDepth 100000 in
theorem k_X3_bindTo {l : Launch} {D : va_G} {cI cJ cZ cY : ClassId} {tX tY : Nat} {sz : Nat} (a0 r0_state r0_sight r0_trial a1 a1_stack a1_letters r1_eye : Nat) (v0 : BX3) (v1 : BX6) (p0 : Int32) (res : BX6) (hg : f_X3_bindTo v0 v1 p0 = some res) : Met l yX3_bindTo (Cond.code yX3_bindTo cX3_bindTo 2 none :: TB) rm_X3_bindTo (PC D cI cJ cZ cY tX tY [.ref a0, .int p0] (WS_X3_bindTo cI cJ cZ cY a0 r0_state r0_sight r0_trial a1 a1_stack a1_letters r1_eye v0 v1) sz) (va_Qv (fun (u : BX6) => u = res) (BC D (fun u : BX6 => WS_X3_bindTo cI cJ cZ cY a0 r0_state r0_sight r0_trial a1 a1_stack a1_letters r1_eye v0 u) (va_A (WS_X3_bindTo cI cJ cZ cY a0 r0_state r0_sight r0_trial a1 a1_stack a1_letters r1_eye v0 v1) sz)) (va_A (WS_X3_bindTo cI cJ cZ cY a0 r0_state r0_sight r0_trial a1 a1_stack a1_letters r1_eye v0 v1) sz)) 0 0 (va_A (WS_X3_bindTo cI cJ cZ cY a0 r0_state r0_sight r0_trial a1 a1_stack a1_letters r1_eye v0 v1) sz) := by
  refine Met.ofW (cc := cX3_bindTo) (maxL := 2) (ret := none) (by decide) rfl ?_
  intro p e s m args below meth c s₁ B hml hv
  obtain ⟨hargs, hsz, hP, hK, hD0, hT⟩ := hv
  have hx := B.exec
  have hb := B.bytes
  have hr := B.returns
  have htb : ∀ w ∈ TB, w.before args s = true := fun w h => atoms_spec (ws := Cond.code yX3_bindTo cX3_bindTo 2 none :: TB) B.pre w (List.mem_cons_of_mem _ h)
  have hown : s.vm.findClass "ManyEyes$Flyer" = some m.cls := findClass_of_methodNamed B.named
  have hlocks := B.notSynchronized
  subst hsz
  have hD := hD0.self (sz := s.heap.size)
  generalize hAe : va_A (WS_X3_bindTo cI cJ cZ cY a0 r0_state r0_sight r0_trial a1 a1_stack a1_letters r1_eye v0 v1) s.heap.size = A at hD hT ⊢
  have hA : ∀ q : Nat, s.heap.size ≤ q → A q := fun q h => by rw [← hAe]; exact Or.inr h
  have hS : va_S A s.heap s.heap [] := va_S.rf
  have hl := lv_entry ([.ref a0, .int p0]) (n := 2) (Nat.le_of_ble_eq_true rfl)
  have he : entryFrame m args 2 = F0 m 0 (lg_sl ([.ref a0, .int p0]) ++ List.replicate (2 - (lg_sl ([.ref a0, .int p0])).length) Slot.unset).toArray [] := by rw [hargs, lg_entry_eq]
  rw [he]
  generalize (lg_sl ([.ref a0, .int p0]) ++ List.replicate (2 - (lg_sl ([.ref a0, .int p0])).length) Slot.unset).toArray = ls at hl ⊢
  have hl : lv_has ls 2 [(0, .ref a0), (1, .int p0)] := hl
  show W p l e rm_X3_bindTo s m args below meth c s.heap [] 0 0 _ _
  refine W.genQ (fun Q hQ => ?_)
  generalize hHe : s.heap = H at hP ⊢
  have hS : va_S A s.heap H [] := by rw [← hHe]; exact va_S.rf
  generalize ([] : List Loc) = locs at hS ⊢
  unfold f_X3_bindTo at hg
  refine lv_aload_n hx hb dX3_bindTo_0 rfl (lv_at hl 0 rfl) ?_
  refine va_get (ci := 2) (v := .ref a1) (C := RX3) (T := TX3) (N := 4) hx hb htb uX3 hown hK.1 hP 0 rfl rfl 2 (by decide) (htb _ tg_334) (fun _ h9 => h9) rfl dX3_bindTo_1 ?_
  refine lv_iload_n hx hb dX3_bindTo_4 rfl (lv_at hl 1 rfl) ?_
  refine va_put (ci := 5) (v := .int p0) (ty := .int) (C := RX6) (T := TX6) (N := 9) hx hb htb uX6 tyX6 tyX6_ok nmX6 hown hK.1 hP hD hS 1 rfl rfl 4 (by decide) (htb _ tg_302) (fun _ h9 => h9) rfl (by decide +kernel) rfl rfl (Nat.le_of_ble_eq_true rfl) dX3_bindTo_5 (fun H locs hP hD hS => ?_)
  obtain ⟨v1_1, ev1_1⟩ : ∃ z, z = sX6_bound v1 p0 := ⟨_, rfl⟩
  have hP : va_P D vwCl (WS_X3_bindTo cI cJ cZ cY a0 r0_state r0_sight r0_trial a1 a1_stack a1_letters r1_eye v0 v1_1) H := by rw [ev1_1]; exact hP
  have hD : va_D A (WS_X3_bindTo cI cJ cZ cY a0 r0_state r0_sight r0_trial a1 a1_stack a1_letters r1_eye v0 v1_1) := by rw [ev1_1]; exact hD
  have hg := g_lte hg v1_1 ev1_1
  have hg := Option.some.inj hg
  rw [hQ]
  exact W.vret hx hb hr (fun t ht hW => ⟨⟨(v1_1), rfl, hg, by rw [ht]; exact hP, hD⟩, hS.F ht⟩) hS.2.2 dX3_bindTo_8

/-! ManyEyes$Flyer.begin(LManyEyes$Flight;III)V -/
def WS_X3_begin (cI cJ cZ cY : ClassId) (a0 a0_rows a0_takes a1 r1_sight r1_runner r1_trial a2 a2_codes r2_world r2_reads r2_flight a3 a3_lensSide a3_lensWidth a3_pairA a3_pairB a3_pairDelay : Nat) (v0 : BX2) (v1 : BX3) (v2 : BX8) (v3 : BX1) : va_W := (GX2 cI cJ cZ cY a0 a0_rows a0_takes v0) ++ ((GX3 cI cJ cZ cY a1 a2 r1_sight r1_runner r1_trial v1) ++ ((GX8 cI cJ cZ cY a2 a2_codes r2_world a3 r2_reads r2_flight v2) ++ ((GX1 cI cJ cZ cY a3 a3_lensSide a3_lensWidth a3_pairA a3_pairB a3_pairDelay v3))))
def f_X3_begin (v0 : BX2) (v1 : BX3) (v2 : BX8) (v3 : BX1) (p1 : Int32) (p2 : Int32) (p3 : Int32) : Option (BX2) := g_lt (sX2_begun v0 1) (fun v0_1 => g_lt (sX2_hit v0_1 0) (fun v0_2 => g_lt (sX2_rested v0_2 0) (fun v0_3 => g_lt (sX2_count v0_3 0) (fun v0_4 => g_lt (sX2_over v0_4 0) (fun v0_5 => g_lt (sX2_x v0_5 p1) (fun v0_6 => g_lt (sX2_y v0_6 p2) (fun v0_7 => g_lt (sX2_head v0_7 p3) (fun v0_8 => g_lt ((pX1_lenses v3) : Int32) (fun x_9 => g_lt (sX2_lenses v0_8 x_9) (fun v0_10 => g_lt ((pX1_pairs v3) : Int32) (fun x_11 => g_lt (sX2_pairs v0_10 x_11) (fun v0_12 => some (v0_12)))))))))))))
abbrev rm_X3_begin : Room := { frames := 0, cells := 0, slots := 0, locals := 0 }
set_option maxHeartbeats 4000000 in
set_option maxRecDepth 100000 in
theorem k_X3_begin {l : Launch} {D : va_G} {cI cJ cZ cY : ClassId} {tX tY : Nat} {sz : Nat} (a0 a0_rows a0_takes a1 r1_sight r1_runner r1_trial a2 a2_codes r2_world r2_reads r2_flight a3 a3_lensSide a3_lensWidth a3_pairA a3_pairB a3_pairDelay : Nat) (v0 : BX2) (v1 : BX3) (v2 : BX8) (v3 : BX1) (p1 : Int32) (p2 : Int32) (p3 : Int32) (res : BX2) (hg : f_X3_begin v0 v1 v2 v3 p1 p2 p3 = some res) : Met l yX3_begin (Cond.code yX3_begin cX3_begin 5 none :: TB) rm_X3_begin (PC D cI cJ cZ cY tX tY [.ref a1, .ref a0, .int p1, .int p2, .int p3] (WS_X3_begin cI cJ cZ cY a0 a0_rows a0_takes a1 r1_sight r1_runner r1_trial a2 a2_codes r2_world r2_reads r2_flight a3 a3_lensSide a3_lensWidth a3_pairA a3_pairB a3_pairDelay v0 v1 v2 v3) sz) (va_Qv (fun (u : BX2) => u = res) (BC D (fun u : BX2 => WS_X3_begin cI cJ cZ cY a0 a0_rows a0_takes a1 r1_sight r1_runner r1_trial a2 a2_codes r2_world r2_reads r2_flight a3 a3_lensSide a3_lensWidth a3_pairA a3_pairB a3_pairDelay u v1 v2 v3) (va_A (WS_X3_begin cI cJ cZ cY a0 a0_rows a0_takes a1 r1_sight r1_runner r1_trial a2 a2_codes r2_world r2_reads r2_flight a3 a3_lensSide a3_lensWidth a3_pairA a3_pairB a3_pairDelay v0 v1 v2 v3) sz)) (va_A (WS_X3_begin cI cJ cZ cY a0 a0_rows a0_takes a1 r1_sight r1_runner r1_trial a2 a2_codes r2_world r2_reads r2_flight a3 a3_lensSide a3_lensWidth a3_pairA a3_pairB a3_pairDelay v0 v1 v2 v3) sz)) 0 0 (va_A (WS_X3_begin cI cJ cZ cY a0 a0_rows a0_takes a1 r1_sight r1_runner r1_trial a2 a2_codes r2_world r2_reads r2_flight a3 a3_lensSide a3_lensWidth a3_pairA a3_pairB a3_pairDelay v0 v1 v2 v3) sz) := by
  refine Met.ofW (cc := cX3_begin) (maxL := 5) (ret := none) (by decide) rfl ?_
  intro p e s m args below meth c s₁ B hml hv
  obtain ⟨hargs, hsz, hP, hK, hD0, hT⟩ := hv
  have hx := B.exec
  have hb := B.bytes
  have hr := B.returns
  have htb : ∀ w ∈ TB, w.before args s = true := fun w h => atoms_spec (ws := Cond.code yX3_begin cX3_begin 5 none :: TB) B.pre w (List.mem_cons_of_mem _ h)
  have hown : s.vm.findClass "ManyEyes$Flyer" = some m.cls := findClass_of_methodNamed B.named
  have hlocks := B.notSynchronized
  subst hsz
  have hD := hD0.self (sz := s.heap.size)
  generalize hAe : va_A (WS_X3_begin cI cJ cZ cY a0 a0_rows a0_takes a1 r1_sight r1_runner r1_trial a2 a2_codes r2_world r2_reads r2_flight a3 a3_lensSide a3_lensWidth a3_pairA a3_pairB a3_pairDelay v0 v1 v2 v3) s.heap.size = A at hD hT ⊢
  have hA : ∀ q : Nat, s.heap.size ≤ q → A q := fun q h => by rw [← hAe]; exact Or.inr h
  have hS : va_S A s.heap s.heap [] := va_S.rf
  have hl := lv_entry ([.ref a1, .ref a0, .int p1, .int p2, .int p3]) (n := 5) (Nat.le_of_ble_eq_true rfl)
  have he : entryFrame m args 5 = F0 m 0 (lg_sl ([.ref a1, .ref a0, .int p1, .int p2, .int p3]) ++ List.replicate (5 - (lg_sl ([.ref a1, .ref a0, .int p1, .int p2, .int p3])).length) Slot.unset).toArray [] := by rw [hargs, lg_entry_eq]
  rw [he]
  generalize (lg_sl ([.ref a1, .ref a0, .int p1, .int p2, .int p3]) ++ List.replicate (5 - (lg_sl ([.ref a1, .ref a0, .int p1, .int p2, .int p3])).length) Slot.unset).toArray = ls at hl ⊢
  have hl : lv_has ls 5 [(0, .ref a1), (1, .ref a0), (2, .int p1), (3, .int p2), (4, .int p3)] := hl
  show W p l e rm_X3_begin s m args below meth c s.heap [] 0 0 _ _
  refine W.genQ (fun Q hQ => ?_)
  generalize hHe : s.heap = H at hP ⊢
  have hS : va_S A s.heap H [] := by rw [← hHe]; exact va_S.rf
  generalize ([] : List Loc) = locs at hS ⊢
  unfold f_X3_begin at hg
  refine lv_aload_n hx hb dX3_begin_0 rfl (lv_at hl 1 rfl) ?_
  refine lv_iconst (v := 1) hx hb dX3_begin_1 (by decide) ?_
  refine va_put (ci := 1) (v := .int 1) (ty := .boolean) (C := RX2) (T := TX2) (N := 12) hx hb htb uX2 tyX2 tyX2_ok nmX2 hown hK.1 hP hD hS 0 rfl rfl 2 (by decide) (htb _ tg_174) (fun _ h9 => h9) rfl (by decide +kernel) rfl rfl (Nat.le_of_ble_eq_true rfl) dX3_begin_2 (fun H locs hP hD hS => ?_)
  obtain ⟨v0_1, ev0_1⟩ : ∃ z, z = sX2_begun v0 1 := ⟨_, rfl⟩
  have hP : va_P D vwCl (WS_X3_begin cI cJ cZ cY a0 a0_rows a0_takes a1 r1_sight r1_runner r1_trial a2 a2_codes r2_world r2_reads r2_flight a3 a3_lensSide a3_lensWidth a3_pairA a3_pairB a3_pairDelay v0_1 v1 v2 v3) H := by rw [ev0_1]; exact hP
  have hD : va_D A (WS_X3_begin cI cJ cZ cY a0 a0_rows a0_takes a1 r1_sight r1_runner r1_trial a2 a2_codes r2_world r2_reads r2_flight a3 a3_lensSide a3_lensWidth a3_pairA a3_pairB a3_pairDelay v0_1 v1 v2 v3) := by rw [ev0_1]; exact hD
  have hg := g_lte hg v0_1 ev0_1
  refine lv_aload_n hx hb dX3_begin_5 rfl (lv_at hl 1 rfl) ?_
  refine lv_iconst (v := 0) hx hb dX3_begin_6 (by decide) ?_
  refine va_put (ci := 1) (v := .int 0) (ty := .boolean) (C := RX2) (T := TX2) (N := 12) hx hb htb uX2 tyX2 tyX2_ok nmX2 hown hK.1 hP hD hS 0 rfl rfl 3 (by decide) (htb _ tg_177) (fun _ h9 => h9) rfl (by decide +kernel) rfl rfl (Nat.le_of_ble_eq_true rfl) dX3_begin_7 (fun H locs hP hD hS => ?_)
  obtain ⟨v0_2, ev0_2⟩ : ∃ z, z = sX2_hit v0_1 0 := ⟨_, rfl⟩
  have hP : va_P D vwCl (WS_X3_begin cI cJ cZ cY a0 a0_rows a0_takes a1 r1_sight r1_runner r1_trial a2 a2_codes r2_world r2_reads r2_flight a3 a3_lensSide a3_lensWidth a3_pairA a3_pairB a3_pairDelay v0_2 v1 v2 v3) H := by rw [ev0_2]; exact hP
  have hD : va_D A (WS_X3_begin cI cJ cZ cY a0 a0_rows a0_takes a1 r1_sight r1_runner r1_trial a2 a2_codes r2_world r2_reads r2_flight a3 a3_lensSide a3_lensWidth a3_pairA a3_pairB a3_pairDelay v0_2 v1 v2 v3) := by rw [ev0_2]; exact hD
  have hg := g_lte hg v0_2 ev0_2
  refine lv_aload_n hx hb dX3_begin_10 rfl (lv_at hl 1 rfl) ?_
  refine lv_iconst (v := 0) hx hb dX3_begin_11 (by decide) ?_
  refine va_put (ci := 1) (v := .int 0) (ty := .boolean) (C := RX2) (T := TX2) (N := 12) hx hb htb uX2 tyX2 tyX2_ok nmX2 hown hK.1 hP hD hS 0 rfl rfl 4 (by decide) (htb _ tg_180) (fun _ h9 => h9) rfl (by decide +kernel) rfl rfl (Nat.le_of_ble_eq_true rfl) dX3_begin_12 (fun H locs hP hD hS => ?_)
  obtain ⟨v0_3, ev0_3⟩ : ∃ z, z = sX2_rested v0_2 0 := ⟨_, rfl⟩
  have hP : va_P D vwCl (WS_X3_begin cI cJ cZ cY a0 a0_rows a0_takes a1 r1_sight r1_runner r1_trial a2 a2_codes r2_world r2_reads r2_flight a3 a3_lensSide a3_lensWidth a3_pairA a3_pairB a3_pairDelay v0_3 v1 v2 v3) H := by rw [ev0_3]; exact hP
  have hD : va_D A (WS_X3_begin cI cJ cZ cY a0 a0_rows a0_takes a1 r1_sight r1_runner r1_trial a2 a2_codes r2_world r2_reads r2_flight a3 a3_lensSide a3_lensWidth a3_pairA a3_pairB a3_pairDelay v0_3 v1 v2 v3) := by rw [ev0_3]; exact hD
  have hg := g_lte hg v0_3 ev0_3
  refine lv_aload_n hx hb dX3_begin_15 rfl (lv_at hl 1 rfl) ?_
  refine lv_iconst (v := 0) hx hb dX3_begin_16 (by decide) ?_
  refine va_put (ci := 1) (v := .int 0) (ty := .int) (C := RX2) (T := TX2) (N := 12) hx hb htb uX2 tyX2 tyX2_ok nmX2 hown hK.1 hP hD hS 0 rfl rfl 5 (by decide) (htb _ tg_184) (fun _ h9 => h9) rfl (by decide +kernel) rfl rfl (Nat.le_of_ble_eq_true rfl) dX3_begin_17 (fun H locs hP hD hS => ?_)
  obtain ⟨v0_4, ev0_4⟩ : ∃ z, z = sX2_count v0_3 0 := ⟨_, rfl⟩
  have hP : va_P D vwCl (WS_X3_begin cI cJ cZ cY a0 a0_rows a0_takes a1 r1_sight r1_runner r1_trial a2 a2_codes r2_world r2_reads r2_flight a3 a3_lensSide a3_lensWidth a3_pairA a3_pairB a3_pairDelay v0_4 v1 v2 v3) H := by rw [ev0_4]; exact hP
  have hD : va_D A (WS_X3_begin cI cJ cZ cY a0 a0_rows a0_takes a1 r1_sight r1_runner r1_trial a2 a2_codes r2_world r2_reads r2_flight a3 a3_lensSide a3_lensWidth a3_pairA a3_pairB a3_pairDelay v0_4 v1 v2 v3) := by rw [ev0_4]; exact hD
  have hg := g_lte hg v0_4 ev0_4
  refine lv_aload_n hx hb dX3_begin_20 rfl (lv_at hl 1 rfl) ?_
  refine lv_iconst (v := 0) hx hb dX3_begin_21 (by decide) ?_
  refine va_put (ci := 1) (v := .int 0) (ty := .int) (C := RX2) (T := TX2) (N := 12) hx hb htb uX2 tyX2 tyX2_ok nmX2 hown hK.1 hP hD hS 0 rfl rfl 6 (by decide) (htb _ tg_187) (fun _ h9 => h9) rfl (by decide +kernel) rfl rfl (Nat.le_of_ble_eq_true rfl) dX3_begin_22 (fun H locs hP hD hS => ?_)
  obtain ⟨v0_5, ev0_5⟩ : ∃ z, z = sX2_over v0_4 0 := ⟨_, rfl⟩
  have hP : va_P D vwCl (WS_X3_begin cI cJ cZ cY a0 a0_rows a0_takes a1 r1_sight r1_runner r1_trial a2 a2_codes r2_world r2_reads r2_flight a3 a3_lensSide a3_lensWidth a3_pairA a3_pairB a3_pairDelay v0_5 v1 v2 v3) H := by rw [ev0_5]; exact hP
  have hD : va_D A (WS_X3_begin cI cJ cZ cY a0 a0_rows a0_takes a1 r1_sight r1_runner r1_trial a2 a2_codes r2_world r2_reads r2_flight a3 a3_lensSide a3_lensWidth a3_pairA a3_pairB a3_pairDelay v0_5 v1 v2 v3) := by rw [ev0_5]; exact hD
  have hg := g_lte hg v0_5 ev0_5
  refine lv_aload_n hx hb dX3_begin_25 rfl (lv_at hl 1 rfl) ?_
  refine lv_iload_n hx hb dX3_begin_26 rfl (lv_at hl 2 rfl) ?_
  refine va_put (ci := 1) (v := .int p1) (ty := .int) (C := RX2) (T := TX2) (N := 12) hx hb htb uX2 tyX2 tyX2_ok nmX2 hown hK.1 hP hD hS 0 rfl rfl 7 (by decide) (htb _ tg_191) (fun _ h9 => h9) rfl (by decide +kernel) rfl rfl (Nat.le_of_ble_eq_true rfl) dX3_begin_27 (fun H locs hP hD hS => ?_)
  obtain ⟨v0_6, ev0_6⟩ : ∃ z, z = sX2_x v0_5 p1 := ⟨_, rfl⟩
  have hP : va_P D vwCl (WS_X3_begin cI cJ cZ cY a0 a0_rows a0_takes a1 r1_sight r1_runner r1_trial a2 a2_codes r2_world r2_reads r2_flight a3 a3_lensSide a3_lensWidth a3_pairA a3_pairB a3_pairDelay v0_6 v1 v2 v3) H := by rw [ev0_6]; exact hP
  have hD : va_D A (WS_X3_begin cI cJ cZ cY a0 a0_rows a0_takes a1 r1_sight r1_runner r1_trial a2 a2_codes r2_world r2_reads r2_flight a3 a3_lensSide a3_lensWidth a3_pairA a3_pairB a3_pairDelay v0_6 v1 v2 v3) := by rw [ev0_6]; exact hD
  have hg := g_lte hg v0_6 ev0_6
  refine lv_aload_n hx hb dX3_begin_30 rfl (lv_at hl 1 rfl) ?_
  refine lv_iload_n hx hb dX3_begin_31 rfl (lv_at hl 3 rfl) ?_
  refine va_put (ci := 1) (v := .int p2) (ty := .int) (C := RX2) (T := TX2) (N := 12) hx hb htb uX2 tyX2 tyX2_ok nmX2 hown hK.1 hP hD hS 0 rfl rfl 8 (by decide) (htb _ tg_194) (fun _ h9 => h9) rfl (by decide +kernel) rfl rfl (Nat.le_of_ble_eq_true rfl) dX3_begin_32 (fun H locs hP hD hS => ?_)
  obtain ⟨v0_7, ev0_7⟩ : ∃ z, z = sX2_y v0_6 p2 := ⟨_, rfl⟩
  have hP : va_P D vwCl (WS_X3_begin cI cJ cZ cY a0 a0_rows a0_takes a1 r1_sight r1_runner r1_trial a2 a2_codes r2_world r2_reads r2_flight a3 a3_lensSide a3_lensWidth a3_pairA a3_pairB a3_pairDelay v0_7 v1 v2 v3) H := by rw [ev0_7]; exact hP
  have hD : va_D A (WS_X3_begin cI cJ cZ cY a0 a0_rows a0_takes a1 r1_sight r1_runner r1_trial a2 a2_codes r2_world r2_reads r2_flight a3 a3_lensSide a3_lensWidth a3_pairA a3_pairB a3_pairDelay v0_7 v1 v2 v3) := by rw [ev0_7]; exact hD
  have hg := g_lte hg v0_7 ev0_7
  refine lv_aload_n hx hb dX3_begin_35 rfl (lv_at hl 1 rfl) ?_
  refine lv_iload hx hb dX3_begin_36 (lv_at hl 4 rfl) ?_
  refine va_put (ci := 1) (v := .int p3) (ty := .int) (C := RX2) (T := TX2) (N := 12) hx hb htb uX2 tyX2 tyX2_ok nmX2 hown hK.1 hP hD hS 0 rfl rfl 9 (by decide) (htb _ tg_197) (fun _ h9 => h9) rfl (by decide +kernel) rfl rfl (Nat.le_of_ble_eq_true rfl) dX3_begin_38 (fun H locs hP hD hS => ?_)
  obtain ⟨v0_8, ev0_8⟩ : ∃ z, z = sX2_head v0_7 p3 := ⟨_, rfl⟩
  have hP : va_P D vwCl (WS_X3_begin cI cJ cZ cY a0 a0_rows a0_takes a1 r1_sight r1_runner r1_trial a2 a2_codes r2_world r2_reads r2_flight a3 a3_lensSide a3_lensWidth a3_pairA a3_pairB a3_pairDelay v0_8 v1 v2 v3) H := by rw [ev0_8]; exact hP
  have hD : va_D A (WS_X3_begin cI cJ cZ cY a0 a0_rows a0_takes a1 r1_sight r1_runner r1_trial a2 a2_codes r2_world r2_reads r2_flight a3 a3_lensSide a3_lensWidth a3_pairA a3_pairB a3_pairDelay v0_8 v1 v2 v3) := by rw [ev0_8]; exact hD
  have hg := g_lte hg v0_8 ev0_8
  refine lv_aload_n hx hb dX3_begin_41 rfl (lv_at hl 1 rfl) ?_
  refine lv_aload_n hx hb dX3_begin_42 rfl (lv_at hl 0 rfl) ?_
  refine va_get (ci := 2) (v := .ref a2) (C := RX3) (T := TX3) (N := 4) hx hb htb uX3 hown hK.1 hP 3 rfl rfl 0 (by decide) (htb _ tg_332) (fun _ h9 => h9) rfl dX3_begin_43 ?_
  refine va_get (ci := 7) (v := .ref a3) (C := RX8) (T := TX8) (N := 6) hx hb htb uX8 hown hK.1 hP 4 rfl rfl 1 (by decide) (htb _ tg_235) (fun _ h9 => h9) rfl dX3_begin_46 ?_
  refine va_get (ci := 0) (v := .int (pX1_lenses v3)) (C := RX1) (T := TX1) (N := 7) hx hb htb uX1 hown hK.1 hP 6 rfl rfl 5 (by decide) (htb _ tg_108) (fun _ h9 => h9) rfl dX3_begin_49 ?_
  refine lv_topi (fun x_9 ex_9 => ?_)
  have hg := g_lte hg x_9 ex_9
  refine va_put (ci := 1) (v := .int x_9) (ty := .int) (C := RX2) (T := TX2) (N := 12) hx hb htb uX2 tyX2 tyX2_ok nmX2 hown hK.1 hP hD hS 0 rfl rfl 10 (by decide) (htb _ tg_199) (fun _ h9 => h9) rfl (by decide +kernel) rfl rfl (Nat.le_of_ble_eq_true rfl) dX3_begin_52 (fun H locs hP hD hS => ?_)
  obtain ⟨v0_10, ev0_10⟩ : ∃ z, z = sX2_lenses v0_8 x_9 := ⟨_, rfl⟩
  have hP : va_P D vwCl (WS_X3_begin cI cJ cZ cY a0 a0_rows a0_takes a1 r1_sight r1_runner r1_trial a2 a2_codes r2_world r2_reads r2_flight a3 a3_lensSide a3_lensWidth a3_pairA a3_pairB a3_pairDelay v0_10 v1 v2 v3) H := by rw [ev0_10]; exact hP
  have hD : va_D A (WS_X3_begin cI cJ cZ cY a0 a0_rows a0_takes a1 r1_sight r1_runner r1_trial a2 a2_codes r2_world r2_reads r2_flight a3 a3_lensSide a3_lensWidth a3_pairA a3_pairB a3_pairDelay v0_10 v1 v2 v3) := by rw [ev0_10]; exact hD
  have hg := g_lte hg v0_10 ev0_10
  refine lv_aload_n hx hb dX3_begin_55 rfl (lv_at hl 1 rfl) ?_
  refine lv_aload_n hx hb dX3_begin_56 rfl (lv_at hl 0 rfl) ?_
  refine va_get (ci := 2) (v := .ref a2) (C := RX3) (T := TX3) (N := 4) hx hb htb uX3 hown hK.1 hP 3 rfl rfl 0 (by decide) (htb _ tg_332) (fun _ h9 => h9) rfl dX3_begin_57 ?_
  refine va_get (ci := 7) (v := .ref a3) (C := RX8) (T := TX8) (N := 6) hx hb htb uX8 hown hK.1 hP 4 rfl rfl 1 (by decide) (htb _ tg_235) (fun _ h9 => h9) rfl dX3_begin_60 ?_
  refine va_get (ci := 0) (v := .int (pX1_pairs v3)) (C := RX1) (T := TX1) (N := 7) hx hb htb uX1 hown hK.1 hP 6 rfl rfl 6 (by decide) (htb _ tg_110) (fun _ h9 => h9) rfl dX3_begin_63 ?_
  refine lv_topi (fun x_11 ex_11 => ?_)
  have hg := g_lte hg x_11 ex_11
  refine va_put (ci := 1) (v := .int x_11) (ty := .int) (C := RX2) (T := TX2) (N := 12) hx hb htb uX2 tyX2 tyX2_ok nmX2 hown hK.1 hP hD hS 0 rfl rfl 11 (by decide) (htb _ tg_202) (fun _ h9 => h9) rfl (by decide +kernel) rfl rfl (Nat.le_of_ble_eq_true rfl) dX3_begin_66 (fun H locs hP hD hS => ?_)
  obtain ⟨v0_12, ev0_12⟩ : ∃ z, z = sX2_pairs v0_10 x_11 := ⟨_, rfl⟩
  have hP : va_P D vwCl (WS_X3_begin cI cJ cZ cY a0 a0_rows a0_takes a1 r1_sight r1_runner r1_trial a2 a2_codes r2_world r2_reads r2_flight a3 a3_lensSide a3_lensWidth a3_pairA a3_pairB a3_pairDelay v0_12 v1 v2 v3) H := by rw [ev0_12]; exact hP
  have hD : va_D A (WS_X3_begin cI cJ cZ cY a0 a0_rows a0_takes a1 r1_sight r1_runner r1_trial a2 a2_codes r2_world r2_reads r2_flight a3 a3_lensSide a3_lensWidth a3_pairA a3_pairB a3_pairDelay v0_12 v1 v2 v3) := by rw [ev0_12]; exact hD
  have hg := g_lte hg v0_12 ev0_12
  have hg := Option.some.inj hg
  rw [hQ]
  exact W.vret hx hb hr (fun t ht hW => ⟨⟨(v0_12), rfl, hg, by rw [ht]; exact hP, hD⟩, hS.F ht⟩) hS.2.2 dX3_begin_69

/-! ManyEyes$Parser.refuse(I)Z -/
def WS_X4_refuse (cI cJ cZ cY : ClassId) (a0 a0_code a1 a1_kinds a1_starts a1_values : Nat) (v0 : BX4) (v1 : BX9) : va_W := (GX4 cI cJ cZ cY a0 a0_code a1 v0) ++ ((GX9 cI cJ cZ cY a1 a1_kinds a1_starts a1_values v1))
def f_X4_refuse (v0 : BX4) (v1 : BX9) (p0 : Int32) : Option (Int32 × BX4) := if ((pX4_fault v0) : Int32) = 0 then (g_lt (sX4_fault v0 p0) (fun v0_2 => g_lt ((pX9_start v1) : Int32) (fun x_3 => g_lt (sX4_place v0_2 x_3) (fun v0_4 => some (0, v0_4))))) else (some (0, v0))
abbrev rm_X4_refuse : Room := { frames := 0, cells := 0, slots := 0, locals := 0 }
set_option maxHeartbeats 4000000 in
set_option maxRecDepth 100000 in
theorem k_X4_refuse {l : Launch} {D : va_G} {cI cJ cZ cY : ClassId} {tX tY : Nat} {sz : Nat} (a0 a0_code a1 a1_kinds a1_starts a1_values : Nat) (v0 : BX4) (v1 : BX9) (p0 : Int32) (res : Int32 × BX4) (hg : f_X4_refuse v0 v1 p0 = some res) : Met l yX4_refuse (Cond.code yX4_refuse cX4_refuse 2 (some .boolean) :: TB) rm_X4_refuse (PC D cI cJ cZ cY tX tY [.ref a0, .int p0] (WS_X4_refuse cI cJ cZ cY a0 a0_code a1 a1_kinds a1_starts a1_values v0 v1) sz) (va_Qi (fun (r : Int32) (u : BX4) => r = res.1 ∧ u = res.2) (BC D (fun u : BX4 => WS_X4_refuse cI cJ cZ cY a0 a0_code a1 a1_kinds a1_starts a1_values u v1) (va_A (WS_X4_refuse cI cJ cZ cY a0 a0_code a1 a1_kinds a1_starts a1_values v0 v1) sz)) (va_A (WS_X4_refuse cI cJ cZ cY a0 a0_code a1 a1_kinds a1_starts a1_values v0 v1) sz)) 0 0 (va_A (WS_X4_refuse cI cJ cZ cY a0 a0_code a1 a1_kinds a1_starts a1_values v0 v1) sz) := by
  refine Met.ofW (cc := cX4_refuse) (maxL := 2) (ret := (some .boolean)) (by decide) rfl ?_
  intro p e s m args below meth c s₁ B hml hv
  obtain ⟨hargs, hsz, hP, hK, hD0, hT⟩ := hv
  have hx := B.exec
  have hb := B.bytes
  have hr := B.returns
  have htb : ∀ w ∈ TB, w.before args s = true := fun w h => atoms_spec (ws := Cond.code yX4_refuse cX4_refuse 2 (some .boolean) :: TB) B.pre w (List.mem_cons_of_mem _ h)
  have hown : s.vm.findClass "ManyEyes$Parser" = some m.cls := findClass_of_methodNamed B.named
  have hlocks := B.notSynchronized
  subst hsz
  have hD := hD0.self (sz := s.heap.size)
  generalize hAe : va_A (WS_X4_refuse cI cJ cZ cY a0 a0_code a1 a1_kinds a1_starts a1_values v0 v1) s.heap.size = A at hD hT ⊢
  have hA : ∀ q : Nat, s.heap.size ≤ q → A q := fun q h => by rw [← hAe]; exact Or.inr h
  have hS : va_S A s.heap s.heap [] := va_S.rf
  have hl := lv_entry ([.ref a0, .int p0]) (n := 2) (Nat.le_of_ble_eq_true rfl)
  have he : entryFrame m args 2 = F0 m 0 (lg_sl ([.ref a0, .int p0]) ++ List.replicate (2 - (lg_sl ([.ref a0, .int p0])).length) Slot.unset).toArray [] := by rw [hargs, lg_entry_eq]
  rw [he]
  generalize (lg_sl ([.ref a0, .int p0]) ++ List.replicate (2 - (lg_sl ([.ref a0, .int p0])).length) Slot.unset).toArray = ls at hl ⊢
  have hl : lv_has ls 2 [(0, .ref a0), (1, .int p0)] := hl
  show W p l e rm_X4_refuse s m args below meth c s.heap [] 0 0 _ _
  refine W.genQ (fun Q hQ => ?_)
  generalize hHe : s.heap = H at hP ⊢
  have hS : va_S A s.heap H [] := by rw [← hHe]; exact va_S.rf
  generalize ([] : List Loc) = locs at hS ⊢
  unfold f_X4_refuse at hg
  refine lv_aload_n hx hb dX4_refuse_0 rfl (lv_at hl 0 rfl) ?_
  refine va_get (ci := 3) (v := .int (pX4_fault v0)) (C := RX4) (T := TX4) (N := 8) hx hb htb uX4 hown hK.1 hP 0 rfl rfl 6 (by decide) (htb _ tg_391) (fun _ h9 => h9) rfl dX4_refuse_1 ?_
  refine lv_if_ne (tgt := 23) hx hb dX4_refuse_4 (by decide) (fun c_1 => ?_) (fun c_1 => ?_)
  · have hg := g_if hg c_1
    refine lv_iconst (v := 0) hx hb dX4_refuse_23 (by decide) ?_
    have hg := Option.some.inj hg
    rw [hQ]
    exact W.zret (v := 0) (ty := .boolean) hx hb hr rfl (fun t ht hW => ⟨⟨0, (v0), rfl, ⟨by rw [← hg], by rw [← hg]⟩, by rw [ht]; exact hP, hD⟩, hS.F ht⟩) hS.2.2 dX4_refuse_24
  · have hg := g_it hg c_1
    refine lv_aload_n hx hb dX4_refuse_7 rfl (lv_at hl 0 rfl) ?_
    refine lv_iload_n hx hb dX4_refuse_8 rfl (lv_at hl 1 rfl) ?_
    refine va_put (ci := 3) (v := .int p0) (ty := .int) (C := RX4) (T := TX4) (N := 8) hx hb htb uX4 tyX4 tyX4_ok nmX4 hown hK.1 hP hD hS 0 rfl rfl 6 (by decide) (htb _ tg_391) (fun _ h9 => h9) rfl (by decide +kernel) rfl rfl (Nat.le_of_ble_eq_true rfl) dX4_refuse_9 (fun H locs hP hD hS => ?_)
    obtain ⟨v0_2, ev0_2⟩ : ∃ z, z = sX4_fault v0 p0 := ⟨_, rfl⟩
    have hP : va_P D vwCl (WS_X4_refuse cI cJ cZ cY a0 a0_code a1 a1_kinds a1_starts a1_values v0_2 v1) H := by rw [ev0_2]; exact hP
    have hD : va_D A (WS_X4_refuse cI cJ cZ cY a0 a0_code a1 a1_kinds a1_starts a1_values v0_2 v1) := by rw [ev0_2]; exact hD
    have hg := g_lte hg v0_2 ev0_2
    refine lv_aload_n hx hb dX4_refuse_12 rfl (lv_at hl 0 rfl) ?_
    refine lv_aload_n hx hb dX4_refuse_13 rfl (lv_at hl 0 rfl) ?_
    refine va_get (ci := 3) (v := .ref a1) (C := RX4) (T := TX4) (N := 8) hx hb htb uX4 hown hK.1 hP 0 rfl rfl 0 (by decide) (htb _ tg_385) (fun _ h9 => h9) rfl dX4_refuse_14 ?_
    refine va_get (ci := 8) (v := .int (pX9_start v1)) (C := RX9) (T := TX9) (N := 8) hx hb htb uX9 hown hK.1 hP 2 rfl rfl 6 (by decide) (htb _ tg_365) (fun _ h9 => h9) rfl dX4_refuse_17 ?_
    refine lv_topi (fun x_3 ex_3 => ?_)
    have hg := g_lte hg x_3 ex_3
    refine va_put (ci := 3) (v := .int x_3) (ty := .int) (C := RX4) (T := TX4) (N := 8) hx hb htb uX4 tyX4 tyX4_ok nmX4 hown hK.1 hP hD hS 0 rfl rfl 7 (by decide) (htb _ tg_393) (fun _ h9 => h9) rfl (by decide +kernel) rfl rfl (Nat.le_of_ble_eq_true rfl) dX4_refuse_20 (fun H locs hP hD hS => ?_)
    obtain ⟨v0_4, ev0_4⟩ : ∃ z, z = sX4_place v0_2 x_3 := ⟨_, rfl⟩
    have hP : va_P D vwCl (WS_X4_refuse cI cJ cZ cY a0 a0_code a1 a1_kinds a1_starts a1_values v0_4 v1) H := by rw [ev0_4]; exact hP
    have hD : va_D A (WS_X4_refuse cI cJ cZ cY a0 a0_code a1 a1_kinds a1_starts a1_values v0_4 v1) := by rw [ev0_4]; exact hD
    have hg := g_lte hg v0_4 ev0_4
    refine lv_iconst (v := 0) hx hb dX4_refuse_23 (by decide) ?_
    have hg := Option.some.inj hg
    rw [hQ]
    exact W.zret (v := 0) (ty := .boolean) hx hb hr rfl (fun t ht hW => ⟨⟨0, (v0_4), rfl, ⟨by rw [← hg], by rw [← hg]⟩, by rw [ht]; exact hP, hD⟩, hS.F ht⟩) hS.2.2 dX4_refuse_24

/-! ManyEyes$Parser.emit(II)V -/
def WS_X4_emit (cI cJ cZ cY : ClassId) (a0 a0_code r0_tokens : Nat) (v0 : BX4) : va_W := (GX4 cI cJ cZ cY a0 a0_code r0_tokens v0)
def f_X4_emit (v0 : BX4) (p0 : Int32) (p1 : Int32) : Option (BX4) := if (300 : Int32) ≤ (pX4_size v0) then (some (v0)) else (g_lt (((p1 <<< (5 &&& 31)) + p0) : Int32) (fun x_2 => g_gd (inB (pX4_size v0) 300) (g_lt (sX4_code v0 (upd (pX4_code v0) ((pX4_size v0) : Int32).toNatClampNeg x_2)) (fun v0_4 => g_lt (((pX4_size v0_4) + 1) : Int32) (fun x_5 => g_lt (sX4_size v0_4 x_5) (fun v0_6 => some (v0_6)))))))
abbrev rm_X4_emit : Room := { frames := 0, cells := 0, slots := 0, locals := 0 }
set_option maxHeartbeats 4000000 in
set_option maxRecDepth 100000 in
theorem k_X4_emit {l : Launch} {D : va_G} {cI cJ cZ cY : ClassId} {tX tY : Nat} {sz : Nat} (a0 a0_code r0_tokens : Nat) (v0 : BX4) (p0 : Int32) (p1 : Int32) (res : BX4) (hg : f_X4_emit v0 p0 p1 = some res) : Met l yX4_emit (Cond.code yX4_emit cX4_emit 3 none :: TB) rm_X4_emit (PC D cI cJ cZ cY tX tY [.ref a0, .int p0, .int p1] (WS_X4_emit cI cJ cZ cY a0 a0_code r0_tokens v0) sz) (va_Qv (fun (u : BX4) => u = res) (BC D (fun u : BX4 => WS_X4_emit cI cJ cZ cY a0 a0_code r0_tokens u) (va_A (WS_X4_emit cI cJ cZ cY a0 a0_code r0_tokens v0) sz)) (va_A (WS_X4_emit cI cJ cZ cY a0 a0_code r0_tokens v0) sz)) 0 0 (va_A (WS_X4_emit cI cJ cZ cY a0 a0_code r0_tokens v0) sz) := by
  refine Met.ofW (cc := cX4_emit) (maxL := 3) (ret := none) (by decide) rfl ?_
  intro p e s m args below meth c s₁ B hml hv
  obtain ⟨hargs, hsz, hP, hK, hD0, hT⟩ := hv
  have hx := B.exec
  have hb := B.bytes
  have hr := B.returns
  have htb : ∀ w ∈ TB, w.before args s = true := fun w h => atoms_spec (ws := Cond.code yX4_emit cX4_emit 3 none :: TB) B.pre w (List.mem_cons_of_mem _ h)
  have hown : s.vm.findClass "ManyEyes$Parser" = some m.cls := findClass_of_methodNamed B.named
  have hlocks := B.notSynchronized
  subst hsz
  have hD := hD0.self (sz := s.heap.size)
  generalize hAe : va_A (WS_X4_emit cI cJ cZ cY a0 a0_code r0_tokens v0) s.heap.size = A at hD hT ⊢
  have hA : ∀ q : Nat, s.heap.size ≤ q → A q := fun q h => by rw [← hAe]; exact Or.inr h
  have hS : va_S A s.heap s.heap [] := va_S.rf
  have hl := lv_entry ([.ref a0, .int p0, .int p1]) (n := 3) (Nat.le_of_ble_eq_true rfl)
  have he : entryFrame m args 3 = F0 m 0 (lg_sl ([.ref a0, .int p0, .int p1]) ++ List.replicate (3 - (lg_sl ([.ref a0, .int p0, .int p1])).length) Slot.unset).toArray [] := by rw [hargs, lg_entry_eq]
  rw [he]
  generalize (lg_sl ([.ref a0, .int p0, .int p1]) ++ List.replicate (3 - (lg_sl ([.ref a0, .int p0, .int p1])).length) Slot.unset).toArray = ls at hl ⊢
  have hl : lv_has ls 3 [(0, .ref a0), (1, .int p0), (2, .int p1)] := hl
  show W p l e rm_X4_emit s m args below meth c s.heap [] 0 0 _ _
  refine W.genQ (fun Q hQ => ?_)
  generalize hHe : s.heap = H at hP ⊢
  have hS : va_S A s.heap H [] := by rw [← hHe]; exact va_S.rf
  generalize ([] : List Loc) = locs at hS ⊢
  unfold f_X4_emit at hg
  refine lv_aload_n hx hb dX4_emit_0 rfl (lv_at hl 0 rfl) ?_
  refine va_get (ci := 3) (v := .int (pX4_size v0)) (C := RX4) (T := TX4) (N := 8) hx hb htb uX4 hown hK.1 hP 0 rfl rfl 2 (by decide) (htb _ tg_387) (fun _ h9 => h9) rfl dX4_emit_1 ?_
  refine lv_aload_n hx hb dX4_emit_4 rfl (lv_at hl 0 rfl) ?_
  refine va_get (ci := 3) (v := .ref a0_code) (C := RX4) (T := TX4) (N := 8) hx hb htb uX4 hown hK.1 hP 0 rfl rfl 1 (by decide) (htb _ tg_386) (fun _ h9 => h9) rfl dX4_emit_5 ?_
  refine va_alen (v := 300) hx hb hK.1 hP 1 0 rfl rfl rfl dX4_emit_8 ?_
  refine lv_icmp_ge (tgt := 36) hx hb dX4_emit_9 (by decide) (fun c_1 => ?_) (fun c_1 => ?_)
  · have hg := g_it hg c_1
    have hg := Option.some.inj hg
    rw [hQ]
    exact W.vret hx hb hr (fun t ht hW => ⟨⟨(v0), rfl, hg, by rw [ht]; exact hP, hD⟩, hS.F ht⟩) hS.2.2 dX4_emit_36
  · have hg := g_if hg c_1
    refine lv_aload_n hx hb dX4_emit_12 rfl (lv_at hl 0 rfl) ?_
    refine va_get (ci := 3) (v := .ref a0_code) (C := RX4) (T := TX4) (N := 8) hx hb htb uX4 hown hK.1 hP 0 rfl rfl 1 (by decide) (htb _ tg_386) (fun _ h9 => h9) rfl dX4_emit_13 ?_
    refine lv_aload_n hx hb dX4_emit_16 rfl (lv_at hl 0 rfl) ?_
    refine va_get (ci := 3) (v := .int (pX4_size v0)) (C := RX4) (T := TX4) (N := 8) hx hb htb uX4 hown hK.1 hP 0 rfl rfl 2 (by decide) (htb _ tg_387) (fun _ h9 => h9) rfl dX4_emit_17 ?_
    refine lv_iload_n hx hb dX4_emit_20 rfl (lv_at hl 2 rfl) ?_
    refine lv_iconst (v := 5) hx hb dX4_emit_21 (by decide) ?_
    refine lv_ishl hx hb dX4_emit_22 ?_
    refine lv_iload_n hx hb dX4_emit_23 rfl (lv_at hl 1 rfl) ?_
    refine lv_iadd hx hb dX4_emit_24 ?_
    refine lv_topi (fun x_2 ex_2 => ?_)
    have hg := g_lte hg x_2 ex_2
    obtain ⟨h_3, hg⟩ := g_gde hg
    refine va_iast hx hb hK.1 hP hD hS 1 0 rfl rfl (inB_vp h_3) dX4_emit_25 (fun H locs hP hD hS => ?_)
    obtain ⟨v0_4, ev0_4⟩ : ∃ z, z = sX4_code v0 (upd (pX4_code v0) ((pX4_size v0) : Int32).toNatClampNeg x_2) := ⟨_, rfl⟩
    have hP : va_P D vwCl (WS_X4_emit cI cJ cZ cY a0 a0_code r0_tokens v0_4) H := by rw [ev0_4]; exact hP
    have hD : va_D A (WS_X4_emit cI cJ cZ cY a0 a0_code r0_tokens v0_4) := by rw [ev0_4]; exact hD
    have hg := g_lte hg v0_4 ev0_4
    refine lv_aload_n hx hb dX4_emit_26 rfl (lv_at hl 0 rfl) ?_
    refine lv_dup hx hb dX4_emit_27 rfl ?_
    refine va_get (ci := 3) (v := .int (pX4_size v0_4)) (C := RX4) (T := TX4) (N := 8) hx hb htb uX4 hown hK.1 hP 0 rfl rfl 2 (by decide) (htb _ tg_387) (fun _ h9 => h9) rfl dX4_emit_28 ?_
    refine lv_iconst (v := 1) hx hb dX4_emit_31 (by decide) ?_
    refine lv_iadd hx hb dX4_emit_32 ?_
    refine lv_topi (fun x_5 ex_5 => ?_)
    have hg := g_lte hg x_5 ex_5
    refine va_put (ci := 3) (v := .int x_5) (ty := .int) (C := RX4) (T := TX4) (N := 8) hx hb htb uX4 tyX4 tyX4_ok nmX4 hown hK.1 hP hD hS 0 rfl rfl 2 (by decide) (htb _ tg_387) (fun _ h9 => h9) rfl (by decide +kernel) rfl rfl (Nat.le_of_ble_eq_true rfl) dX4_emit_33 (fun H locs hP hD hS => ?_)
    obtain ⟨v0_6, ev0_6⟩ : ∃ z, z = sX4_size v0_4 x_5 := ⟨_, rfl⟩
    have hP : va_P D vwCl (WS_X4_emit cI cJ cZ cY a0 a0_code r0_tokens v0_6) H := by rw [ev0_6]; exact hP
    have hD : va_D A (WS_X4_emit cI cJ cZ cY a0 a0_code r0_tokens v0_6) := by rw [ev0_6]; exact hD
    have hg := g_lte hg v0_6 ev0_6
    have hg := Option.some.inj hg
    rw [hQ]
    exact W.vret hx hb hr (fun t ht hW => ⟨⟨(v0_6), rfl, hg, by rw [ht]; exact hP, hD⟩, hS.F ht⟩) hS.2.2 dX4_emit_36

/-! ManyEyes$Parser.isAndOr(I)Z -/
def WS_X4_isAndOr (cI cJ cZ cY : ClassId) : va_W := []
def f_X4_isAndOr (p0 : Int32) : Option (Int32) := if (p0 : Int32) = 6385252 then (some 1) else (if (p0 : Int32) = 28530 then (some 1) else (some 0))
abbrev rm_X4_isAndOr : Room := { frames := 0, cells := 0, slots := 0, locals := 0 }
set_option maxHeartbeats 4000000 in
set_option maxRecDepth 100000 in
theorem k_X4_isAndOr {l : Launch} {D : va_G} {cI cJ cZ cY : ClassId} {tX tY : Nat} {sz : Nat} (p0 : Int32) (res : Int32) (hg : f_X4_isAndOr p0 = some res) : Met l yX4_isAndOr (Cond.code yX4_isAndOr cX4_isAndOr 1 (some .boolean) :: TB) rm_X4_isAndOr (PC D cI cJ cZ cY tX tY [.int p0] (WS_X4_isAndOr cI cJ cZ cY) sz) (va_Qi (fun (r : Int32) (_ : Unit) => r = res) (BC D (fun _ : Unit => WS_X4_isAndOr cI cJ cZ cY) (va_A (WS_X4_isAndOr cI cJ cZ cY) sz)) (va_A (WS_X4_isAndOr cI cJ cZ cY) sz)) 0 0 (va_A (WS_X4_isAndOr cI cJ cZ cY) sz) := by
  refine Met.ofW (cc := cX4_isAndOr) (maxL := 1) (ret := (some .boolean)) (by decide) rfl ?_
  intro p e s m args below meth c s₁ B hml hv
  obtain ⟨hargs, hsz, hP, hK, hD0, hT⟩ := hv
  have hx := B.exec
  have hb := B.bytes
  have hr := B.returns
  have htb : ∀ w ∈ TB, w.before args s = true := fun w h => atoms_spec (ws := Cond.code yX4_isAndOr cX4_isAndOr 1 (some .boolean) :: TB) B.pre w (List.mem_cons_of_mem _ h)
  have hown : s.vm.findClass "ManyEyes$Parser" = some m.cls := findClass_of_methodNamed B.named
  have hlocks := B.notSynchronized
  subst hsz
  have hD := hD0.self (sz := s.heap.size)
  generalize hAe : va_A (WS_X4_isAndOr cI cJ cZ cY) s.heap.size = A at hD hT ⊢
  have hA : ∀ q : Nat, s.heap.size ≤ q → A q := fun q h => by rw [← hAe]; exact Or.inr h
  have hS : va_S A s.heap s.heap [] := va_S.rf
  have hl := lv_entry ([.int p0]) (n := 1) (Nat.le_of_ble_eq_true rfl)
  have he : entryFrame m args 1 = F0 m 0 (lg_sl ([.int p0]) ++ List.replicate (1 - (lg_sl ([.int p0])).length) Slot.unset).toArray [] := by rw [hargs, lg_entry_eq]
  rw [he]
  generalize (lg_sl ([.int p0]) ++ List.replicate (1 - (lg_sl ([.int p0])).length) Slot.unset).toArray = ls at hl ⊢
  have hl : lv_has ls 1 [(0, .int p0)] := hl
  show W p l e rm_X4_isAndOr s m args below meth c s.heap [] 0 0 _ _
  refine W.genQ (fun Q hQ => ?_)
  generalize hHe : s.heap = H at hP ⊢
  have hS : va_S A s.heap H [] := by rw [← hHe]; exact va_S.rf
  generalize ([] : List Loc) = locs at hS ⊢
  unfold f_X4_isAndOr at hg
  refine lv_iload_n hx hb dX4_isAndOr_0 rfl (lv_at hl 0 rfl) ?_
  refine lv_ldc (v := 6385252) hx hb hown (htb _ tg_708) dX4_isAndOr_1 ?_
  refine lv_icmp_eq (tgt := 13) hx hb dX4_isAndOr_3 (by decide) (fun c_1 => ?_) (fun c_1 => ?_)
  · have hg := g_it hg c_1
    refine lv_iconst (v := 1) hx hb dX4_isAndOr_13 (by decide) ?_
    refine lv_goto (tgt := 18) hx hb dX4_isAndOr_14 (by decide) ?_
    have hg := Option.some.inj hg
    rw [hQ]
    exact W.zret (v := 1) (ty := .boolean) hx hb hr rfl (fun t ht hW => ⟨⟨1, (), rfl, hg, by rw [ht]; exact hP, hD⟩, hS.F ht⟩) hS.2.2 dX4_isAndOr_18
  · have hg := g_if hg c_1
    refine lv_iload_n hx hb dX4_isAndOr_6 rfl (lv_at hl 0 rfl) ?_
    refine lv_sipush (v := 28530) hx hb dX4_isAndOr_7 (by decide) ?_
    refine lv_icmp_ne (tgt := 17) hx hb dX4_isAndOr_10 (by decide) (fun c_2 => ?_) (fun c_2 => ?_)
    · have hg := g_if hg c_2
      refine lv_iconst (v := 0) hx hb dX4_isAndOr_17 (by decide) ?_
      have hg := Option.some.inj hg
      rw [hQ]
      exact W.zret (v := 0) (ty := .boolean) hx hb hr rfl (fun t ht hW => ⟨⟨0, (), rfl, hg, by rw [ht]; exact hP, hD⟩, hS.F ht⟩) hS.2.2 dX4_isAndOr_18
    · have hg := g_it hg c_2
      refine lv_iconst (v := 1) hx hb dX4_isAndOr_13 (by decide) ?_
      refine lv_goto (tgt := 18) hx hb dX4_isAndOr_14 (by decide) ?_
      have hg := Option.some.inj hg
      rw [hQ]
      exact W.zret (v := 1) (ty := .boolean) hx hb hr rfl (fun t ht hW => ⟨⟨1, (), rfl, hg, by rw [ht]; exact hP, hD⟩, hS.F ht⟩) hS.2.2 dX4_isAndOr_18

/-! ManyEyes$Parser.clauseOperation(I)I -/
def WS_X4_clauseOperation (cI cJ cZ cY : ClassId) : va_W := []
def f_X4_clauseOperation (p0 : Int32) : Option (Int32) := if p0 = 26479 then (some 23) else (if p0 = 7103860 then (some 21) else (if p0 = 1919251316 then (some 24) else (if p0 = 1953854062 then (some 22) else (some (-1)))))
abbrev rm_X4_clauseOperation : Room := { frames := 0, cells := 0, slots := 0, locals := 0 }
set_option maxHeartbeats 4000000 in
set_option maxRecDepth 100000 in
theorem k_X4_clauseOperation {l : Launch} {D : va_G} {cI cJ cZ cY : ClassId} {tX tY : Nat} {sz : Nat} (p0 : Int32) (res : Int32) (hg : f_X4_clauseOperation p0 = some res) : Met l yX4_clauseOperation (Cond.code yX4_clauseOperation cX4_clauseOperation 1 (some .int) :: TB) rm_X4_clauseOperation (PC D cI cJ cZ cY tX tY [.int p0] (WS_X4_clauseOperation cI cJ cZ cY) sz) (va_Qi (fun (r : Int32) (_ : Unit) => r = res) (BC D (fun _ : Unit => WS_X4_clauseOperation cI cJ cZ cY) (va_A (WS_X4_clauseOperation cI cJ cZ cY) sz)) (va_A (WS_X4_clauseOperation cI cJ cZ cY) sz)) 0 0 (va_A (WS_X4_clauseOperation cI cJ cZ cY) sz) := by
  refine Met.ofW (cc := cX4_clauseOperation) (maxL := 1) (ret := (some .int)) (by decide) rfl ?_
  intro p e s m args below meth c s₁ B hml hv
  obtain ⟨hargs, hsz, hP, hK, hD0, hT⟩ := hv
  have hx := B.exec
  have hb := B.bytes
  have hr := B.returns
  have htb : ∀ w ∈ TB, w.before args s = true := fun w h => atoms_spec (ws := Cond.code yX4_clauseOperation cX4_clauseOperation 1 (some .int) :: TB) B.pre w (List.mem_cons_of_mem _ h)
  have hown : s.vm.findClass "ManyEyes$Parser" = some m.cls := findClass_of_methodNamed B.named
  have hlocks := B.notSynchronized
  subst hsz
  have hD := hD0.self (sz := s.heap.size)
  generalize hAe : va_A (WS_X4_clauseOperation cI cJ cZ cY) s.heap.size = A at hD hT ⊢
  have hA : ∀ q : Nat, s.heap.size ≤ q → A q := fun q h => by rw [← hAe]; exact Or.inr h
  have hS : va_S A s.heap s.heap [] := va_S.rf
  have hl := lv_entry ([.int p0]) (n := 1) (Nat.le_of_ble_eq_true rfl)
  have he : entryFrame m args 1 = F0 m 0 (lg_sl ([.int p0]) ++ List.replicate (1 - (lg_sl ([.int p0])).length) Slot.unset).toArray [] := by rw [hargs, lg_entry_eq]
  rw [he]
  generalize (lg_sl ([.int p0]) ++ List.replicate (1 - (lg_sl ([.int p0])).length) Slot.unset).toArray = ls at hl ⊢
  have hl : lv_has ls 1 [(0, .int p0)] := hl
  show W p l e rm_X4_clauseOperation s m args below meth c s.heap [] 0 0 _ _
  refine W.genQ (fun Q hQ => ?_)
  generalize hHe : s.heap = H at hP ⊢
  have hS : va_S A s.heap H [] := by rw [← hHe]; exact va_S.rf
  generalize ([] : List Loc) = locs at hS ⊢
  unfold f_X4_clauseOperation at hg
  refine lv_iload_n hx hb dX4_clauseOperation_0 rfl (lv_at hl 0 rfl) ?_
  by_cases c_1 : p0 = 26479
  · have hg := g_it hg c_1
    refine lv_lookup (tgt := 50) (off := 49) hx hb dX4_clauseOperation_1 (by decide +kernel) (by rw [c_1]; decide +kernel) (by decide) ?_
    refine lv_bipush (v := 23) hx hb dX4_clauseOperation_50 (by decide) ?_
    have hg := Option.some.inj hg
    rw [hQ]
    exact W.iret (v := 23) hx hb hr (fun t ht hW => ⟨⟨23, (), rfl, hg, by rw [ht]; exact hP, hD⟩, hS.F ht⟩) hS.2.2 dX4_clauseOperation_52
  have hg := g_if hg c_1
  by_cases c_2 : p0 = 7103860
  · have hg := g_it hg c_2
    refine lv_lookup (tgt := 44) (off := 43) hx hb dX4_clauseOperation_1 (by decide +kernel) (by rw [c_2]; decide +kernel) (by decide) ?_
    refine lv_bipush (v := 21) hx hb dX4_clauseOperation_44 (by decide) ?_
    have hg := Option.some.inj hg
    rw [hQ]
    exact W.iret (v := 21) hx hb hr (fun t ht hW => ⟨⟨21, (), rfl, hg, by rw [ht]; exact hP, hD⟩, hS.F ht⟩) hS.2.2 dX4_clauseOperation_46
  have hg := g_if hg c_2
  by_cases c_3 : p0 = 1919251316
  · have hg := g_it hg c_3
    refine lv_lookup (tgt := 53) (off := 52) hx hb dX4_clauseOperation_1 (by decide +kernel) (by rw [c_3]; decide +kernel) (by decide) ?_
    refine lv_bipush (v := 24) hx hb dX4_clauseOperation_53 (by decide) ?_
    have hg := Option.some.inj hg
    rw [hQ]
    exact W.iret (v := 24) hx hb hr (fun t ht hW => ⟨⟨24, (), rfl, hg, by rw [ht]; exact hP, hD⟩, hS.F ht⟩) hS.2.2 dX4_clauseOperation_55
  have hg := g_if hg c_3
  by_cases c_4 : p0 = 1953854062
  · have hg := g_it hg c_4
    refine lv_lookup (tgt := 47) (off := 46) hx hb dX4_clauseOperation_1 (by decide +kernel) (by rw [c_4]; decide +kernel) (by decide) ?_
    refine lv_bipush (v := 22) hx hb dX4_clauseOperation_47 (by decide) ?_
    have hg := Option.some.inj hg
    rw [hQ]
    exact W.iret (v := 22) hx hb hr (fun t ht hW => ⟨⟨22, (), rfl, hg, by rw [ht]; exact hP, hD⟩, hS.F ht⟩) hS.2.2 dX4_clauseOperation_49
  have hg := g_if hg c_4
  refine lv_lookup (tgt := 56) (off := 55) hx hb dX4_clauseOperation_1 (by decide +kernel) ((lv_osw c_1 (by decide)).trans ((lv_osw c_2 (by decide)).trans ((lv_osw c_3 (by decide)).trans ((lv_osw c_4 (by decide)).trans (rfl))))) (by decide) ?_
  refine lv_iconst (v := (-1)) hx hb dX4_clauseOperation_56 (by decide) ?_
  have hg := Option.some.inj hg
  rw [hQ]
  exact W.iret (v := (-1)) hx hb hr (fun t ht hW => ⟨⟨(-1), (), rfl, hg, by rw [ht]; exact hP, hD⟩, hS.F ht⟩) hS.2.2 dX4_clauseOperation_57

/-! ManyEyes$Parser.compareOperation(I)I -/
def WS_X4_compareOperation (cI cJ cZ cY : ClassId) : va_W := []
def f_X4_compareOperation (p0 : Int32) : Option (Int32) := if p0 = (-6) then (some 16) else (if p0 = (-5) then (some 14) else (if p0 = 35 then (some 18) else (if p0 = 60 then (some 13) else (if p0 = 61 then (some 17) else (if p0 = 62 then (some 15) else (some (-1)))))))
abbrev rm_X4_compareOperation : Room := { frames := 0, cells := 0, slots := 0, locals := 0 }
set_option maxHeartbeats 4000000 in
set_option maxRecDepth 100000 in
theorem k_X4_compareOperation {l : Launch} {D : va_G} {cI cJ cZ cY : ClassId} {tX tY : Nat} {sz : Nat} (p0 : Int32) (res : Int32) (hg : f_X4_compareOperation p0 = some res) : Met l yX4_compareOperation (Cond.code yX4_compareOperation cX4_compareOperation 1 (some .int) :: TB) rm_X4_compareOperation (PC D cI cJ cZ cY tX tY [.int p0] (WS_X4_compareOperation cI cJ cZ cY) sz) (va_Qi (fun (r : Int32) (_ : Unit) => r = res) (BC D (fun _ : Unit => WS_X4_compareOperation cI cJ cZ cY) (va_A (WS_X4_compareOperation cI cJ cZ cY) sz)) (va_A (WS_X4_compareOperation cI cJ cZ cY) sz)) 0 0 (va_A (WS_X4_compareOperation cI cJ cZ cY) sz) := by
  refine Met.ofW (cc := cX4_compareOperation) (maxL := 1) (ret := (some .int)) (by decide) rfl ?_
  intro p e s m args below meth c s₁ B hml hv
  obtain ⟨hargs, hsz, hP, hK, hD0, hT⟩ := hv
  have hx := B.exec
  have hb := B.bytes
  have hr := B.returns
  have htb : ∀ w ∈ TB, w.before args s = true := fun w h => atoms_spec (ws := Cond.code yX4_compareOperation cX4_compareOperation 1 (some .int) :: TB) B.pre w (List.mem_cons_of_mem _ h)
  have hown : s.vm.findClass "ManyEyes$Parser" = some m.cls := findClass_of_methodNamed B.named
  have hlocks := B.notSynchronized
  subst hsz
  have hD := hD0.self (sz := s.heap.size)
  generalize hAe : va_A (WS_X4_compareOperation cI cJ cZ cY) s.heap.size = A at hD hT ⊢
  have hA : ∀ q : Nat, s.heap.size ≤ q → A q := fun q h => by rw [← hAe]; exact Or.inr h
  have hS : va_S A s.heap s.heap [] := va_S.rf
  have hl := lv_entry ([.int p0]) (n := 1) (Nat.le_of_ble_eq_true rfl)
  have he : entryFrame m args 1 = F0 m 0 (lg_sl ([.int p0]) ++ List.replicate (1 - (lg_sl ([.int p0])).length) Slot.unset).toArray [] := by rw [hargs, lg_entry_eq]
  rw [he]
  generalize (lg_sl ([.int p0]) ++ List.replicate (1 - (lg_sl ([.int p0])).length) Slot.unset).toArray = ls at hl ⊢
  have hl : lv_has ls 1 [(0, .int p0)] := hl
  show W p l e rm_X4_compareOperation s m args below meth c s.heap [] 0 0 _ _
  refine W.genQ (fun Q hQ => ?_)
  generalize hHe : s.heap = H at hP ⊢
  have hS : va_S A s.heap H [] := by rw [← hHe]; exact va_S.rf
  generalize ([] : List Loc) = locs at hS ⊢
  unfold f_X4_compareOperation at hg
  refine lv_iload_n hx hb dX4_compareOperation_0 rfl (lv_at hl 0 rfl) ?_
  by_cases c_1 : p0 = (-6)
  · have hg := g_it hg c_1
    refine lv_lookup (tgt := 69) (off := 68) hx hb dX4_compareOperation_1 (by decide +kernel) (by rw [c_1]; decide +kernel) (by decide) ?_
    refine lv_bipush (v := 16) hx hb dX4_compareOperation_69 (by decide) ?_
    have hg := Option.some.inj hg
    rw [hQ]
    exact W.iret (v := 16) hx hb hr (fun t ht hW => ⟨⟨16, (), rfl, hg, by rw [ht]; exact hP, hD⟩, hS.F ht⟩) hS.2.2 dX4_compareOperation_71
  have hg := g_if hg c_1
  by_cases c_2 : p0 = (-5)
  · have hg := g_it hg c_2
    refine lv_lookup (tgt := 63) (off := 62) hx hb dX4_compareOperation_1 (by decide +kernel) (by rw [c_2]; decide +kernel) (by decide) ?_
    refine lv_bipush (v := 14) hx hb dX4_compareOperation_63 (by decide) ?_
    have hg := Option.some.inj hg
    rw [hQ]
    exact W.iret (v := 14) hx hb hr (fun t ht hW => ⟨⟨14, (), rfl, hg, by rw [ht]; exact hP, hD⟩, hS.F ht⟩) hS.2.2 dX4_compareOperation_65
  have hg := g_if hg c_2
  by_cases c_3 : p0 = 35
  · have hg := g_it hg c_3
    refine lv_lookup (tgt := 75) (off := 74) hx hb dX4_compareOperation_1 (by decide +kernel) (by rw [c_3]; decide +kernel) (by decide) ?_
    refine lv_bipush (v := 18) hx hb dX4_compareOperation_75 (by decide) ?_
    have hg := Option.some.inj hg
    rw [hQ]
    exact W.iret (v := 18) hx hb hr (fun t ht hW => ⟨⟨18, (), rfl, hg, by rw [ht]; exact hP, hD⟩, hS.F ht⟩) hS.2.2 dX4_compareOperation_77
  have hg := g_if hg c_3
  by_cases c_4 : p0 = 60
  · have hg := g_it hg c_4
    refine lv_lookup (tgt := 60) (off := 59) hx hb dX4_compareOperation_1 (by decide +kernel) (by rw [c_4]; decide +kernel) (by decide) ?_
    refine lv_bipush (v := 13) hx hb dX4_compareOperation_60 (by decide) ?_
    have hg := Option.some.inj hg
    rw [hQ]
    exact W.iret (v := 13) hx hb hr (fun t ht hW => ⟨⟨13, (), rfl, hg, by rw [ht]; exact hP, hD⟩, hS.F ht⟩) hS.2.2 dX4_compareOperation_62
  have hg := g_if hg c_4
  by_cases c_5 : p0 = 61
  · have hg := g_it hg c_5
    refine lv_lookup (tgt := 72) (off := 71) hx hb dX4_compareOperation_1 (by decide +kernel) (by rw [c_5]; decide +kernel) (by decide) ?_
    refine lv_bipush (v := 17) hx hb dX4_compareOperation_72 (by decide) ?_
    have hg := Option.some.inj hg
    rw [hQ]
    exact W.iret (v := 17) hx hb hr (fun t ht hW => ⟨⟨17, (), rfl, hg, by rw [ht]; exact hP, hD⟩, hS.F ht⟩) hS.2.2 dX4_compareOperation_74
  have hg := g_if hg c_5
  by_cases c_6 : p0 = 62
  · have hg := g_it hg c_6
    refine lv_lookup (tgt := 66) (off := 65) hx hb dX4_compareOperation_1 (by decide +kernel) (by rw [c_6]; decide +kernel) (by decide) ?_
    refine lv_bipush (v := 15) hx hb dX4_compareOperation_66 (by decide) ?_
    have hg := Option.some.inj hg
    rw [hQ]
    exact W.iret (v := 15) hx hb hr (fun t ht hW => ⟨⟨15, (), rfl, hg, by rw [ht]; exact hP, hD⟩, hS.F ht⟩) hS.2.2 dX4_compareOperation_68
  have hg := g_if hg c_6
  refine lv_lookup (tgt := 78) (off := 77) hx hb dX4_compareOperation_1 (by decide +kernel) ((lv_osw c_1 (by decide)).trans ((lv_osw c_2 (by decide)).trans ((lv_osw c_3 (by decide)).trans ((lv_osw c_4 (by decide)).trans ((lv_osw c_5 (by decide)).trans ((lv_osw c_6 (by decide)).trans (rfl))))))) (by decide) ?_
  refine lv_iconst (v := (-1)) hx hb dX4_compareOperation_78 (by decide) ?_
  have hg := Option.some.inj hg
  rw [hQ]
  exact W.iret (v := (-1)) hx hb hr (fun t ht hW => ⟨⟨(-1), (), rfl, hg, by rw [ht]; exact hP, hD⟩, hS.F ht⟩) hS.2.2 dX4_compareOperation_79

/-! ManyEyes$Parser.joinOperation(I)I -/
def WS_X4_joinOperation (cI cJ cZ cY : ClassId) : va_W := []
def f_X4_joinOperation (p0 : Int32) : Option (Int32) := if p0 = 42 then (some 9) else (if p0 = 43 then (some 7) else (if p0 = 44 then (some (-1)) else (if p0 = 45 then (some 8) else (if p0 = 46 then (some (-1)) else (if p0 = 47 then (some 10) else (some (-1)))))))
abbrev rm_X4_joinOperation : Room := { frames := 0, cells := 0, slots := 0, locals := 0 }
set_option maxHeartbeats 4000000 in
set_option maxRecDepth 100000 in
theorem k_X4_joinOperation {l : Launch} {D : va_G} {cI cJ cZ cY : ClassId} {tX tY : Nat} {sz : Nat} (p0 : Int32) (res : Int32) (hg : f_X4_joinOperation p0 = some res) : Met l yX4_joinOperation (Cond.code yX4_joinOperation cX4_joinOperation 1 (some .int) :: TB) rm_X4_joinOperation (PC D cI cJ cZ cY tX tY [.int p0] (WS_X4_joinOperation cI cJ cZ cY) sz) (va_Qi (fun (r : Int32) (_ : Unit) => r = res) (BC D (fun _ : Unit => WS_X4_joinOperation cI cJ cZ cY) (va_A (WS_X4_joinOperation cI cJ cZ cY) sz)) (va_A (WS_X4_joinOperation cI cJ cZ cY) sz)) 0 0 (va_A (WS_X4_joinOperation cI cJ cZ cY) sz) := by
  refine Met.ofW (cc := cX4_joinOperation) (maxL := 1) (ret := (some .int)) (by decide) rfl ?_
  intro p e s m args below meth c s₁ B hml hv
  obtain ⟨hargs, hsz, hP, hK, hD0, hT⟩ := hv
  have hx := B.exec
  have hb := B.bytes
  have hr := B.returns
  have htb : ∀ w ∈ TB, w.before args s = true := fun w h => atoms_spec (ws := Cond.code yX4_joinOperation cX4_joinOperation 1 (some .int) :: TB) B.pre w (List.mem_cons_of_mem _ h)
  have hown : s.vm.findClass "ManyEyes$Parser" = some m.cls := findClass_of_methodNamed B.named
  have hlocks := B.notSynchronized
  subst hsz
  have hD := hD0.self (sz := s.heap.size)
  generalize hAe : va_A (WS_X4_joinOperation cI cJ cZ cY) s.heap.size = A at hD hT ⊢
  have hA : ∀ q : Nat, s.heap.size ≤ q → A q := fun q h => by rw [← hAe]; exact Or.inr h
  have hS : va_S A s.heap s.heap [] := va_S.rf
  have hl := lv_entry ([.int p0]) (n := 1) (Nat.le_of_ble_eq_true rfl)
  have he : entryFrame m args 1 = F0 m 0 (lg_sl ([.int p0]) ++ List.replicate (1 - (lg_sl ([.int p0])).length) Slot.unset).toArray [] := by rw [hargs, lg_entry_eq]
  rw [he]
  generalize (lg_sl ([.int p0]) ++ List.replicate (1 - (lg_sl ([.int p0])).length) Slot.unset).toArray = ls at hl ⊢
  have hl : lv_has ls 1 [(0, .int p0)] := hl
  show W p l e rm_X4_joinOperation s m args below meth c s.heap [] 0 0 _ _
  refine W.genQ (fun Q hQ => ?_)
  generalize hHe : s.heap = H at hP ⊢
  have hS : va_S A s.heap H [] := by rw [← hHe]; exact va_S.rf
  generalize ([] : List Loc) = locs at hS ⊢
  unfold f_X4_joinOperation at hg
  refine lv_iload_n hx hb dX4_joinOperation_0 rfl (lv_at hl 0 rfl) ?_
  by_cases c_1 : p0 = 42
  · have hg := g_it hg c_1
    refine lv_tableIn (tgt := 46) (off := 45) hx hb dX4_joinOperation_1 (by rw [c_1]; decide) (by rw [c_1]; decide) (by rw [c_1]; decide +kernel) (by decide) ?_
    refine lv_bipush (v := 9) hx hb dX4_joinOperation_46 (by decide) ?_
    have hg := Option.some.inj hg
    rw [hQ]
    exact W.iret (v := 9) hx hb hr (fun t ht hW => ⟨⟨9, (), rfl, hg, by rw [ht]; exact hP, hD⟩, hS.F ht⟩) hS.2.2 dX4_joinOperation_48
  have hg := g_if hg c_1
  by_cases c_2 : p0 = 43
  · have hg := g_it hg c_2
    refine lv_tableIn (tgt := 40) (off := 39) hx hb dX4_joinOperation_1 (by rw [c_2]; decide) (by rw [c_2]; decide) (by rw [c_2]; decide +kernel) (by decide) ?_
    refine lv_bipush (v := 7) hx hb dX4_joinOperation_40 (by decide) ?_
    have hg := Option.some.inj hg
    rw [hQ]
    exact W.iret (v := 7) hx hb hr (fun t ht hW => ⟨⟨7, (), rfl, hg, by rw [ht]; exact hP, hD⟩, hS.F ht⟩) hS.2.2 dX4_joinOperation_42
  have hg := g_if hg c_2
  by_cases c_3 : p0 = 44
  · have hg := g_it hg c_3
    refine lv_tableIn (tgt := 52) (off := 51) hx hb dX4_joinOperation_1 (by rw [c_3]; decide) (by rw [c_3]; decide) (by rw [c_3]; decide +kernel) (by decide) ?_
    refine lv_iconst (v := (-1)) hx hb dX4_joinOperation_52 (by decide) ?_
    have hg := Option.some.inj hg
    rw [hQ]
    exact W.iret (v := (-1)) hx hb hr (fun t ht hW => ⟨⟨(-1), (), rfl, hg, by rw [ht]; exact hP, hD⟩, hS.F ht⟩) hS.2.2 dX4_joinOperation_53
  have hg := g_if hg c_3
  by_cases c_4 : p0 = 45
  · have hg := g_it hg c_4
    refine lv_tableIn (tgt := 43) (off := 42) hx hb dX4_joinOperation_1 (by rw [c_4]; decide) (by rw [c_4]; decide) (by rw [c_4]; decide +kernel) (by decide) ?_
    refine lv_bipush (v := 8) hx hb dX4_joinOperation_43 (by decide) ?_
    have hg := Option.some.inj hg
    rw [hQ]
    exact W.iret (v := 8) hx hb hr (fun t ht hW => ⟨⟨8, (), rfl, hg, by rw [ht]; exact hP, hD⟩, hS.F ht⟩) hS.2.2 dX4_joinOperation_45
  have hg := g_if hg c_4
  by_cases c_5 : p0 = 46
  · have hg := g_it hg c_5
    refine lv_tableIn (tgt := 52) (off := 51) hx hb dX4_joinOperation_1 (by rw [c_5]; decide) (by rw [c_5]; decide) (by rw [c_5]; decide +kernel) (by decide) ?_
    refine lv_iconst (v := (-1)) hx hb dX4_joinOperation_52 (by decide) ?_
    have hg := Option.some.inj hg
    rw [hQ]
    exact W.iret (v := (-1)) hx hb hr (fun t ht hW => ⟨⟨(-1), (), rfl, hg, by rw [ht]; exact hP, hD⟩, hS.F ht⟩) hS.2.2 dX4_joinOperation_53
  have hg := g_if hg c_5
  by_cases c_6 : p0 = 47
  · have hg := g_it hg c_6
    refine lv_tableIn (tgt := 49) (off := 48) hx hb dX4_joinOperation_1 (by rw [c_6]; decide) (by rw [c_6]; decide) (by rw [c_6]; decide +kernel) (by decide) ?_
    refine lv_bipush (v := 10) hx hb dX4_joinOperation_49 (by decide) ?_
    have hg := Option.some.inj hg
    rw [hQ]
    exact W.iret (v := 10) hx hb hr (fun t ht hW => ⟨⟨10, (), rfl, hg, by rw [ht]; exact hP, hD⟩, hS.F ht⟩) hS.2.2 dX4_joinOperation_51
  have hg := g_if hg c_6
  have zc_1 := lv_neT (a := 42) c_1 (by decide)
  have zc_2 := lv_neT (a := 43) c_2 (by decide)
  have zc_3 := lv_neT (a := 44) c_3 (by decide)
  have zc_4 := lv_neT (a := 45) c_4 (by decide)
  have zc_5 := lv_neT (a := 46) c_5 (by decide)
  have zc_6 := lv_neT (a := 47) c_6 (by decide)
  refine lv_tableOut (tgt := 52) hx hb dX4_joinOperation_1 (by omega) (by decide) ?_
  refine lv_iconst (v := (-1)) hx hb dX4_joinOperation_52 (by decide) ?_
  have hg := Option.some.inj hg
  rw [hQ]
  exact W.iret (v := (-1)) hx hb hr (fun t ht hW => ⟨⟨(-1), (), rfl, hg, by rw [ht]; exact hP, hD⟩, hS.F ht⟩) hS.2.2 dX4_joinOperation_53

/-! ManyEyes$Runner.bounded(J)I -/
def WS_X6_bounded (cI cJ cZ cY : ClassId) (a0 a0_stack a0_letters r0_eye : Nat) (v0 : BX6) : va_W := (GX6 cI cJ cZ cY a0 a0_stack a0_letters r0_eye v0)
def f_X6_bounded (v0 : BX6) (p0 : Int64) : Option (Int32 × BX6) := if ((lg_cmp p0 (((pX6_bound v0) : Int32).toInt64)) : Int32) ≤ 0 then (if (0 : Int32) ≤ (lg_cmp p0 (((-(pX6_bound v0)) : Int32).toInt64)) then (some (((p0 : Int64).toInt32), v0)) else (g_lt (((pX6_over v0) + 1) : Int32) (fun x_3 => g_lt (sX6_over v0 x_3) (fun v0_4 => some ((-(pX6_bound v0_4)), v0_4))))) else (g_lt (((pX6_over v0) + 1) : Int32) (fun x_5 => g_lt (sX6_over v0 x_5) (fun v0_6 => some ((pX6_bound v0_6), v0_6))))
abbrev rm_X6_bounded : Room := { frames := 0, cells := 0, slots := 0, locals := 0 }
set_option maxHeartbeats 4000000 in
set_option maxRecDepth 100000 in
theorem k_X6_bounded {l : Launch} {D : va_G} {cI cJ cZ cY : ClassId} {tX tY : Nat} {sz : Nat} (a0 a0_stack a0_letters r0_eye : Nat) (v0 : BX6) (p0 : Int64) (res : Int32 × BX6) (hg : f_X6_bounded v0 p0 = some res) : Met l yX6_bounded (Cond.code yX6_bounded cX6_bounded 3 (some .int) :: TB) rm_X6_bounded (PC D cI cJ cZ cY tX tY [.ref a0, .long p0] (WS_X6_bounded cI cJ cZ cY a0 a0_stack a0_letters r0_eye v0) sz) (va_Qi (fun (r : Int32) (u : BX6) => r = res.1 ∧ u = res.2) (BC D (fun u : BX6 => WS_X6_bounded cI cJ cZ cY a0 a0_stack a0_letters r0_eye u) (va_A (WS_X6_bounded cI cJ cZ cY a0 a0_stack a0_letters r0_eye v0) sz)) (va_A (WS_X6_bounded cI cJ cZ cY a0 a0_stack a0_letters r0_eye v0) sz)) 0 0 (va_A (WS_X6_bounded cI cJ cZ cY a0 a0_stack a0_letters r0_eye v0) sz) := by
  refine Met.ofW (cc := cX6_bounded) (maxL := 3) (ret := (some .int)) (by decide) rfl ?_
  intro p e s m args below meth c s₁ B hml hv
  obtain ⟨hargs, hsz, hP, hK, hD0, hT⟩ := hv
  have hx := B.exec
  have hb := B.bytes
  have hr := B.returns
  have htb : ∀ w ∈ TB, w.before args s = true := fun w h => atoms_spec (ws := Cond.code yX6_bounded cX6_bounded 3 (some .int) :: TB) B.pre w (List.mem_cons_of_mem _ h)
  have hown : s.vm.findClass "ManyEyes$Runner" = some m.cls := findClass_of_methodNamed B.named
  have hlocks := B.notSynchronized
  subst hsz
  have hD := hD0.self (sz := s.heap.size)
  generalize hAe : va_A (WS_X6_bounded cI cJ cZ cY a0 a0_stack a0_letters r0_eye v0) s.heap.size = A at hD hT ⊢
  have hA : ∀ q : Nat, s.heap.size ≤ q → A q := fun q h => by rw [← hAe]; exact Or.inr h
  have hS : va_S A s.heap s.heap [] := va_S.rf
  have hl := lv_entry ([.ref a0, .long p0]) (n := 3) (Nat.le_of_ble_eq_true rfl)
  have he : entryFrame m args 3 = F0 m 0 (lg_sl ([.ref a0, .long p0]) ++ List.replicate (3 - (lg_sl ([.ref a0, .long p0])).length) Slot.unset).toArray [] := by rw [hargs, lg_entry_eq]
  rw [he]
  generalize (lg_sl ([.ref a0, .long p0]) ++ List.replicate (3 - (lg_sl ([.ref a0, .long p0])).length) Slot.unset).toArray = ls at hl ⊢
  have hl : lv_has ls 3 [(0, .ref a0), (1, .long p0)] := hl
  show W p l e rm_X6_bounded s m args below meth c s.heap [] 0 0 _ _
  refine W.genQ (fun Q hQ => ?_)
  generalize hHe : s.heap = H at hP ⊢
  have hS : va_S A s.heap H [] := by rw [← hHe]; exact va_S.rf
  generalize ([] : List Loc) = locs at hS ⊢
  unfold f_X6_bounded at hg
  refine lv_lload_n hx hb dX6_bounded_0 rfl (lv_at hl 1 rfl) ?_
  refine lv_aload_n hx hb dX6_bounded_1 rfl (lv_at hl 0 rfl) ?_
  refine va_get (ci := 5) (v := .int (pX6_bound v0)) (C := RX6) (T := TX6) (N := 9) hx hb htb uX6 hown hK.1 hP 0 rfl rfl 4 (by decide) (htb _ tg_301) (fun _ h9 => h9) rfl dX6_bounded_2 ?_
  refine lv_i2l (v := ((pX6_bound v0) : Int32).toInt64) hx hb dX6_bounded_5 rfl ?_
  refine W.lcmp hx hb dX6_bounded_6 ?_
  refine lv_if_le (tgt := 25) hx hb dX6_bounded_7 (by decide) (fun c_1 => ?_) (fun c_1 => ?_)
  · have hg := g_it hg c_1
    refine lv_lload_n hx hb dX6_bounded_25 rfl (lv_at hl 1 rfl) ?_
    refine lv_aload_n hx hb dX6_bounded_26 rfl (lv_at hl 0 rfl) ?_
    refine va_get (ci := 5) (v := .int (pX6_bound v0)) (C := RX6) (T := TX6) (N := 9) hx hb htb uX6 hown hK.1 hP 0 rfl rfl 4 (by decide) (htb _ tg_301) (fun _ h9 => h9) rfl dX6_bounded_27 ?_
    refine lv_ineg hx hb dX6_bounded_30 ?_
    refine lv_i2l (v := ((-(pX6_bound v0)) : Int32).toInt64) hx hb dX6_bounded_31 rfl ?_
    refine W.lcmp hx hb dX6_bounded_32 ?_
    refine lv_if_ge (tgt := 52) hx hb dX6_bounded_33 (by decide) (fun c_2 => ?_) (fun c_2 => ?_)
    · have hg := g_it hg c_2
      refine lv_lload_n hx hb dX6_bounded_52 rfl (lv_at hl 1 rfl) ?_
      refine lv_l2i (v := (p0 : Int64).toInt32) hx hb dX6_bounded_53 rfl ?_
      have hg := Option.some.inj hg
      rw [hQ]
      exact W.iret (v := ((p0 : Int64).toInt32)) hx hb hr (fun t ht hW => ⟨⟨((p0 : Int64).toInt32), (v0), rfl, ⟨by rw [← hg], by rw [← hg]⟩, by rw [ht]; exact hP, hD⟩, hS.F ht⟩) hS.2.2 dX6_bounded_54
    · have hg := g_if hg c_2
      refine lv_aload_n hx hb dX6_bounded_36 rfl (lv_at hl 0 rfl) ?_
      refine lv_dup hx hb dX6_bounded_37 rfl ?_
      refine va_get (ci := 5) (v := .int (pX6_over v0)) (C := RX6) (T := TX6) (N := 9) hx hb htb uX6 hown hK.1 hP 0 rfl rfl 5 (by decide) (htb _ tg_303) (fun _ h9 => h9) rfl dX6_bounded_38 ?_
      refine lv_iconst (v := 1) hx hb dX6_bounded_41 (by decide) ?_
      refine lv_iadd hx hb dX6_bounded_42 ?_
      refine lv_topi (fun x_3 ex_3 => ?_)
      have hg := g_lte hg x_3 ex_3
      refine va_put (ci := 5) (v := .int x_3) (ty := .int) (C := RX6) (T := TX6) (N := 9) hx hb htb uX6 tyX6 tyX6_ok nmX6 hown hK.1 hP hD hS 0 rfl rfl 5 (by decide) (htb _ tg_303) (fun _ h9 => h9) rfl (by decide +kernel) rfl rfl (Nat.le_of_ble_eq_true rfl) dX6_bounded_43 (fun H locs hP hD hS => ?_)
      obtain ⟨v0_4, ev0_4⟩ : ∃ z, z = sX6_over v0 x_3 := ⟨_, rfl⟩
      have hP : va_P D vwCl (WS_X6_bounded cI cJ cZ cY a0 a0_stack a0_letters r0_eye v0_4) H := by rw [ev0_4]; exact hP
      have hD : va_D A (WS_X6_bounded cI cJ cZ cY a0 a0_stack a0_letters r0_eye v0_4) := by rw [ev0_4]; exact hD
      have hg := g_lte hg v0_4 ev0_4
      refine lv_aload_n hx hb dX6_bounded_46 rfl (lv_at hl 0 rfl) ?_
      refine va_get (ci := 5) (v := .int (pX6_bound v0_4)) (C := RX6) (T := TX6) (N := 9) hx hb htb uX6 hown hK.1 hP 0 rfl rfl 4 (by decide) (htb _ tg_301) (fun _ h9 => h9) rfl dX6_bounded_47 ?_
      refine lv_ineg hx hb dX6_bounded_50 ?_
      have hg := Option.some.inj hg
      rw [hQ]
      exact W.iret (v := (-(pX6_bound v0_4))) hx hb hr (fun t ht hW => ⟨⟨(-(pX6_bound v0_4)), (v0_4), rfl, ⟨by rw [← hg], by rw [← hg]⟩, by rw [ht]; exact hP, hD⟩, hS.F ht⟩) hS.2.2 dX6_bounded_51
  · have hg := g_if hg c_1
    refine lv_aload_n hx hb dX6_bounded_10 rfl (lv_at hl 0 rfl) ?_
    refine lv_dup hx hb dX6_bounded_11 rfl ?_
    refine va_get (ci := 5) (v := .int (pX6_over v0)) (C := RX6) (T := TX6) (N := 9) hx hb htb uX6 hown hK.1 hP 0 rfl rfl 5 (by decide) (htb _ tg_303) (fun _ h9 => h9) rfl dX6_bounded_12 ?_
    refine lv_iconst (v := 1) hx hb dX6_bounded_15 (by decide) ?_
    refine lv_iadd hx hb dX6_bounded_16 ?_
    refine lv_topi (fun x_5 ex_5 => ?_)
    have hg := g_lte hg x_5 ex_5
    refine va_put (ci := 5) (v := .int x_5) (ty := .int) (C := RX6) (T := TX6) (N := 9) hx hb htb uX6 tyX6 tyX6_ok nmX6 hown hK.1 hP hD hS 0 rfl rfl 5 (by decide) (htb _ tg_303) (fun _ h9 => h9) rfl (by decide +kernel) rfl rfl (Nat.le_of_ble_eq_true rfl) dX6_bounded_17 (fun H locs hP hD hS => ?_)
    obtain ⟨v0_6, ev0_6⟩ : ∃ z, z = sX6_over v0 x_5 := ⟨_, rfl⟩
    have hP : va_P D vwCl (WS_X6_bounded cI cJ cZ cY a0 a0_stack a0_letters r0_eye v0_6) H := by rw [ev0_6]; exact hP
    have hD : va_D A (WS_X6_bounded cI cJ cZ cY a0 a0_stack a0_letters r0_eye v0_6) := by rw [ev0_6]; exact hD
    have hg := g_lte hg v0_6 ev0_6
    refine lv_aload_n hx hb dX6_bounded_20 rfl (lv_at hl 0 rfl) ?_
    refine va_get (ci := 5) (v := .int (pX6_bound v0_6)) (C := RX6) (T := TX6) (N := 9) hx hb htb uX6 hown hK.1 hP 0 rfl rfl 4 (by decide) (htb _ tg_301) (fun _ h9 => h9) rfl dX6_bounded_21 ?_
    have hg := Option.some.inj hg
    rw [hQ]
    exact W.iret (v := (pX6_bound v0_6)) hx hb hr (fun t ht hW => ⟨⟨(pX6_bound v0_6), (v0_6), rfl, ⟨by rw [← hg], by rw [← hg]⟩, by rw [ht]; exact hP, hD⟩, hS.F ht⟩) hS.2.2 dX6_bounded_24

/-! ManyEyes$Runner.pop()I -/
def WS_X6_pop (cI cJ cZ cY : ClassId) (a0 a0_stack a0_letters r0_eye : Nat) (v0 : BX6) : va_W := (GX6 cI cJ cZ cY a0 a0_stack a0_letters r0_eye v0)
def f_X6_pop (v0 : BX6) : Option (Int32 × BX6) := if (0 : Int32) < (pX6_top v0) then (g_lt (((pX6_top v0) - 1) : Int32) (fun x_2 => g_lt (sX6_top v0 x_2) (fun v0_3 => g_gd (inB (pX6_top v0_3) 64) (some (((pX6_stack v0_3) ((pX6_top v0_3) : Int32).toNatClampNeg), v0_3))))) else (some (0, v0))
abbrev rm_X6_pop : Room := { frames := 0, cells := 0, slots := 0, locals := 0 }
set_option maxHeartbeats 4000000 in
set_option maxRecDepth 100000 in
theorem k_X6_pop {l : Launch} {D : va_G} {cI cJ cZ cY : ClassId} {tX tY : Nat} {sz : Nat} (a0 a0_stack a0_letters r0_eye : Nat) (v0 : BX6) (res : Int32 × BX6) (hg : f_X6_pop v0 = some res) : Met l yX6_pop (Cond.code yX6_pop cX6_pop 1 (some .int) :: TB) rm_X6_pop (PC D cI cJ cZ cY tX tY [.ref a0] (WS_X6_pop cI cJ cZ cY a0 a0_stack a0_letters r0_eye v0) sz) (va_Qi (fun (r : Int32) (u : BX6) => r = res.1 ∧ u = res.2) (BC D (fun u : BX6 => WS_X6_pop cI cJ cZ cY a0 a0_stack a0_letters r0_eye u) (va_A (WS_X6_pop cI cJ cZ cY a0 a0_stack a0_letters r0_eye v0) sz)) (va_A (WS_X6_pop cI cJ cZ cY a0 a0_stack a0_letters r0_eye v0) sz)) 0 0 (va_A (WS_X6_pop cI cJ cZ cY a0 a0_stack a0_letters r0_eye v0) sz) := by
  refine Met.ofW (cc := cX6_pop) (maxL := 1) (ret := (some .int)) (by decide) rfl ?_
  intro p e s m args below meth c s₁ B hml hv
  obtain ⟨hargs, hsz, hP, hK, hD0, hT⟩ := hv
  have hx := B.exec
  have hb := B.bytes
  have hr := B.returns
  have htb : ∀ w ∈ TB, w.before args s = true := fun w h => atoms_spec (ws := Cond.code yX6_pop cX6_pop 1 (some .int) :: TB) B.pre w (List.mem_cons_of_mem _ h)
  have hown : s.vm.findClass "ManyEyes$Runner" = some m.cls := findClass_of_methodNamed B.named
  have hlocks := B.notSynchronized
  subst hsz
  have hD := hD0.self (sz := s.heap.size)
  generalize hAe : va_A (WS_X6_pop cI cJ cZ cY a0 a0_stack a0_letters r0_eye v0) s.heap.size = A at hD hT ⊢
  have hA : ∀ q : Nat, s.heap.size ≤ q → A q := fun q h => by rw [← hAe]; exact Or.inr h
  have hS : va_S A s.heap s.heap [] := va_S.rf
  have hl := lv_entry ([.ref a0]) (n := 1) (Nat.le_of_ble_eq_true rfl)
  have he : entryFrame m args 1 = F0 m 0 (lg_sl ([.ref a0]) ++ List.replicate (1 - (lg_sl ([.ref a0])).length) Slot.unset).toArray [] := by rw [hargs, lg_entry_eq]
  rw [he]
  generalize (lg_sl ([.ref a0]) ++ List.replicate (1 - (lg_sl ([.ref a0])).length) Slot.unset).toArray = ls at hl ⊢
  have hl : lv_has ls 1 [(0, .ref a0)] := hl
  show W p l e rm_X6_pop s m args below meth c s.heap [] 0 0 _ _
  refine W.genQ (fun Q hQ => ?_)
  generalize hHe : s.heap = H at hP ⊢
  have hS : va_S A s.heap H [] := by rw [← hHe]; exact va_S.rf
  generalize ([] : List Loc) = locs at hS ⊢
  unfold f_X6_pop at hg
  refine lv_aload_n hx hb dX6_pop_0 rfl (lv_at hl 0 rfl) ?_
  refine va_get (ci := 5) (v := .int (pX6_top v0)) (C := RX6) (T := TX6) (N := 9) hx hb htb uX6 hown hK.1 hP 0 rfl rfl 3 (by decide) (htb _ tg_300) (fun _ h9 => h9) rfl dX6_pop_1 ?_
  refine lv_if_gt (tgt := 9) hx hb dX6_pop_4 (by decide) (fun c_1 => ?_) (fun c_1 => ?_)
  · have hg := g_it hg c_1
    refine lv_aload_n hx hb dX6_pop_9 rfl (lv_at hl 0 rfl) ?_
    refine lv_dup hx hb dX6_pop_10 rfl ?_
    refine va_get (ci := 5) (v := .int (pX6_top v0)) (C := RX6) (T := TX6) (N := 9) hx hb htb uX6 hown hK.1 hP 0 rfl rfl 3 (by decide) (htb _ tg_300) (fun _ h9 => h9) rfl dX6_pop_11 ?_
    refine lv_iconst (v := 1) hx hb dX6_pop_14 (by decide) ?_
    refine lv_isub hx hb dX6_pop_15 ?_
    refine lv_topi (fun x_2 ex_2 => ?_)
    have hg := g_lte hg x_2 ex_2
    refine va_put (ci := 5) (v := .int x_2) (ty := .int) (C := RX6) (T := TX6) (N := 9) hx hb htb uX6 tyX6 tyX6_ok nmX6 hown hK.1 hP hD hS 0 rfl rfl 3 (by decide) (htb _ tg_300) (fun _ h9 => h9) rfl (by decide +kernel) rfl rfl (Nat.le_of_ble_eq_true rfl) dX6_pop_16 (fun H locs hP hD hS => ?_)
    obtain ⟨v0_3, ev0_3⟩ : ∃ z, z = sX6_top v0 x_2 := ⟨_, rfl⟩
    have hP : va_P D vwCl (WS_X6_pop cI cJ cZ cY a0 a0_stack a0_letters r0_eye v0_3) H := by rw [ev0_3]; exact hP
    have hD : va_D A (WS_X6_pop cI cJ cZ cY a0 a0_stack a0_letters r0_eye v0_3) := by rw [ev0_3]; exact hD
    have hg := g_lte hg v0_3 ev0_3
    refine lv_aload_n hx hb dX6_pop_19 rfl (lv_at hl 0 rfl) ?_
    refine va_get (ci := 5) (v := .ref a0_stack) (C := RX6) (T := TX6) (N := 9) hx hb htb uX6 hown hK.1 hP 0 rfl rfl 1 (by decide) (htb _ tg_298) (fun _ h9 => h9) rfl dX6_pop_20 ?_
    refine lv_aload_n hx hb dX6_pop_23 rfl (lv_at hl 0 rfl) ?_
    refine va_get (ci := 5) (v := .int (pX6_top v0_3)) (C := RX6) (T := TX6) (N := 9) hx hb htb uX6 hown hK.1 hP 0 rfl rfl 3 (by decide) (htb _ tg_300) (fun _ h9 => h9) rfl dX6_pop_24 ?_
    obtain ⟨h_4, hg⟩ := g_gde hg
    refine va_iald hx hb hK.1 hP 1 0 rfl rfl (inB_vp h_4) dX6_pop_27 ?_
    have hg := Option.some.inj hg
    rw [hQ]
    exact W.iret (v := ((pX6_stack v0_3) ((pX6_top v0_3) : Int32).toNatClampNeg)) hx hb hr (fun t ht hW => ⟨⟨((pX6_stack v0_3) ((pX6_top v0_3) : Int32).toNatClampNeg), (v0_3), rfl, ⟨by rw [← hg], by rw [← hg]⟩, by rw [ht]; exact hP, hD⟩, hS.F ht⟩) hS.2.2 dX6_pop_28
  · have hg := g_if hg c_1
    refine lv_iconst (v := 0) hx hb dX6_pop_7 (by decide) ?_
    have hg := Option.some.inj hg
    rw [hQ]
    exact W.iret (v := 0) hx hb hr (fun t ht hW => ⟨⟨0, (v0), rfl, ⟨by rw [← hg], by rw [← hg]⟩, by rw [ht]; exact hP, hD⟩, hS.F ht⟩) hS.2.2 dX6_pop_8
