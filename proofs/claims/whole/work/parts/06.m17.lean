/-! ManyEyes$Runner.joined(III)J -/
def WS_X6_joined (cI cJ cZ cY : ClassId) : va_W := []
def f_X6_joined (p0 : Int32) (p1 : Int32) (p2 : Int32) : Option (Int64) := if p0 = 7 then (some (((p1 : Int32).toInt64) + ((p2 : Int32).toInt64))) else (if p0 = 8 then (some (((p1 : Int32).toInt64) - ((p2 : Int32).toInt64))) else (if p0 = 9 then (some (((p1 : Int32).toInt64) * ((p2 : Int32).toInt64))) else (if p0 = 10 then (if (p2 : Int32) = 0 then (some 0) else (g_gd (¬ (p2 : Int32) = 0) (some (((p1 / p2) : Int32).toInt64)))) else (if p0 = 11 then (some (((if (p2 : Int32) < p1 then p2 else p1) : Int32).toInt64)) else (if p0 = 12 then (some (((if (p1 : Int32) < p2 then p2 else p1) : Int32).toInt64)) else ((f_X6_isSo p0 p1 p2).bind (fun r_9 => if (r_9 : Int32) = 0 then (some 0) else (some 1))))))))
abbrev rm_X6_joined : Room := { frames := 1, cells := 0, slots := 0, locals := 22 }
set_option maxHeartbeats 4000000 in
set_option maxRecDepth 100000 in
theorem k_X6_joined {l : Launch} {D : va_G} {cI cJ cZ cY : ClassId} {tX tY : Nat} {sz : Nat} (p0 : Int32) (p1 : Int32) (p2 : Int32) (res : Int64) (hg : f_X6_joined p0 p1 p2 = some res) : Met l yX6_joined (Cond.code yX6_joined cX6_joined 3 (some .long) :: TB) rm_X6_joined (PC D cI cJ cZ cY tX tY [.int p0, .int p1, .int p2] (WS_X6_joined cI cJ cZ cY) sz) (va_Ql (fun (r : Int64) (_ : Unit) => r = res) (BC D (fun _ : Unit => WS_X6_joined cI cJ cZ cY) (va_A (WS_X6_joined cI cJ cZ cY) sz)) (va_A (WS_X6_joined cI cJ cZ cY) sz)) 0 0 (va_A (WS_X6_joined cI cJ cZ cY) sz) := by
  refine Met.ofW (cc := cX6_joined) (maxL := 3) (ret := (some .long)) (by decide) rfl ?_
  intro p e s m args below meth c s₁ B hml hv
  obtain ⟨hargs, hsz, hP, hK, hD0, hT⟩ := hv
  have hx := B.exec
  have hb := B.bytes
  have hr := B.returns
  have htb : ∀ w ∈ TB, w.before args s = true := fun w h => atoms_spec (ws := Cond.code yX6_joined cX6_joined 3 (some .long) :: TB) B.pre w (List.mem_cons_of_mem _ h)
  have hown : s.vm.findClass "ManyEyes$Runner" = some m.cls := findClass_of_methodNamed B.named
  have hlocks := B.notSynchronized
  subst hsz
  have hD := hD0.self (sz := s.heap.size)
  generalize hAe : va_A (WS_X6_joined cI cJ cZ cY) s.heap.size = A at hD hT ⊢
  have hA : ∀ q : Nat, s.heap.size ≤ q → A q := fun q h => by rw [← hAe]; exact Or.inr h
  have hS : va_S A s.heap s.heap [] := va_S.rf
  have hl := lv_entry ([.int p0, .int p1, .int p2]) (n := 3) (Nat.le_of_ble_eq_true rfl)
  have he : entryFrame m args 3 = F0 m 0 (lg_sl ([.int p0, .int p1, .int p2]) ++ List.replicate (3 - (lg_sl ([.int p0, .int p1, .int p2])).length) Slot.unset).toArray [] := by rw [hargs, lg_entry_eq]
  rw [he]
  generalize (lg_sl ([.int p0, .int p1, .int p2]) ++ List.replicate (3 - (lg_sl ([.int p0, .int p1, .int p2])).length) Slot.unset).toArray = ls at hl ⊢
  have hl : lv_has ls 3 [(0, .int p0), (1, .int p1), (2, .int p2)] := hl
  show W p l e rm_X6_joined s m args below meth c s.heap [] 0 0 _ _
  refine W.genQ (fun Q hQ => ?_)
  generalize hHe : s.heap = H at hP ⊢
  have hS : va_S A s.heap H [] := by rw [← hHe]; exact va_S.rf
  generalize ([] : List Loc) = locs at hS ⊢
  unfold f_X6_joined at hg
  refine lv_iload_n hx hb dX6_joined_0 rfl (lv_at hl 0 rfl) ?_
  by_cases c_1 : p0 = 7
  · have hg := g_it hg c_1
    refine lv_tableIn (tgt := 40) (off := 39) hx hb dX6_joined_1 (by rw [c_1]; decide) (by rw [c_1]; decide) (by rw [c_1]; decide +kernel) (by decide) ?_
    refine lv_iload_n hx hb dX6_joined_40 rfl (lv_at hl 1 rfl) ?_
    refine lv_i2l (v := (p1 : Int32).toInt64) hx hb dX6_joined_41 rfl ?_
    refine lv_iload_n hx hb dX6_joined_42 rfl (lv_at hl 2 rfl) ?_
    refine lv_i2l (v := (p2 : Int32).toInt64) hx hb dX6_joined_43 rfl ?_
    refine lv_ladd hx hb dX6_joined_44 ?_
    have hg := Option.some.inj hg
    rw [hQ]
    exact W.lret (v := (((p1 : Int32).toInt64) + ((p2 : Int32).toInt64))) hx hb hr (fun t ht hW => ⟨⟨(((p1 : Int32).toInt64) + ((p2 : Int32).toInt64)), (), rfl, hg, by rw [ht]; exact hP, hD⟩, hS.F ht⟩) hS.2.2 dX6_joined_45
  have hg := g_if hg c_1
  by_cases c_2 : p0 = 8
  · have hg := g_it hg c_2
    refine lv_tableIn (tgt := 46) (off := 45) hx hb dX6_joined_1 (by rw [c_2]; decide) (by rw [c_2]; decide) (by rw [c_2]; decide +kernel) (by decide) ?_
    refine lv_iload_n hx hb dX6_joined_46 rfl (lv_at hl 1 rfl) ?_
    refine lv_i2l (v := (p1 : Int32).toInt64) hx hb dX6_joined_47 rfl ?_
    refine lv_iload_n hx hb dX6_joined_48 rfl (lv_at hl 2 rfl) ?_
    refine lv_i2l (v := (p2 : Int32).toInt64) hx hb dX6_joined_49 rfl ?_
    refine lv_lsub hx hb dX6_joined_50 ?_
    have hg := Option.some.inj hg
    rw [hQ]
    exact W.lret (v := (((p1 : Int32).toInt64) - ((p2 : Int32).toInt64))) hx hb hr (fun t ht hW => ⟨⟨(((p1 : Int32).toInt64) - ((p2 : Int32).toInt64)), (), rfl, hg, by rw [ht]; exact hP, hD⟩, hS.F ht⟩) hS.2.2 dX6_joined_51
  have hg := g_if hg c_2
  by_cases c_3 : p0 = 9
  · have hg := g_it hg c_3
    refine lv_tableIn (tgt := 52) (off := 51) hx hb dX6_joined_1 (by rw [c_3]; decide) (by rw [c_3]; decide) (by rw [c_3]; decide +kernel) (by decide) ?_
    refine lv_iload_n hx hb dX6_joined_52 rfl (lv_at hl 1 rfl) ?_
    refine lv_i2l (v := (p1 : Int32).toInt64) hx hb dX6_joined_53 rfl ?_
    refine lv_iload_n hx hb dX6_joined_54 rfl (lv_at hl 2 rfl) ?_
    refine lv_i2l (v := (p2 : Int32).toInt64) hx hb dX6_joined_55 rfl ?_
    refine lv_lmul hx hb dX6_joined_56 ?_
    have hg := Option.some.inj hg
    rw [hQ]
    exact W.lret (v := (((p1 : Int32).toInt64) * ((p2 : Int32).toInt64))) hx hb hr (fun t ht hW => ⟨⟨(((p1 : Int32).toInt64) * ((p2 : Int32).toInt64)), (), rfl, hg, by rw [ht]; exact hP, hD⟩, hS.F ht⟩) hS.2.2 dX6_joined_57
  have hg := g_if hg c_3
  by_cases c_4 : p0 = 10
  · have hg := g_it hg c_4
    refine lv_tableIn (tgt := 58) (off := 57) hx hb dX6_joined_1 (by rw [c_4]; decide) (by rw [c_4]; decide) (by rw [c_4]; decide +kernel) (by decide) ?_
    refine lv_iload_n hx hb dX6_joined_58 rfl (lv_at hl 2 rfl) ?_
    refine lv_if_ne (tgt := 66) hx hb dX6_joined_59 (by decide) (fun c_5 => ?_) (fun c_5 => ?_)
    · have hg := g_if hg c_5
      refine lv_iload_n hx hb dX6_joined_66 rfl (lv_at hl 1 rfl) ?_
      refine lv_iload_n hx hb dX6_joined_67 rfl (lv_at hl 2 rfl) ?_
      obtain ⟨h_6, hg⟩ := g_gde hg
      refine lv_idiv hx hb dX6_joined_68 h_6 ?_
      refine lv_i2l (v := ((p1 / p2) : Int32).toInt64) hx hb dX6_joined_69 rfl ?_
      have hg := Option.some.inj hg
      rw [hQ]
      exact W.lret (v := (((p1 / p2) : Int32).toInt64)) hx hb hr (fun t ht hW => ⟨⟨(((p1 / p2) : Int32).toInt64), (), rfl, hg, by rw [ht]; exact hP, hD⟩, hS.F ht⟩) hS.2.2 dX6_joined_70
    · have hg := g_it hg c_5
      refine lv_lconst (v := 0) hx hb dX6_joined_62 (by decide) ?_
      refine lv_goto (tgt := 70) hx hb dX6_joined_63 (by decide) ?_
      have hg := Option.some.inj hg
      rw [hQ]
      exact W.lret (v := 0) hx hb hr (fun t ht hW => ⟨⟨0, (), rfl, hg, by rw [ht]; exact hP, hD⟩, hS.F ht⟩) hS.2.2 dX6_joined_70
  have hg := g_if hg c_4
  by_cases c_7 : p0 = 11
  · have hg := g_it hg c_7
    refine lv_tableIn (tgt := 71) (off := 70) hx hb dX6_joined_1 (by rw [c_7]; decide) (by rw [c_7]; decide) (by rw [c_7]; decide +kernel) (by decide) ?_
    refine lv_iload_n hx hb dX6_joined_71 rfl (lv_at hl 1 rfl) ?_
    refine lv_iload_n hx hb dX6_joined_72 rfl (lv_at hl 2 rfl) ?_
    refine va_mmin hx hb (hml.trans hl.1.symm) hown (htb _ tg_801) (htb _ tg_38) (htb _ tg_4) (htb _ tg_39) (Nat.le_of_ble_eq_true rfl) (Nat.le_of_ble_eq_true rfl) (Nat.le_of_ble_eq_true rfl) (Nat.le_of_ble_eq_true rfl) dX6_joined_73 ?_
    refine lv_i2l (v := ((if (p2 : Int32) < p1 then p2 else p1) : Int32).toInt64) hx hb dX6_joined_76 rfl ?_
    have hg := Option.some.inj hg
    rw [hQ]
    exact W.lret (v := (((if (p2 : Int32) < p1 then p2 else p1) : Int32).toInt64)) hx hb hr (fun t ht hW => ⟨⟨(((if (p2 : Int32) < p1 then p2 else p1) : Int32).toInt64), (), rfl, hg, by rw [ht]; exact hP, hD⟩, hS.F ht⟩) hS.2.2 dX6_joined_77
  have hg := g_if hg c_7
  by_cases c_8 : p0 = 12
  · have hg := g_it hg c_8
    refine lv_tableIn (tgt := 78) (off := 77) hx hb dX6_joined_1 (by rw [c_8]; decide) (by rw [c_8]; decide) (by rw [c_8]; decide +kernel) (by decide) ?_
    refine lv_iload_n hx hb dX6_joined_78 rfl (lv_at hl 1 rfl) ?_
    refine lv_iload_n hx hb dX6_joined_79 rfl (lv_at hl 2 rfl) ?_
    refine va_mmax hx hb (hml.trans hl.1.symm) hown (htb _ tg_802) (htb _ tg_41) (htb _ tg_4) (htb _ tg_42) (Nat.le_of_ble_eq_true rfl) (Nat.le_of_ble_eq_true rfl) (Nat.le_of_ble_eq_true rfl) (Nat.le_of_ble_eq_true rfl) dX6_joined_80 ?_
    refine lv_i2l (v := ((if (p1 : Int32) < p2 then p2 else p1) : Int32).toInt64) hx hb dX6_joined_83 rfl ?_
    have hg := Option.some.inj hg
    rw [hQ]
    exact W.lret (v := (((if (p1 : Int32) < p2 then p2 else p1) : Int32).toInt64)) hx hb hr (fun t ht hW => ⟨⟨(((if (p1 : Int32) < p2 then p2 else p1) : Int32).toInt64), (), rfl, hg, by rw [ht]; exact hP, hD⟩, hS.F ht⟩) hS.2.2 dX6_joined_84
  have hg := g_if hg c_8
  have zc_1 := lv_neT (a := 7) c_1 (by decide)
  have zc_2 := lv_neT (a := 8) c_2 (by decide)
  have zc_3 := lv_neT (a := 9) c_3 (by decide)
  have zc_4 := lv_neT (a := 10) c_4 (by decide)
  have zc_7 := lv_neT (a := 11) c_7 (by decide)
  have zc_8 := lv_neT (a := 12) c_8 (by decide)
  refine lv_tableOut (tgt := 85) hx hb dX6_joined_1 (by omega) (by decide) ?_
  refine lv_iload_n hx hb dX6_joined_85 rfl (lv_at hl 0 rfl) ?_
  refine lv_iload_n hx hb dX6_joined_86 rfl (lv_at hl 1 rfl) ?_
  refine lv_iload_n hx hb dX6_joined_87 rfl (lv_at hl 2 rfl) ?_
  obtain ⟨r_9, hr_9, hg⟩ := g_bd hg
  refine cc_i (va_runS (As := [.int p0, .int p1, .int p2]) (rest := []) ⟨hx, hb, hml, hown, htb⟩ (k_X6_isSo p0 p1 p2 r_9 hr_9) (cw_S 3 htb tg_805 tg_10 tg_803 tg_804 rfl rfl (by decide +kernel) ⟨Nat.le_of_ble_eq_true rfl, Nat.le_of_ble_eq_true rfl⟩) ⟨PC.blind, PC.pre hK hT hP hD hS hA [] rfl (by decide)⟩ rfl rfl hl.1 rfl (lv_room (Nat.le_of_ble_eq_true rfl)) dX6_joined_88 ⟨Nat.le_of_ble_eq_true rfl, Nat.le_of_ble_eq_true rfl⟩) hP hD hS hA [] [] rfl rfl (by decide) (by decide) (fun r9 u9 H locs hw hP hD hS => ?_)
  have hw := hw.symm
  subst hw
  have hP : va_P D vwCl (WS_X6_joined cI cJ cZ cY) H := hP.sub [] rfl
  have hD : va_D A (WS_X6_joined cI cJ cZ cY) := hD.sub [] (by decide) rfl
  refine lv_if_eq (tgt := 98) hx hb dX6_joined_91 (by decide) (fun c_10 => ?_) (fun c_10 => ?_)
  · have hg := g_it hg c_10
    refine lv_lconst (v := 0) hx hb dX6_joined_98 (by decide) ?_
    have hg := Option.some.inj hg
    rw [hQ]
    exact W.lret (v := 0) hx hb hr (fun t ht hW => ⟨⟨0, (), rfl, hg, by rw [ht]; exact hP, hD⟩, hS.F ht⟩) hS.2.2 dX6_joined_99
  · have hg := g_if hg c_10
    refine lv_lconst (v := 1) hx hb dX6_joined_94 (by decide) ?_
    refine lv_goto (tgt := 99) hx hb dX6_joined_95 (by decide) ?_
    have hg := Option.some.inj hg
    rw [hQ]
    exact W.lret (v := 1) hx hb hr (fun t ht hW => ⟨⟨1, (), rfl, hg, by rw [ht]; exact hP, hD⟩, hS.F ht⟩) hS.2.2 dX6_joined_99

/-! ManyEyes$Runner.finish(III)V -/
def WS_X6_finish (cI cJ cZ cY : ClassId) (a0 a0_stack a0_letters r0_eye : Nat) (v0 : BX6) : va_W := (GX6 cI cJ cZ cY a0 a0_stack a0_letters r0_eye v0)
def f_X6_finish_b93 (t1 : Int32) (v0 : BX6) : Option (BX6) := g_gd (t1 = 0 ∨ t1 = 1) (g_lt (sX6_rests v0 t1) (fun v0_2 => some (v0_2)))
def f_X6_finish (v0 : BX6) (p0 : Int32) (p1 : Int32) (p2 : Int32) : Option (BX6) := if p0 = 21 then ((f_X11_isWithin p1 0 7).bind (fun r_4 => if (r_4 : Int32) = 0 then (some (v0)) else (g_gd (inB p1 8) (g_lt (sX6_letters v0 (upd (pX6_letters v0) (p1 : Int32).toNatClampNeg p2)) (fun v0_7 => some (v0_7)))))) else (if p0 = 22 then (g_lt ((if ((-8) : Int32) < (if (p2 : Int32) < 8 then p2 else 8) then (if (p2 : Int32) < 8 then p2 else 8) else (-8)) : Int32) (fun x_9 => g_lt (sX6_turn v0 x_9) (fun v0_10 => some (v0_10)))) else (if p0 = 23 then (g_lt ((if (0 : Int32) < (if (p2 : Int32) < 16 then p2 else 16) then (if (p2 : Int32) < 16 then p2 else 16) else 0) : Int32) (fun x_12 => g_lt (sX6_go v0 x_12) (fun v0_13 => some (v0_13)))) else (if (p2 : Int32) = 0 then (f_X6_finish_b93 0 v0) else (f_X6_finish_b93 1 v0))))
abbrev rm_X6_finish : Room := { frames := 1, cells := 0, slots := 0, locals := 22 }
set_option maxHeartbeats 4000000 in
set_option maxRecDepth 100000 in
theorem k_X6_finish {l : Launch} {D : va_G} {cI cJ cZ cY : ClassId} {tX tY : Nat} {sz : Nat} (a0 a0_stack a0_letters r0_eye : Nat) (v0 : BX6) (p0 : Int32) (p1 : Int32) (p2 : Int32) (res : BX6) (hg : f_X6_finish v0 p0 p1 p2 = some res) : Met l yX6_finish (Cond.code yX6_finish cX6_finish 4 none :: TB) rm_X6_finish (PC D cI cJ cZ cY tX tY [.ref a0, .int p0, .int p1, .int p2] (WS_X6_finish cI cJ cZ cY a0 a0_stack a0_letters r0_eye v0) sz) (va_Qv (fun (u : BX6) => u = res) (BC D (fun u : BX6 => WS_X6_finish cI cJ cZ cY a0 a0_stack a0_letters r0_eye u) (va_A (WS_X6_finish cI cJ cZ cY a0 a0_stack a0_letters r0_eye v0) sz)) (va_A (WS_X6_finish cI cJ cZ cY a0 a0_stack a0_letters r0_eye v0) sz)) 0 0 (va_A (WS_X6_finish cI cJ cZ cY a0 a0_stack a0_letters r0_eye v0) sz) := by
  refine Met.ofW (cc := cX6_finish) (maxL := 4) (ret := none) (by decide) rfl ?_
  intro p e s m args below meth c s₁ B hml hv
  obtain ⟨hargs, hsz, hP, hK, hD0, hT⟩ := hv
  have hx := B.exec
  have hb := B.bytes
  have hr := B.returns
  have htb : ∀ w ∈ TB, w.before args s = true := fun w h => atoms_spec (ws := Cond.code yX6_finish cX6_finish 4 none :: TB) B.pre w (List.mem_cons_of_mem _ h)
  have hown : s.vm.findClass "ManyEyes$Runner" = some m.cls := findClass_of_methodNamed B.named
  have hlocks := B.notSynchronized
  subst hsz
  have hD := hD0.self (sz := s.heap.size)
  generalize hAe : va_A (WS_X6_finish cI cJ cZ cY a0 a0_stack a0_letters r0_eye v0) s.heap.size = A at hD hT ⊢
  have hA : ∀ q : Nat, s.heap.size ≤ q → A q := fun q h => by rw [← hAe]; exact Or.inr h
  have hS : va_S A s.heap s.heap [] := va_S.rf
  have hl := lv_entry ([.ref a0, .int p0, .int p1, .int p2]) (n := 4) (Nat.le_of_ble_eq_true rfl)
  have he : entryFrame m args 4 = F0 m 0 (lg_sl ([.ref a0, .int p0, .int p1, .int p2]) ++ List.replicate (4 - (lg_sl ([.ref a0, .int p0, .int p1, .int p2])).length) Slot.unset).toArray [] := by rw [hargs, lg_entry_eq]
  rw [he]
  generalize (lg_sl ([.ref a0, .int p0, .int p1, .int p2]) ++ List.replicate (4 - (lg_sl ([.ref a0, .int p0, .int p1, .int p2])).length) Slot.unset).toArray = ls at hl ⊢
  have hl : lv_has ls 4 [(0, .ref a0), (1, .int p0), (2, .int p1), (3, .int p2)] := hl
  show W p l e rm_X6_finish s m args below meth c s.heap [] 0 0 _ _
  refine W.genQ (fun Q hQ => ?_)
  have b_93 : ∀ (t1 : Int32) (v0 : BX6) (H : Heap) (locs : List Loc) (ls : Array Slot), va_P D vwCl (WS_X6_finish cI cJ cZ cY a0 a0_stack a0_letters r0_eye v0) H → va_D A (WS_X6_finish cI cJ cZ cY a0 a0_stack a0_letters r0_eye v0) → va_S A s.heap H locs → lv_has ls 4 [] → f_X6_finish_b93 t1 v0 = some res → W p l e rm_X6_finish s m args below meth c H locs 0 0 Q (F0 m 93 ls [.int t1, .ref a0]) := by
    intro t1 v0 H locs ls hP hD hS hl hg
    unfold f_X6_finish_b93 at hg
    obtain ⟨h_1, hg⟩ := g_gde hg
    refine va_put (ci := 5) (v := .int t1) (ty := .boolean) (C := RX6) (T := TX6) (N := 9) hx hb htb uX6 tyX6 tyX6_ok nmX6 hown hK.1 hP hD hS 0 rfl rfl 8 (by decide) (htb _ tg_309) (fun _ h9 => h9) rfl (by decide +kernel) (bool_nar h_1) (bool_fit h_1) (Nat.le_of_ble_eq_true rfl) dX6_finish_93 (fun H locs hP hD hS => ?_)
    obtain ⟨v0_2, ev0_2⟩ : ∃ z, z = sX6_rests v0 t1 := ⟨_, rfl⟩
    have hP : va_P D vwCl (WS_X6_finish cI cJ cZ cY a0 a0_stack a0_letters r0_eye v0_2) H := by rw [ev0_2]; exact hP
    have hD : va_D A (WS_X6_finish cI cJ cZ cY a0 a0_stack a0_letters r0_eye v0_2) := by rw [ev0_2]; exact hD
    have hg := g_lte hg v0_2 ev0_2
    have hg := Option.some.inj hg
    rw [hQ]
    exact W.vret hx hb hr (fun t ht hW => ⟨⟨(v0_2), rfl, hg, by rw [ht]; exact hP, hD⟩, hS.F ht⟩) hS.2.2 dX6_finish_96
  generalize hHe : s.heap = H at hP ⊢
  have hS : va_S A s.heap H [] := by rw [← hHe]; exact va_S.rf
  generalize ([] : List Loc) = locs at hS ⊢
  unfold f_X6_finish at hg
  refine lv_iload_n hx hb dX6_finish_0 rfl (lv_at hl 1 rfl) ?_
  by_cases c_3 : p0 = 21
  · have hg := g_it hg c_3
    refine lv_tableIn (tgt := 28) (off := 27) hx hb dX6_finish_1 (by rw [c_3]; decide) (by rw [c_3]; decide) (by rw [c_3]; decide +kernel) (by decide) ?_
    refine lv_iload_n hx hb dX6_finish_28 rfl (lv_at hl 2 rfl) ?_
    refine lv_iconst (v := 0) hx hb dX6_finish_29 (by decide) ?_
    refine lv_bipush (v := 7) hx hb dX6_finish_30 (by decide) ?_
    obtain ⟨r_4, hr_4, hg⟩ := g_bd hg
    refine cc_i (va_runSN (As := [.int p1, .int 0, .int 7]) (rest := []) ⟨hx, hb, hml, hown, htb⟩ (k_X11_isWithin p1 0 7 r_4 hr_4) (cw_SN 3 htb tg_450 tg_1 (hK.2.1 _ nw_775) tg_449 rfl rfl (by decide +kernel) ⟨Nat.le_of_ble_eq_true rfl, Nat.le_of_ble_eq_true rfl⟩) ⟨PC.blind, PC.pre hK hT hP hD hS hA [] rfl (by decide)⟩ rfl rfl hl.1 rfl (lv_room (Nat.le_of_ble_eq_true rfl)) dX6_finish_32 ⟨Nat.le_of_ble_eq_true rfl, Nat.le_of_ble_eq_true rfl⟩) hP hD hS hA [] [0, 1, 2] rfl rfl (by decide) (by decide) (fun r9 u9 H locs hw hP hD hS => ?_)
    have hw := hw.symm
    subst hw
    have hP : va_P D vwCl (WS_X6_finish cI cJ cZ cY a0 a0_stack a0_letters r0_eye v0) H := hP.sub [0, 1, 2] rfl
    have hD : va_D A (WS_X6_finish cI cJ cZ cY a0 a0_stack a0_letters r0_eye v0) := hD.sub [0, 1, 2] (by decide) rfl
    refine lv_if_eq (tgt := 96) hx hb dX6_finish_35 (by decide) (fun c_5 => ?_) (fun c_5 => ?_)
    · have hg := g_it hg c_5
      have hg := Option.some.inj hg
      rw [hQ]
      exact W.vret hx hb hr (fun t ht hW => ⟨⟨(v0), rfl, hg, by rw [ht]; exact hP, hD⟩, hS.F ht⟩) hS.2.2 dX6_finish_96
    · have hg := g_if hg c_5
      refine lv_aload_n hx hb dX6_finish_38 rfl (lv_at hl 0 rfl) ?_
      refine va_get (ci := 5) (v := .ref a0_letters) (C := RX6) (T := TX6) (N := 9) hx hb htb uX6 hown hK.1 hP 0 rfl rfl 2 (by decide) (htb _ tg_299) (fun _ h9 => h9) rfl dX6_finish_39 ?_
      refine lv_iload_n hx hb dX6_finish_42 rfl (lv_at hl 2 rfl) ?_
      refine lv_iload_n hx hb dX6_finish_43 rfl (lv_at hl 3 rfl) ?_
      obtain ⟨h_6, hg⟩ := g_gde hg
      refine va_iast hx hb hK.1 hP hD hS 2 0 rfl rfl (inB_vp h_6) dX6_finish_44 (fun H locs hP hD hS => ?_)
      obtain ⟨v0_7, ev0_7⟩ : ∃ z, z = sX6_letters v0 (upd (pX6_letters v0) (p1 : Int32).toNatClampNeg p2) := ⟨_, rfl⟩
      have hP : va_P D vwCl (WS_X6_finish cI cJ cZ cY a0 a0_stack a0_letters r0_eye v0_7) H := by rw [ev0_7]; exact hP
      have hD : va_D A (WS_X6_finish cI cJ cZ cY a0 a0_stack a0_letters r0_eye v0_7) := by rw [ev0_7]; exact hD
      have hg := g_lte hg v0_7 ev0_7
      refine lv_goto (tgt := 96) hx hb dX6_finish_45 (by decide) ?_
      have hg := Option.some.inj hg
      rw [hQ]
      exact W.vret hx hb hr (fun t ht hW => ⟨⟨(v0_7), rfl, hg, by rw [ht]; exact hP, hD⟩, hS.F ht⟩) hS.2.2 dX6_finish_96
  have hg := g_if hg c_3
  by_cases c_8 : p0 = 22
  · have hg := g_it hg c_8
    refine lv_tableIn (tgt := 48) (off := 47) hx hb dX6_finish_1 (by rw [c_8]; decide) (by rw [c_8]; decide) (by rw [c_8]; decide +kernel) (by decide) ?_
    refine lv_aload_n hx hb dX6_finish_48 rfl (lv_at hl 0 rfl) ?_
    refine lv_bipush (v := (-8)) hx hb dX6_finish_49 (by decide) ?_
    refine lv_bipush (v := 8) hx hb dX6_finish_51 (by decide) ?_
    refine lv_iload_n hx hb dX6_finish_53 rfl (lv_at hl 3 rfl) ?_
    refine va_mmin hx hb (hml.trans hl.1.symm) hown (htb _ tg_801) (htb _ tg_38) (htb _ tg_4) (htb _ tg_39) (Nat.le_of_ble_eq_true rfl) (Nat.le_of_ble_eq_true rfl) (Nat.le_of_ble_eq_true rfl) (Nat.le_of_ble_eq_true rfl) dX6_finish_54 ?_
    refine va_mmax hx hb (hml.trans hl.1.symm) hown (htb _ tg_802) (htb _ tg_41) (htb _ tg_4) (htb _ tg_42) (Nat.le_of_ble_eq_true rfl) (Nat.le_of_ble_eq_true rfl) (Nat.le_of_ble_eq_true rfl) (Nat.le_of_ble_eq_true rfl) dX6_finish_57 ?_
    refine lv_topi (fun x_9 ex_9 => ?_)
    have hg := g_lte hg x_9 ex_9
    refine va_put (ci := 5) (v := .int x_9) (ty := .int) (C := RX6) (T := TX6) (N := 9) hx hb htb uX6 tyX6 tyX6_ok nmX6 hown hK.1 hP hD hS 0 rfl rfl 6 (by decide) (htb _ tg_305) (fun _ h9 => h9) rfl (by decide +kernel) rfl rfl (Nat.le_of_ble_eq_true rfl) dX6_finish_60 (fun H locs hP hD hS => ?_)
    obtain ⟨v0_10, ev0_10⟩ : ∃ z, z = sX6_turn v0 x_9 := ⟨_, rfl⟩
    have hP : va_P D vwCl (WS_X6_finish cI cJ cZ cY a0 a0_stack a0_letters r0_eye v0_10) H := by rw [ev0_10]; exact hP
    have hD : va_D A (WS_X6_finish cI cJ cZ cY a0 a0_stack a0_letters r0_eye v0_10) := by rw [ev0_10]; exact hD
    have hg := g_lte hg v0_10 ev0_10
    refine lv_goto (tgt := 96) hx hb dX6_finish_63 (by decide) ?_
    have hg := Option.some.inj hg
    rw [hQ]
    exact W.vret hx hb hr (fun t ht hW => ⟨⟨(v0_10), rfl, hg, by rw [ht]; exact hP, hD⟩, hS.F ht⟩) hS.2.2 dX6_finish_96
  have hg := g_if hg c_8
  by_cases c_11 : p0 = 23
  · have hg := g_it hg c_11
    refine lv_tableIn (tgt := 66) (off := 65) hx hb dX6_finish_1 (by rw [c_11]; decide) (by rw [c_11]; decide) (by rw [c_11]; decide +kernel) (by decide) ?_
    refine lv_aload_n hx hb dX6_finish_66 rfl (lv_at hl 0 rfl) ?_
    refine lv_iconst (v := 0) hx hb dX6_finish_67 (by decide) ?_
    refine lv_bipush (v := 16) hx hb dX6_finish_68 (by decide) ?_
    refine lv_iload_n hx hb dX6_finish_70 rfl (lv_at hl 3 rfl) ?_
    refine va_mmin hx hb (hml.trans hl.1.symm) hown (htb _ tg_801) (htb _ tg_38) (htb _ tg_4) (htb _ tg_39) (Nat.le_of_ble_eq_true rfl) (Nat.le_of_ble_eq_true rfl) (Nat.le_of_ble_eq_true rfl) (Nat.le_of_ble_eq_true rfl) dX6_finish_71 ?_
    refine va_mmax hx hb (hml.trans hl.1.symm) hown (htb _ tg_802) (htb _ tg_41) (htb _ tg_4) (htb _ tg_42) (Nat.le_of_ble_eq_true rfl) (Nat.le_of_ble_eq_true rfl) (Nat.le_of_ble_eq_true rfl) (Nat.le_of_ble_eq_true rfl) dX6_finish_74 ?_
    refine lv_topi (fun x_12 ex_12 => ?_)
    have hg := g_lte hg x_12 ex_12
    refine va_put (ci := 5) (v := .int x_12) (ty := .int) (C := RX6) (T := TX6) (N := 9) hx hb htb uX6 tyX6 tyX6_ok nmX6 hown hK.1 hP hD hS 0 rfl rfl 7 (by decide) (htb _ tg_307) (fun _ h9 => h9) rfl (by decide +kernel) rfl rfl (Nat.le_of_ble_eq_true rfl) dX6_finish_77 (fun H locs hP hD hS => ?_)
    obtain ⟨v0_13, ev0_13⟩ : ∃ z, z = sX6_go v0 x_12 := ⟨_, rfl⟩
    have hP : va_P D vwCl (WS_X6_finish cI cJ cZ cY a0 a0_stack a0_letters r0_eye v0_13) H := by rw [ev0_13]; exact hP
    have hD : va_D A (WS_X6_finish cI cJ cZ cY a0 a0_stack a0_letters r0_eye v0_13) := by rw [ev0_13]; exact hD
    have hg := g_lte hg v0_13 ev0_13
    refine lv_goto (tgt := 96) hx hb dX6_finish_80 (by decide) ?_
    have hg := Option.some.inj hg
    rw [hQ]
    exact W.vret hx hb hr (fun t ht hW => ⟨⟨(v0_13), rfl, hg, by rw [ht]; exact hP, hD⟩, hS.F ht⟩) hS.2.2 dX6_finish_96
  have hg := g_if hg c_11
  have zc_3 := lv_neT (a := 21) c_3 (by decide)
  have zc_8 := lv_neT (a := 22) c_8 (by decide)
  have zc_11 := lv_neT (a := 23) c_11 (by decide)
  refine lv_tableOut (tgt := 83) hx hb dX6_finish_1 (by omega) (by decide) ?_
  refine lv_aload_n hx hb dX6_finish_83 rfl (lv_at hl 0 rfl) ?_
  refine lv_iload_n hx hb dX6_finish_84 rfl (lv_at hl 3 rfl) ?_
  refine lv_if_eq (tgt := 92) hx hb dX6_finish_85 (by decide) (fun c_14 => ?_) (fun c_14 => ?_)
  · have hg := g_it hg c_14
    refine lv_iconst (v := 0) hx hb dX6_finish_92 (by decide) ?_
    exact b_93 0 v0 H locs ls hP hD hS (lv_sub hl [] rfl) hg
  · have hg := g_if hg c_14
    refine lv_iconst (v := 1) hx hb dX6_finish_88 (by decide) ?_
    refine lv_goto (tgt := 93) hx hb dX6_finish_89 (by decide) ?_
    exact b_93 1 v0 H locs ls hP hD hS (lv_sub hl [] rfl) hg

/-! ManyEyes$Sight.look(III)V -/
def WS_X7_look (cI cJ cZ cY : ClassId) (a0 a0_view a0_rays a1 a1_own a1_bodyX a1_bodyY a1_bodyWayX a1_bodyWayY a1_bodyMark : Nat) (v0 : BX7) (v1 : BX10) : va_W := (GX7 cI cJ cZ cY a0 a0_view a0_rays a1 v0) ++ ((GX10 cI cJ cZ cY a1 a1_own a1_bodyX a1_bodyY a1_bodyWayX a1_bodyWayY a1_bodyMark v1))
def f_X7_look_b91 (v1 : BX10) (J42 : (Int32 × Int32 × BX7) → Option (BX7)) (x3 : Int32) (x4 : Int32) (v0 : BX7) : Option (BX7) := g_lt (x4 + (-1) : Int32) (fun x4_1 => J42 (x3, x4_1, v0))
def f_X7_look_b42B (v1 : BX10) (J42 : Int32 × Int32 × BX7 → Option (BX7)) (x3 : Int32) (x4 : Int32) (v0 : BX7) : Option (BX7) := if (x4 : Int32) < 0 then ((f_J7_fill_53178 64 (pX7_rays v0) (-1)).bind (fun r_3 => some (sX7_rays v0 r_3))) else ((f_X10_bodyCell v1 x4 x3).bind (fun r_4 => if (r_4 : Int32) < 0 then (f_X7_look_b91 v1 J42 x3 x4 v0) else (if ((Int32.ofNat (pX7_n v0)) : Int32) ≤ r_4 then (f_X7_look_b91 v1 J42 x3 x4 v0) else (g_gd (inB x4 6) (g_lt (((pX10_bodyMark v1) (x4 : Int32).toNatClampNeg) : Int32) (fun x_8 => g_gd (inB r_4 (pX7_n v0)) (g_lt (sX7_view v0 (upd (pX7_view v0) (r_4 : Int32).toNatClampNeg x_8)) (fun v0_10 => f_X7_look_b91 v1 J42 x3 x4 v0_10))))))))
def f_X7_look_b42 (v1 : BX10) : Nat → (Int32 × Int32 × BX7) → Option (BX7) := g_lp (fun J z => f_X7_look_b42B v1 J z.1 z.2.1 z.2.2)
def f_X7_look (v0 : BX7) (v1 : BX10) (p0 : Int32) (p1 : Int32) (p2 : Int32) : Option (BX7) := g_lt (sX7_x v0 p0) (fun v0_11 => g_lt (sX7_y v0_11 p1) (fun v0_12 => g_gd ((¬ (0 : Int32) < 0 ∧ ¬ (0 : Int32) < 0 ∧ ¬ ((Int32.ofNat (pX7_n v0_12)) : Int32) < 0) ∧ (0 : Int32).toNatClampNeg + ((Int32.ofNat (pX7_n v0_12)) : Int32).toNatClampNeg ≤ (pX10_n v1) ∧ (0 : Int32).toNatClampNeg + ((Int32.ofNat (pX7_n v0_12)) : Int32).toNatClampNeg ≤ (pX7_n v0_12)) (g_lt (sX7_view v0_12 (va_cpy (pX10_own v1) (pX7_view v0_12) (0 : Int32).toNatClampNeg (0 : Int32).toNatClampNeg ((Int32.ofNat (pX7_n v0_12)) : Int32).toNatClampNeg)) (fun v0_14 => g_lt (((pX10_bodies v1) - 1) : Int32) (fun x4_15 => f_X7_look_b42 v1 fU (p2, x4_15, v0_14))))))
abbrev rm_X7_look : Room := { frames := 1, cells := 0, slots := 0, locals := 64 }
set_option maxHeartbeats 4000000 in
set_option maxRecDepth 100000 in
theorem k_X7_look {l : Launch} {D : va_G} {cI cJ cZ cY : ClassId} {tX tY : Nat} {sz : Nat} (a0 a0_view a0_rays a1 a1_own a1_bodyX a1_bodyY a1_bodyWayX a1_bodyWayY a1_bodyMark : Nat) (v0 : BX7) (v1 : BX10) (p0 : Int32) (p1 : Int32) (p2 : Int32) (res : BX7) (hg : f_X7_look v0 v1 p0 p1 p2 = some res) : Met l yX7_look (Cond.code yX7_look cX7_look 6 none :: TB) rm_X7_look (PC D cI cJ cZ cY tX tY [.ref a0, .int p0, .int p1, .int p2] (WS_X7_look cI cJ cZ cY a0 a0_view a0_rays a1 a1_own a1_bodyX a1_bodyY a1_bodyWayX a1_bodyWayY a1_bodyMark v0 v1) sz) (va_Qv (fun (u : BX7) => u = res) (BC D (fun u : BX7 => WS_X7_look cI cJ cZ cY a0 a0_view a0_rays a1 a1_own a1_bodyX a1_bodyY a1_bodyWayX a1_bodyWayY a1_bodyMark u v1) (va_A (WS_X7_look cI cJ cZ cY a0 a0_view a0_rays a1 a1_own a1_bodyX a1_bodyY a1_bodyWayX a1_bodyWayY a1_bodyMark v0 v1) sz)) (va_A (WS_X7_look cI cJ cZ cY a0 a0_view a0_rays a1 a1_own a1_bodyX a1_bodyY a1_bodyWayX a1_bodyWayY a1_bodyMark v0 v1) sz)) 0 0 (va_A (WS_X7_look cI cJ cZ cY a0 a0_view a0_rays a1 a1_own a1_bodyX a1_bodyY a1_bodyWayX a1_bodyWayY a1_bodyMark v0 v1) sz) := by
  refine Met.ofW (cc := cX7_look) (maxL := 6) (ret := none) (by decide) rfl ?_
  intro p e s m args below meth c s₁ B hml hv
  obtain ⟨hargs, hsz, hP, hK, hD0, hT⟩ := hv
  have hx := B.exec
  have hb := B.bytes
  have hr := B.returns
  have htb : ∀ w ∈ TB, w.before args s = true := fun w h => atoms_spec (ws := Cond.code yX7_look cX7_look 6 none :: TB) B.pre w (List.mem_cons_of_mem _ h)
  have hown : s.vm.findClass "ManyEyes$Sight" = some m.cls := findClass_of_methodNamed B.named
  have hlocks := B.notSynchronized
  subst hsz
  have hD := hD0.self (sz := s.heap.size)
  generalize hAe : va_A (WS_X7_look cI cJ cZ cY a0 a0_view a0_rays a1 a1_own a1_bodyX a1_bodyY a1_bodyWayX a1_bodyWayY a1_bodyMark v0 v1) s.heap.size = A at hD hT ⊢
  have hA : ∀ q : Nat, s.heap.size ≤ q → A q := fun q h => by rw [← hAe]; exact Or.inr h
  have hS : va_S A s.heap s.heap [] := va_S.rf
  have hl := lv_entry ([.ref a0, .int p0, .int p1, .int p2]) (n := 6) (Nat.le_of_ble_eq_true rfl)
  have he : entryFrame m args 6 = F0 m 0 (lg_sl ([.ref a0, .int p0, .int p1, .int p2]) ++ List.replicate (6 - (lg_sl ([.ref a0, .int p0, .int p1, .int p2])).length) Slot.unset).toArray [] := by rw [hargs, lg_entry_eq]
  rw [he]
  generalize (lg_sl ([.ref a0, .int p0, .int p1, .int p2]) ++ List.replicate (6 - (lg_sl ([.ref a0, .int p0, .int p1, .int p2])).length) Slot.unset).toArray = ls at hl ⊢
  have hl : lv_has ls 6 [(0, .ref a0), (1, .int p0), (2, .int p1), (3, .int p2)] := hl
  show W p l e rm_X7_look s m args below meth c s.heap [] 0 0 _ _
  refine W.genQ (fun Q hQ => ?_)
  have b_91 : ∀ (J42 : (Int32 × Int32 × BX7) → Option (BX7)) (hJ42 : ∀ (x3 : Int32) (x4 : Int32) (v0 : BX7) (H : Heap) (locs : List Loc) (ls : Array Slot), va_P D vwCl (WS_X7_look cI cJ cZ cY a0 a0_view a0_rays a1 a1_own a1_bodyX a1_bodyY a1_bodyWayX a1_bodyWayY a1_bodyMark v0 v1) H → va_D A (WS_X7_look cI cJ cZ cY a0 a0_view a0_rays a1 a1_own a1_bodyX a1_bodyY a1_bodyWayX a1_bodyWayY a1_bodyMark v0 v1) → va_S A s.heap H locs → lv_has ls 6 [(0, .ref a0), (3, .int x3), (4, .int x4)] → J42 (x3, x4, v0) = some res → W p l e rm_X7_look s m args below meth c H locs 0 0 Q (F0 m 42 ls [])), ∀ (x3 : Int32) (x4 : Int32) (v0 : BX7) (H : Heap) (locs : List Loc) (ls : Array Slot), va_P D vwCl (WS_X7_look cI cJ cZ cY a0 a0_view a0_rays a1 a1_own a1_bodyX a1_bodyY a1_bodyWayX a1_bodyWayY a1_bodyMark v0 v1) H → va_D A (WS_X7_look cI cJ cZ cY a0 a0_view a0_rays a1 a1_own a1_bodyX a1_bodyY a1_bodyWayX a1_bodyWayY a1_bodyMark v0 v1) → va_S A s.heap H locs → lv_has ls 6 [(0, .ref a0), (3, .int x3), (4, .int x4)] → f_X7_look_b91 v1 J42 x3 x4 v0 = some res → W p l e rm_X7_look s m args below meth c H locs 0 0 Q (F0 m 91 ls []) := by
    intro J42 hJ42 x3 x4 v0 H locs ls hP hD hS hl hg
    unfold f_X7_look_b91 at hg
    obtain ⟨x4_1, ex4_1⟩ : ∃ z : Int32, z = x4 + (-1) := ⟨_, rfl⟩
    have hg := g_lte hg x4_1 ex4_1
    refine lv_iinc (v := x4_1) (lv' := [(4, .int x4_1), (0, .ref a0), (3, .int x3)]) hx hb dX7_look_91 hl (k := 2) rfl (by rw [ex4_1]; rfl) (by decide) rfl (fun ls hl => ?_)
    refine lv_goto (tgt := 42) hx hb dX7_look_94 (by decide) ?_
    exact hJ42 x3 x4_1 v0 H locs ls hP hD hS (lv_sub hl [1, 2, 0] rfl) hg
  have b_42 : ∀ (n : Nat), ∀ (x3 : Int32) (x4 : Int32) (v0 : BX7) (H : Heap) (locs : List Loc) (ls : Array Slot), va_P D vwCl (WS_X7_look cI cJ cZ cY a0 a0_view a0_rays a1 a1_own a1_bodyX a1_bodyY a1_bodyWayX a1_bodyWayY a1_bodyMark v0 v1) H → va_D A (WS_X7_look cI cJ cZ cY a0 a0_view a0_rays a1 a1_own a1_bodyX a1_bodyY a1_bodyWayX a1_bodyWayY a1_bodyMark v0 v1) → va_S A s.heap H locs → lv_has ls 6 [(0, .ref a0), (3, .int x3), (4, .int x4)] → f_X7_look_b42 v1 n (x3, x4, v0) = some res → W p l e rm_X7_look s m args below meth c H locs 0 0 Q (F0 m 42 ls []) := by
    intro n
    induction n with
    | zero =>
      intro x3 x4 v0 H locs ls hP hD hS hl hg
      exact (g_lp0 hg).elim
    | succ n ih =>
      intro x3 x4 v0 H locs ls hP hD hS hl hg
      have hg : f_X7_look_b42B v1 (f_X7_look_b42 v1 n) x3 x4 v0 = some res := hg
      unfold f_X7_look_b42B at hg
      refine lv_iload hx hb dX7_look_42 (lv_at hl 2 rfl) ?_
      refine lv_if_lt (tgt := 97) hx hb dX7_look_44 (by decide) (fun c_2 => ?_) (fun c_2 => ?_)
      · have hg := g_it hg c_2
        refine lv_aload_n hx hb dX7_look_97 rfl (lv_at hl 0 rfl) ?_
        refine va_get (ci := 6) (v := .ref a0_rays) (C := RX7) (T := TX7) (N := 5) hx hb htb uX7 hown hK.1 hP 0 rfl rfl 2 (by decide) (htb _ tg_270) (fun _ h9 => h9) rfl dX7_look_98 ?_
        refine lv_iconst (v := (-1)) hx hb dX7_look_101 (by decide) ?_
        obtain ⟨r_3, hr_3, hg⟩ := g_bd hg
        refine cc_v (va_runS (As := [.ref a0_rays, .int (-1)]) (rest := []) ⟨hx, hb, hml, hown, htb⟩ (k_J7_fill_53178 a0_rays 64 (pX7_rays v0) (-1) r_3 hr_3) (cw_S 2 htb tg_510 tg_15 tg_508 tg_509 rfl rfl (by decide +kernel) ⟨Nat.le_of_ble_eq_true rfl, Nat.le_of_ble_eq_true rfl⟩) ⟨PC.blind, PC.pre hK hT hP hD hS hA [2] rfl (by decide)⟩ rfl rfl hl.1 rfl (lv_room (Nat.le_of_ble_eq_true rfl)) dX7_look_102 ⟨Nat.le_of_ble_eq_true rfl, Nat.le_of_ble_eq_true rfl⟩) hP hD hS hA [2] [0, 1, 3, 4, 5, 6, 7, 8, 9] rfl rfl (by decide) (by decide) (fun u9 H locs hw hP hD hS => ?_)
        have hw := hw.symm
        subst hw
        have hP : va_P D vwCl (WS_X7_look cI cJ cZ cY a0 a0_view a0_rays a1 a1_own a1_bodyX a1_bodyY a1_bodyWayX a1_bodyWayY a1_bodyMark (sX7_rays v0 r_3) v1) H := hP.sub [0, 1, 9, 2, 3, 4, 5, 6, 7, 8] rfl
        have hD : va_D A (WS_X7_look cI cJ cZ cY a0 a0_view a0_rays a1 a1_own a1_bodyX a1_bodyY a1_bodyWayX a1_bodyWayY a1_bodyMark (sX7_rays v0 r_3) v1) := hD.sub [0, 1, 9, 2, 3, 4, 5, 6, 7, 8] (by decide) rfl
        have hg := Option.some.inj hg
        rw [hQ]
        exact W.vret hx hb hr (fun t ht hW => ⟨⟨(sX7_rays v0 r_3), rfl, hg, by rw [ht]; exact hP, hD⟩, hS.F ht⟩) hS.2.2 dX7_look_105
      · have hg := g_if hg c_2
        refine lv_aload_n hx hb dX7_look_47 rfl (lv_at hl 0 rfl) ?_
        refine va_get (ci := 6) (v := .ref a1) (C := RX7) (T := TX7) (N := 5) hx hb htb uX7 hown hK.1 hP 0 rfl rfl 0 (by decide) (htb _ tg_268) (fun _ h9 => h9) rfl dX7_look_48 ?_
        refine lv_iload hx hb dX7_look_51 (lv_at hl 2 rfl) ?_
        refine lv_iload_n hx hb dX7_look_53 rfl (lv_at hl 1 rfl) ?_
        obtain ⟨r_4, hr_4, hg⟩ := g_bd hg
        refine cc_i (va_runV (C := RX10) (As := [.int x4, .int x3]) (rest := []) ⟨hx, hb, hml, hown, htb⟩ (k_X10_bodyCell a1 a1_own a1_bodyX a1_bodyY a1_bodyWayX a1_bodyWayY a1_bodyMark v1 x4 x3 r_4 hr_4) (cw_V 2 htb tg_474 tg_3 tg_507 tg_472 tg_473 rfl rfl (by decide +kernel) ⟨Nat.le_of_ble_eq_true rfl, Nat.le_of_ble_eq_true rfl⟩) ⟨PC.blind, va_recv hK.1 hP (ci := 9) (q0 := 3) rfl rfl, PC.pre hK hT hP hD hS hA [3, 4, 5, 6, 7, 8, 9] rfl (by decide)⟩ rfl rfl hl.1 rfl (lv_room (Nat.le_of_ble_eq_true rfl)) dX7_look_54 ⟨Nat.le_of_ble_eq_true rfl, Nat.le_of_ble_eq_true rfl⟩) hP hD hS hA [3, 4, 5, 6, 7, 8, 9] [0, 1, 2] rfl rfl (by decide) (by decide) (fun r9 u9 H locs hw hP hD hS => ?_)
        have hw := hw.symm
        subst hw
        have hP : va_P D vwCl (WS_X7_look cI cJ cZ cY a0 a0_view a0_rays a1 a1_own a1_bodyX a1_bodyY a1_bodyWayX a1_bodyWayY a1_bodyMark v0 v1) H := hP.sub [0, 1, 2, 3, 4, 5, 6, 7, 8, 9] rfl
        have hD : va_D A (WS_X7_look cI cJ cZ cY a0 a0_view a0_rays a1 a1_own a1_bodyX a1_bodyY a1_bodyWayX a1_bodyWayY a1_bodyMark v0 v1) := hD.sub [0, 1, 2, 3, 4, 5, 6, 7, 8, 9] (by decide) rfl
        refine lv_istore (lv' := [(5, .int r_4), (0, .ref a0), (3, .int x3), (4, .int x4)]) hx hb dX7_look_57 hl (by decide) rfl (fun ls hl => ?_)
        refine lv_iload hx hb dX7_look_59 (lv_at hl 0 rfl) ?_
        refine lv_if_lt (tgt := 91) hx hb dX7_look_61 (by decide) (fun c_5 => ?_) (fun c_5 => ?_)
        · have hg := g_it hg c_5
          exact b_91 (f_X7_look_b42 v1 n) ih x3 x4 v0 H locs ls hP hD hS (lv_sub hl [1, 2, 3] rfl) hg
        · have hg := g_if hg c_5
          refine lv_iload hx hb dX7_look_64 (lv_at hl 0 rfl) ?_
          refine lv_aload_n hx hb dX7_look_66 rfl (lv_at hl 1 rfl) ?_
          refine va_get (ci := 6) (v := .ref a0_view) (C := RX7) (T := TX7) (N := 5) hx hb htb uX7 hown hK.1 hP 0 rfl rfl 1 (by decide) (htb _ tg_269) (fun _ h9 => h9) rfl dX7_look_67 ?_
          refine va_alen (v := (Int32.ofNat (pX7_n v0))) hx hb hK.1 hP 1 0 rfl rfl rfl dX7_look_70 ?_
          refine lv_icmp_ge (tgt := 91) hx hb dX7_look_71 (by decide) (fun c_6 => ?_) (fun c_6 => ?_)
          · have hg := g_it hg c_6
            exact b_91 (f_X7_look_b42 v1 n) ih x3 x4 v0 H locs ls hP hD hS (lv_sub hl [1, 2, 3] rfl) hg
          · have hg := g_if hg c_6
            refine lv_aload_n hx hb dX7_look_74 rfl (lv_at hl 1 rfl) ?_
            refine va_get (ci := 6) (v := .ref a0_view) (C := RX7) (T := TX7) (N := 5) hx hb htb uX7 hown hK.1 hP 0 rfl rfl 1 (by decide) (htb _ tg_269) (fun _ h9 => h9) rfl dX7_look_75 ?_
            refine lv_iload hx hb dX7_look_78 (lv_at hl 0 rfl) ?_
            refine lv_aload_n hx hb dX7_look_80 rfl (lv_at hl 1 rfl) ?_
            refine va_get (ci := 6) (v := .ref a1) (C := RX7) (T := TX7) (N := 5) hx hb htb uX7 hown hK.1 hP 0 rfl rfl 0 (by decide) (htb _ tg_268) (fun _ h9 => h9) rfl dX7_look_81 ?_
            refine va_get (ci := 9) (v := .ref a1_bodyMark) (C := RX10) (T := TX10) (N := 9) hx hb htb uX10 hown hK.1 hP 3 rfl rfl 7 (by decide) (htb _ tg_61) (fun _ h9 => h9) rfl dX7_look_84 ?_
            refine lv_iload hx hb dX7_look_87 (lv_at hl 3 rfl) ?_
            obtain ⟨h_7, hg⟩ := g_gde hg
            refine va_iald hx hb hK.1 hP 9 0 rfl rfl (inB_vp h_7) dX7_look_89 ?_
            refine lv_topi (fun x_8 ex_8 => ?_)
            have hg := g_lte hg x_8 ex_8
            obtain ⟨h_9, hg⟩ := g_gde hg
            refine va_iast hx hb hK.1 hP hD hS 1 0 rfl rfl (inB_vp h_9) dX7_look_90 (fun H locs hP hD hS => ?_)
            obtain ⟨v0_10, ev0_10⟩ : ∃ z, z = sX7_view v0 (upd (pX7_view v0) (r_4 : Int32).toNatClampNeg x_8) := ⟨_, rfl⟩
            have hP : va_P D vwCl (WS_X7_look cI cJ cZ cY a0 a0_view a0_rays a1 a1_own a1_bodyX a1_bodyY a1_bodyWayX a1_bodyWayY a1_bodyMark v0_10 v1) H := by rw [ev0_10]; exact hP
            have hD : va_D A (WS_X7_look cI cJ cZ cY a0 a0_view a0_rays a1 a1_own a1_bodyX a1_bodyY a1_bodyWayX a1_bodyWayY a1_bodyMark v0_10 v1) := by rw [ev0_10]; exact hD
            have hg := g_lte hg v0_10 ev0_10
            exact b_91 (f_X7_look_b42 v1 n) ih x3 x4 v0_10 H locs ls hP hD hS (lv_sub hl [1, 2, 3] rfl) hg
  generalize hHe : s.heap = H at hP ⊢
  have hS : va_S A s.heap H [] := by rw [← hHe]; exact va_S.rf
  generalize ([] : List Loc) = locs at hS ⊢
  unfold f_X7_look at hg
  refine lv_aload_n hx hb dX7_look_0 rfl (lv_at hl 0 rfl) ?_
  refine lv_iload_n hx hb dX7_look_1 rfl (lv_at hl 1 rfl) ?_
  refine va_put (ci := 6) (v := .int p0) (ty := .int) (C := RX7) (T := TX7) (N := 5) hx hb htb uX7 tyX7 tyX7_ok nmX7 hown hK.1 hP hD hS 0 rfl rfl 3 (by decide) (htb _ tg_271) (fun _ h9 => h9) rfl (by decide +kernel) rfl rfl (Nat.le_of_ble_eq_true rfl) dX7_look_2 (fun H locs hP hD hS => ?_)
  obtain ⟨v0_11, ev0_11⟩ : ∃ z, z = sX7_x v0 p0 := ⟨_, rfl⟩
  have hP : va_P D vwCl (WS_X7_look cI cJ cZ cY a0 a0_view a0_rays a1 a1_own a1_bodyX a1_bodyY a1_bodyWayX a1_bodyWayY a1_bodyMark v0_11 v1) H := by rw [ev0_11]; exact hP
  have hD : va_D A (WS_X7_look cI cJ cZ cY a0 a0_view a0_rays a1 a1_own a1_bodyX a1_bodyY a1_bodyWayX a1_bodyWayY a1_bodyMark v0_11 v1) := by rw [ev0_11]; exact hD
  have hg := g_lte hg v0_11 ev0_11
  refine lv_aload_n hx hb dX7_look_5 rfl (lv_at hl 0 rfl) ?_
  refine lv_iload_n hx hb dX7_look_6 rfl (lv_at hl 2 rfl) ?_
  refine va_put (ci := 6) (v := .int p1) (ty := .int) (C := RX7) (T := TX7) (N := 5) hx hb htb uX7 tyX7 tyX7_ok nmX7 hown hK.1 hP hD hS 0 rfl rfl 4 (by decide) (htb _ tg_272) (fun _ h9 => h9) rfl (by decide +kernel) rfl rfl (Nat.le_of_ble_eq_true rfl) dX7_look_7 (fun H locs hP hD hS => ?_)
  obtain ⟨v0_12, ev0_12⟩ : ∃ z, z = sX7_y v0_11 p1 := ⟨_, rfl⟩
  have hP : va_P D vwCl (WS_X7_look cI cJ cZ cY a0 a0_view a0_rays a1 a1_own a1_bodyX a1_bodyY a1_bodyWayX a1_bodyWayY a1_bodyMark v0_12 v1) H := by rw [ev0_12]; exact hP
  have hD : va_D A (WS_X7_look cI cJ cZ cY a0 a0_view a0_rays a1 a1_own a1_bodyX a1_bodyY a1_bodyWayX a1_bodyWayY a1_bodyMark v0_12 v1) := by rw [ev0_12]; exact hD
  have hg := g_lte hg v0_12 ev0_12
  refine lv_aload_n hx hb dX7_look_10 rfl (lv_at hl 0 rfl) ?_
  refine va_get (ci := 6) (v := .ref a1) (C := RX7) (T := TX7) (N := 5) hx hb htb uX7 hown hK.1 hP 0 rfl rfl 0 (by decide) (htb _ tg_268) (fun _ h9 => h9) rfl dX7_look_11 ?_
  refine va_get (ci := 9) (v := .ref a1_own) (C := RX10) (T := TX10) (N := 9) hx hb htb uX10 hown hK.1 hP 3 rfl rfl 2 (by decide) (htb _ tg_49) (fun _ h9 => h9) rfl dX7_look_14 ?_
  refine lv_iconst (v := 0) hx hb dX7_look_17 (by decide) ?_
  refine lv_aload_n hx hb dX7_look_18 rfl (lv_at hl 0 rfl) ?_
  refine va_get (ci := 6) (v := .ref a0_view) (C := RX7) (T := TX7) (N := 5) hx hb htb uX7 hown hK.1 hP 0 rfl rfl 1 (by decide) (htb _ tg_269) (fun _ h9 => h9) rfl dX7_look_19 ?_
  refine lv_iconst (v := 0) hx hb dX7_look_22 (by decide) ?_
  refine lv_aload_n hx hb dX7_look_23 rfl (lv_at hl 0 rfl) ?_
  refine va_get (ci := 6) (v := .ref a0_view) (C := RX7) (T := TX7) (N := 5) hx hb htb uX7 hown hK.1 hP 0 rfl rfl 1 (by decide) (htb _ tg_269) (fun _ h9 => h9) rfl dX7_look_24 ?_
  refine va_alen (v := (Int32.ofNat (pX7_n v0_12))) hx hb hK.1 hP 1 0 rfl rfl rfl dX7_look_27 ?_
  obtain ⟨h_13, hg⟩ := g_gde hg
  refine va_copyi hx hb (hml.trans hl.1.symm) hown (htb _ tg_504) (htb _ tg_506) (htb _ tg_505) (htb _ tg_14) hK.1 hP hD hS 4 1 0 0 rfl rfl rfl rfl rfl h_13.1.1 h_13.1.2.1 h_13.1.2.2 h_13.2.1 h_13.2.2 (fun _ _ => rfl) (Nat.le_of_ble_eq_true rfl) (Nat.le_of_ble_eq_true rfl) dX7_look_28 (fun H locs hP hD hS => ?_)
  obtain ⟨v0_14, ev0_14⟩ : ∃ z, z = sX7_view v0_12 (va_cpy (pX10_own v1) (pX7_view v0_12) (0 : Int32).toNatClampNeg (0 : Int32).toNatClampNeg ((Int32.ofNat (pX7_n v0_12)) : Int32).toNatClampNeg) := ⟨_, rfl⟩
  have hP : va_P D vwCl (WS_X7_look cI cJ cZ cY a0 a0_view a0_rays a1 a1_own a1_bodyX a1_bodyY a1_bodyWayX a1_bodyWayY a1_bodyMark v0_14 v1) H := by rw [ev0_14]; exact hP
  have hD : va_D A (WS_X7_look cI cJ cZ cY a0 a0_view a0_rays a1 a1_own a1_bodyX a1_bodyY a1_bodyWayX a1_bodyWayY a1_bodyMark v0_14 v1) := by rw [ev0_14]; exact hD
  have hg := g_lte hg v0_14 ev0_14
  refine lv_aload_n hx hb dX7_look_31 rfl (lv_at hl 0 rfl) ?_
  refine va_get (ci := 6) (v := .ref a1) (C := RX7) (T := TX7) (N := 5) hx hb htb uX7 hown hK.1 hP 0 rfl rfl 0 (by decide) (htb _ tg_268) (fun _ h9 => h9) rfl dX7_look_32 ?_
  refine va_get (ci := 9) (v := .int (pX10_bodies v1)) (C := RX10) (T := TX10) (N := 9) hx hb htb uX10 hown hK.1 hP 3 rfl rfl 8 (by decide) (htb _ tg_63) (fun _ h9 => h9) rfl dX7_look_35 ?_
  refine lv_iconst (v := 1) hx hb dX7_look_38 (by decide) ?_
  refine lv_isub hx hb dX7_look_39 ?_
  refine lv_topi (fun x4_15 ex4_15 => ?_)
  have hg := g_lte hg x4_15 ex4_15
  refine lv_istore (lv' := [(4, .int x4_15), (0, .ref a0), (1, .int p0), (2, .int p1), (3, .int p2)]) hx hb dX7_look_40 hl (by decide) rfl (fun ls hl => ?_)
  exact b_42 fU p2 x4_15 v0_14 H locs ls hP hD hS (lv_sub hl [1, 4, 0] rfl) hg

/-! ManyEyes$State.isRule(I)Z -/
def WS_X8_isRule (cI cJ cZ cY : ClassId) (a0 a0_codes r0_world r0_eye r0_reads r0_flight : Nat) (v0 : BX8) : va_W := (GX8 cI cJ cZ cY a0 a0_codes r0_world r0_eye r0_reads r0_flight v0)
def f_X8_isRule (v0 : BX8) (p0 : Int32) : Option (Int32) := (f_X11_isWithin p0 0 ((pX8_rules v0) - 1)).bind (fun r_1 => g_gd (r_1 = 0 ∨ r_1 = 1) (some r_1))
abbrev rm_X8_isRule : Room := { frames := 1, cells := 0, slots := 0, locals := 22 }
set_option maxHeartbeats 4000000 in
set_option maxRecDepth 100000 in
theorem k_X8_isRule {l : Launch} {D : va_G} {cI cJ cZ cY : ClassId} {tX tY : Nat} {sz : Nat} (a0 a0_codes r0_world r0_eye r0_reads r0_flight : Nat) (v0 : BX8) (p0 : Int32) (res : Int32) (hg : f_X8_isRule v0 p0 = some res) : Met l yX8_isRule (Cond.code yX8_isRule cX8_isRule 2 (some .boolean) :: TB) rm_X8_isRule (PC D cI cJ cZ cY tX tY [.ref a0, .int p0] (WS_X8_isRule cI cJ cZ cY a0 a0_codes r0_world r0_eye r0_reads r0_flight v0) sz) (va_Qi (fun (r : Int32) (_ : Unit) => r = res) (BC D (fun _ : Unit => WS_X8_isRule cI cJ cZ cY a0 a0_codes r0_world r0_eye r0_reads r0_flight v0) (va_A (WS_X8_isRule cI cJ cZ cY a0 a0_codes r0_world r0_eye r0_reads r0_flight v0) sz)) (va_A (WS_X8_isRule cI cJ cZ cY a0 a0_codes r0_world r0_eye r0_reads r0_flight v0) sz)) 0 0 (va_A (WS_X8_isRule cI cJ cZ cY a0 a0_codes r0_world r0_eye r0_reads r0_flight v0) sz) := by
  refine Met.ofW (cc := cX8_isRule) (maxL := 2) (ret := (some .boolean)) (by decide) rfl ?_
  intro p e s m args below meth c s₁ B hml hv
  obtain ⟨hargs, hsz, hP, hK, hD0, hT⟩ := hv
  have hx := B.exec
  have hb := B.bytes
  have hr := B.returns
  have htb : ∀ w ∈ TB, w.before args s = true := fun w h => atoms_spec (ws := Cond.code yX8_isRule cX8_isRule 2 (some .boolean) :: TB) B.pre w (List.mem_cons_of_mem _ h)
  have hown : s.vm.findClass "ManyEyes$State" = some m.cls := findClass_of_methodNamed B.named
  have hlocks := B.notSynchronized
  subst hsz
  have hD := hD0.self (sz := s.heap.size)
  generalize hAe : va_A (WS_X8_isRule cI cJ cZ cY a0 a0_codes r0_world r0_eye r0_reads r0_flight v0) s.heap.size = A at hD hT ⊢
  have hA : ∀ q : Nat, s.heap.size ≤ q → A q := fun q h => by rw [← hAe]; exact Or.inr h
  have hS : va_S A s.heap s.heap [] := va_S.rf
  have hl := lv_entry ([.ref a0, .int p0]) (n := 2) (Nat.le_of_ble_eq_true rfl)
  have he : entryFrame m args 2 = F0 m 0 (lg_sl ([.ref a0, .int p0]) ++ List.replicate (2 - (lg_sl ([.ref a0, .int p0])).length) Slot.unset).toArray [] := by rw [hargs, lg_entry_eq]
  rw [he]
  generalize (lg_sl ([.ref a0, .int p0]) ++ List.replicate (2 - (lg_sl ([.ref a0, .int p0])).length) Slot.unset).toArray = ls at hl ⊢
  have hl : lv_has ls 2 [(0, .ref a0), (1, .int p0)] := hl
  show W p l e rm_X8_isRule s m args below meth c s.heap [] 0 0 _ _
  refine W.genQ (fun Q hQ => ?_)
  generalize hHe : s.heap = H at hP ⊢
  have hS : va_S A s.heap H [] := by rw [← hHe]; exact va_S.rf
  generalize ([] : List Loc) = locs at hS ⊢
  unfold f_X8_isRule at hg
  refine lv_iload_n hx hb dX8_isRule_0 rfl (lv_at hl 1 rfl) ?_
  refine lv_iconst (v := 0) hx hb dX8_isRule_1 (by decide) ?_
  refine lv_aload_n hx hb dX8_isRule_2 rfl (lv_at hl 0 rfl) ?_
  refine va_get (ci := 7) (v := .int (pX8_rules v0)) (C := RX8) (T := TX8) (N := 6) hx hb htb uX8 hown hK.1 hP 0 rfl rfl 5 (by decide) (htb _ tg_246) (fun _ h9 => h9) rfl dX8_isRule_3 ?_
  refine lv_iconst (v := 1) hx hb dX8_isRule_6 (by decide) ?_
  refine lv_isub hx hb dX8_isRule_7 ?_
  obtain ⟨r_1, hr_1, hg⟩ := g_bd hg
  refine cc_i (va_runSN (As := [.int p0, .int 0, .int ((pX8_rules v0) - 1)]) (rest := []) ⟨hx, hb, hml, hown, htb⟩ (k_X11_isWithin p0 0 ((pX8_rules v0) - 1) r_1 hr_1) (cw_SN 3 htb tg_450 tg_1 (hK.2.1 _ nw_737) tg_449 rfl rfl (by decide +kernel) ⟨Nat.le_of_ble_eq_true rfl, Nat.le_of_ble_eq_true rfl⟩) ⟨PC.blind, PC.pre hK hT hP hD hS hA [] rfl (by decide)⟩ rfl rfl hl.1 rfl (lv_room (Nat.le_of_ble_eq_true rfl)) dX8_isRule_8 ⟨Nat.le_of_ble_eq_true rfl, Nat.le_of_ble_eq_true rfl⟩) hP hD hS hA [] [0, 1] rfl rfl (by decide) (by decide) (fun r9 u9 H locs hw hP hD hS => ?_)
  have hw := hw.symm
  subst hw
  have hP : va_P D vwCl (WS_X8_isRule cI cJ cZ cY a0 a0_codes r0_world r0_eye r0_reads r0_flight v0) H := hP.sub [0, 1] rfl
  have hD : va_D A (WS_X8_isRule cI cJ cZ cY a0 a0_codes r0_world r0_eye r0_reads r0_flight v0) := hD.sub [0, 1] (by decide) rfl
  obtain ⟨h_2, hg⟩ := g_gde hg
  have hg := Option.some.inj hg
  rw [hQ]
  exact W.zret (v := r_1) (ty := .boolean) hx hb hr (bool_nar h_2) (fun t ht hW => ⟨⟨r_1, (), rfl, hg, by rw [ht]; exact hP, hD⟩, hS.F ht⟩) hS.2.2 dX8_isRule_11

/-! ManyEyes$Tokens.sortOf(I)I -/
def WS_X9_sortOf (cI cJ cZ cY : ClassId) : va_W := []
def f_X9_sortOf (p0 : Int32) : Option (Int32) := if (p0 : Int32) = 32 then (some 0) else (if (p0 : Int32) = 10 then (some 0) else ((f_X11_isWithin p0 97 122).bind (fun r_3 => if (r_3 : Int32) = 0 then ((f_X11_isWithin p0 65 90).bind (fun r_5 => if (r_5 : Int32) = 0 then ((f_X11_isWithin p0 48 57).bind (fun r_7 => if (r_7 : Int32) = 0 then (some 3) else (some 2))) else (some 1))) else (some 1))))
abbrev rm_X9_sortOf : Room := { frames := 1, cells := 0, slots := 0, locals := 22 }
set_option maxHeartbeats 4000000 in
set_option maxRecDepth 100000 in
theorem k_X9_sortOf {l : Launch} {D : va_G} {cI cJ cZ cY : ClassId} {tX tY : Nat} {sz : Nat} (p0 : Int32) (res : Int32) (hg : f_X9_sortOf p0 = some res) : Met l yX9_sortOf (Cond.code yX9_sortOf cX9_sortOf 1 (some .int) :: TB) rm_X9_sortOf (PC D cI cJ cZ cY tX tY [.int p0] (WS_X9_sortOf cI cJ cZ cY) sz) (va_Qi (fun (r : Int32) (_ : Unit) => r = res) (BC D (fun _ : Unit => WS_X9_sortOf cI cJ cZ cY) (va_A (WS_X9_sortOf cI cJ cZ cY) sz)) (va_A (WS_X9_sortOf cI cJ cZ cY) sz)) 0 0 (va_A (WS_X9_sortOf cI cJ cZ cY) sz) := by
  refine Met.ofW (cc := cX9_sortOf) (maxL := 1) (ret := (some .int)) (by decide) rfl ?_
  intro p e s m args below meth c s₁ B hml hv
  obtain ⟨hargs, hsz, hP, hK, hD0, hT⟩ := hv
  have hx := B.exec
  have hb := B.bytes
  have hr := B.returns
  have htb : ∀ w ∈ TB, w.before args s = true := fun w h => atoms_spec (ws := Cond.code yX9_sortOf cX9_sortOf 1 (some .int) :: TB) B.pre w (List.mem_cons_of_mem _ h)
  have hown : s.vm.findClass "ManyEyes$Tokens" = some m.cls := findClass_of_methodNamed B.named
  have hlocks := B.notSynchronized
  subst hsz
  have hD := hD0.self (sz := s.heap.size)
  generalize hAe : va_A (WS_X9_sortOf cI cJ cZ cY) s.heap.size = A at hD hT ⊢
  have hA : ∀ q : Nat, s.heap.size ≤ q → A q := fun q h => by rw [← hAe]; exact Or.inr h
  have hS : va_S A s.heap s.heap [] := va_S.rf
  have hl := lv_entry ([.int p0]) (n := 1) (Nat.le_of_ble_eq_true rfl)
  have he : entryFrame m args 1 = F0 m 0 (lg_sl ([.int p0]) ++ List.replicate (1 - (lg_sl ([.int p0])).length) Slot.unset).toArray [] := by rw [hargs, lg_entry_eq]
  rw [he]
  generalize (lg_sl ([.int p0]) ++ List.replicate (1 - (lg_sl ([.int p0])).length) Slot.unset).toArray = ls at hl ⊢
  have hl : lv_has ls 1 [(0, .int p0)] := hl
  show W p l e rm_X9_sortOf s m args below meth c s.heap [] 0 0 _ _
  refine W.genQ (fun Q hQ => ?_)
  generalize hHe : s.heap = H at hP ⊢
  have hS : va_S A s.heap H [] := by rw [← hHe]; exact va_S.rf
  generalize ([] : List Loc) = locs at hS ⊢
  unfold f_X9_sortOf at hg
  refine lv_iload_n hx hb dX9_sortOf_0 rfl (lv_at hl 0 rfl) ?_
  refine lv_bipush (v := 32) hx hb dX9_sortOf_1 (by decide) ?_
  refine lv_icmp_eq (tgt := 12) hx hb dX9_sortOf_3 (by decide) (fun c_1 => ?_) (fun c_1 => ?_)
  · have hg := g_it hg c_1
    refine lv_iconst (v := 0) hx hb dX9_sortOf_12 (by decide) ?_
    have hg := Option.some.inj hg
    rw [hQ]
    exact W.iret (v := 0) hx hb hr (fun t ht hW => ⟨⟨0, (), rfl, hg, by rw [ht]; exact hP, hD⟩, hS.F ht⟩) hS.2.2 dX9_sortOf_13
  · have hg := g_if hg c_1
    refine lv_iload_n hx hb dX9_sortOf_6 rfl (lv_at hl 0 rfl) ?_
    refine lv_bipush (v := 10) hx hb dX9_sortOf_7 (by decide) ?_
    refine lv_icmp_ne (tgt := 14) hx hb dX9_sortOf_9 (by decide) (fun c_2 => ?_) (fun c_2 => ?_)
    · have hg := g_if hg c_2
      refine lv_iload_n hx hb dX9_sortOf_14 rfl (lv_at hl 0 rfl) ?_
      refine lv_bipush (v := 97) hx hb dX9_sortOf_15 (by decide) ?_
      refine lv_bipush (v := 122) hx hb dX9_sortOf_17 (by decide) ?_
      obtain ⟨r_3, hr_3, hg⟩ := g_bd hg
      refine cc_i (va_runSN (As := [.int p0, .int 97, .int 122]) (rest := []) ⟨hx, hb, hml, hown, htb⟩ (k_X11_isWithin p0 97 122 r_3 hr_3) (cw_SN 3 htb tg_450 tg_1 (hK.2.1 _ nw_619) tg_449 rfl rfl (by decide +kernel) ⟨Nat.le_of_ble_eq_true rfl, Nat.le_of_ble_eq_true rfl⟩) ⟨PC.blind, PC.pre hK hT hP hD hS hA [] rfl (by decide)⟩ rfl rfl hl.1 rfl (lv_room (Nat.le_of_ble_eq_true rfl)) dX9_sortOf_19 ⟨Nat.le_of_ble_eq_true rfl, Nat.le_of_ble_eq_true rfl⟩) hP hD hS hA [] [] rfl rfl (by decide) (by decide) (fun r9 u9 H locs hw hP hD hS => ?_)
      have hw := hw.symm
      subst hw
      have hP : va_P D vwCl (WS_X9_sortOf cI cJ cZ cY) H := hP.sub [] rfl
      have hD : va_D A (WS_X9_sortOf cI cJ cZ cY) := hD.sub [] (by decide) rfl
      refine lv_if_ne (tgt := 36) hx hb dX9_sortOf_22 (by decide) (fun c_4 => ?_) (fun c_4 => ?_)
      · have hg := g_if hg c_4
        refine lv_iconst (v := 1) hx hb dX9_sortOf_36 (by decide) ?_
        have hg := Option.some.inj hg
        rw [hQ]
        exact W.iret (v := 1) hx hb hr (fun t ht hW => ⟨⟨1, (), rfl, hg, by rw [ht]; exact hP, hD⟩, hS.F ht⟩) hS.2.2 dX9_sortOf_37
      · have hg := g_it hg c_4
        refine lv_iload_n hx hb dX9_sortOf_25 rfl (lv_at hl 0 rfl) ?_
        refine lv_bipush (v := 65) hx hb dX9_sortOf_26 (by decide) ?_
        refine lv_bipush (v := 90) hx hb dX9_sortOf_28 (by decide) ?_
        obtain ⟨r_5, hr_5, hg⟩ := g_bd hg
        refine cc_i (va_runSN (As := [.int p0, .int 65, .int 90]) (rest := []) ⟨hx, hb, hml, hown, htb⟩ (k_X11_isWithin p0 65 90 r_5 hr_5) (cw_SN 3 htb tg_450 tg_1 (hK.2.1 _ nw_619) tg_449 rfl rfl (by decide +kernel) ⟨Nat.le_of_ble_eq_true rfl, Nat.le_of_ble_eq_true rfl⟩) ⟨PC.blind, PC.pre hK hT hP hD hS hA [] rfl (by decide)⟩ rfl rfl hl.1 rfl (lv_room (Nat.le_of_ble_eq_true rfl)) dX9_sortOf_30 ⟨Nat.le_of_ble_eq_true rfl, Nat.le_of_ble_eq_true rfl⟩) hP hD hS hA [] [] rfl rfl (by decide) (by decide) (fun r9 u9 H locs hw hP hD hS => ?_)
        have hw := hw.symm
        subst hw
        have hP : va_P D vwCl (WS_X9_sortOf cI cJ cZ cY) H := hP.sub [] rfl
        have hD : va_D A (WS_X9_sortOf cI cJ cZ cY) := hD.sub [] (by decide) rfl
        refine lv_if_eq (tgt := 38) hx hb dX9_sortOf_33 (by decide) (fun c_6 => ?_) (fun c_6 => ?_)
        · have hg := g_it hg c_6
          refine lv_iload_n hx hb dX9_sortOf_38 rfl (lv_at hl 0 rfl) ?_
          refine lv_bipush (v := 48) hx hb dX9_sortOf_39 (by decide) ?_
          refine lv_bipush (v := 57) hx hb dX9_sortOf_41 (by decide) ?_
          obtain ⟨r_7, hr_7, hg⟩ := g_bd hg
          refine cc_i (va_runSN (As := [.int p0, .int 48, .int 57]) (rest := []) ⟨hx, hb, hml, hown, htb⟩ (k_X11_isWithin p0 48 57 r_7 hr_7) (cw_SN 3 htb tg_450 tg_1 (hK.2.1 _ nw_619) tg_449 rfl rfl (by decide +kernel) ⟨Nat.le_of_ble_eq_true rfl, Nat.le_of_ble_eq_true rfl⟩) ⟨PC.blind, PC.pre hK hT hP hD hS hA [] rfl (by decide)⟩ rfl rfl hl.1 rfl (lv_room (Nat.le_of_ble_eq_true rfl)) dX9_sortOf_43 ⟨Nat.le_of_ble_eq_true rfl, Nat.le_of_ble_eq_true rfl⟩) hP hD hS hA [] [] rfl rfl (by decide) (by decide) (fun r9 u9 H locs hw hP hD hS => ?_)
          have hw := hw.symm
          subst hw
          have hP : va_P D vwCl (WS_X9_sortOf cI cJ cZ cY) H := hP.sub [] rfl
          have hD : va_D A (WS_X9_sortOf cI cJ cZ cY) := hD.sub [] (by decide) rfl
          refine lv_if_eq (tgt := 53) hx hb dX9_sortOf_46 (by decide) (fun c_8 => ?_) (fun c_8 => ?_)
          · have hg := g_it hg c_8
            refine lv_iconst (v := 3) hx hb dX9_sortOf_53 (by decide) ?_
            have hg := Option.some.inj hg
            rw [hQ]
            exact W.iret (v := 3) hx hb hr (fun t ht hW => ⟨⟨3, (), rfl, hg, by rw [ht]; exact hP, hD⟩, hS.F ht⟩) hS.2.2 dX9_sortOf_54
          · have hg := g_if hg c_8
            refine lv_iconst (v := 2) hx hb dX9_sortOf_49 (by decide) ?_
            refine lv_goto (tgt := 54) hx hb dX9_sortOf_50 (by decide) ?_
            have hg := Option.some.inj hg
            rw [hQ]
            exact W.iret (v := 2) hx hb hr (fun t ht hW => ⟨⟨2, (), rfl, hg, by rw [ht]; exact hP, hD⟩, hS.F ht⟩) hS.2.2 dX9_sortOf_54
        · have hg := g_if hg c_6
          refine lv_iconst (v := 1) hx hb dX9_sortOf_36 (by decide) ?_
          have hg := Option.some.inj hg
          rw [hQ]
          exact W.iret (v := 1) hx hb hr (fun t ht hW => ⟨⟨1, (), rfl, hg, by rw [ht]; exact hP, hD⟩, hS.F ht⟩) hS.2.2 dX9_sortOf_37
    · have hg := g_it hg c_2
      refine lv_iconst (v := 0) hx hb dX9_sortOf_12 (by decide) ?_
      have hg := Option.some.inj hg
      rw [hQ]
      exact W.iret (v := 0) hx hb hr (fun t ht hW => ⟨⟨0, (), rfl, hg, by rw [ht]; exact hP, hD⟩, hS.F ht⟩) hS.2.2 dX9_sortOf_13

/-! ManyEyes$Tokens.extend(II)V -/
def WS_X9_extend (cI cJ cZ cY : ClassId) (a0 a0_kinds a0_starts a0_values : Nat) (v0 : BX9) : va_W := (GX9 cI cJ cZ cY a0 a0_kinds a0_starts a0_values v0)
def f_X9_extend_b197 (t1 : Int32) (t2 : Int32) (v0 : BX9) : Option (BX9) := g_gd (inB t1 301) (g_lt (sX9_kinds v0 (upd (pX9_kinds v0) (t1 : Int32).toNatClampNeg t2)) (fun v0_2 => some (v0_2)))
def f_X9_extend_b149 (t1 : Int32) (t2 : Int32) (v0 : BX9) : Option (BX9) := g_gd (inB t1 301) (g_lt (sX9_kinds v0 (upd (pX9_kinds v0) (t1 : Int32).toNatClampNeg t2)) (fun v0_4 => some (v0_4)))
def f_X9_extend_b116 (x3 : Int32) (t1 : Int32) (t2 : Int32) (v0 : BX9) : Option (BX9) := g_gd (inB t1 301) (g_lt (sX9_values v0 (upd (pX9_values v0) (t1 : Int32).toNatClampNeg t2)) (fun v0_6 => g_gd (inB x3 301) ((f_X11_isWithin ((pX9_values v0_6) (x3 : Int32).toNatClampNeg) 65 72).bind (fun r_8 => if (r_8 : Int32) = 0 then (g_gd (inB x3 301) (f_X9_extend_b149 x3 ((pX9_values v0_6) (x3 : Int32).toNatClampNeg) v0_6)) else (f_X9_extend_b149 x3 (-4) v0_6)))))
def f_X9_extend_b87 (x2 : Int32) (x3 : Int32) (t0 : Int32) (v0 : BX9) : Option (BX9) := if (t0 : Int32) = 0 then (g_gd (inB x3 301) (f_X9_extend_b116 x3 x3 ((((pX9_values v0) (x3 : Int32).toNatClampNeg) * 256) + x2) v0)) else (f_X9_extend_b116 x3 x3 (-2) v0)
def f_X9_extend_b82 (x2 : Int32) (x3 : Int32) (v0 : BX9) : Option (BX9) := f_X9_extend_b87 x2 x3 1 v0
def f_X9_extend (v0 : BX9) (p0 : Int32) (p1 : Int32) : Option (BX9) := if ((pX9_count v0) : Int32) = 0 then (some (v0)) else (g_lt (((pX9_count v0) - 1) : Int32) (fun x3_14 => if (p0 : Int32) = 2 then (g_lt ((-3) : Int32) (fun x_27 => g_gd (inB x3_14 301) (g_lt (sX9_kinds v0 (upd (pX9_kinds v0) (x3_14 : Int32).toNatClampNeg x_27)) (fun v0_29 => g_gd (inB x3_14 301) (g_lt ((if ((((((pX9_values v0_29) (x3_14 : Int32).toNatClampNeg) * 10) + p1) - 48) : Int32) < 10000 then (((((pX9_values v0_29) (x3_14 : Int32).toNatClampNeg) * 10) + p1) - 48) else 10000) : Int32) (fun x_31 => g_gd (inB x3_14 301) (g_lt (sX9_values v0_29 (upd (pX9_values v0_29) (x3_14 : Int32).toNatClampNeg x_31)) (fun v0_33 => some (v0_33))))))))) else (if (p0 : Int32) = 1 then (g_gd (inB x3_14 301) (if (((pX9_values v0) (x3_14 : Int32).toNatClampNeg) : Int32) < 0 then (f_X9_extend_b82 p1 x3_14 v0) else (g_gd (inB x3_14 301) (if (((pX9_values v0) (x3_14 : Int32).toNatClampNeg) : Int32) ≤ 16777215 then (f_X9_extend_b87 p1 x3_14 0 v0) else (f_X9_extend_b82 p1 x3_14 v0))))) else (g_gd (inB x3_14 301) (if (((pX9_kinds v0) (x3_14 : Int32).toNatClampNeg) : Int32) = (-2) then (g_gd (inB x3_14 301) (g_lt (sX9_kinds v0 (upd (pX9_kinds v0) (x3_14 : Int32).toNatClampNeg p1)) (fun v0_22 => some (v0_22)))) else (g_gd (inB x3_14 301) (if (((pX9_kinds v0) (x3_14 : Int32).toNatClampNeg) : Int32) = 60 then (f_X9_extend_b197 x3_14 (-5) v0) else (f_X9_extend_b197 x3_14 (-6) v0))))))))
abbrev rm_X9_extend : Room := { frames := 1, cells := 0, slots := 0, locals := 22 }
set_option maxHeartbeats 4000000 in
set_option maxRecDepth 100000 in
theorem k_X9_extend {l : Launch} {D : va_G} {cI cJ cZ cY : ClassId} {tX tY : Nat} {sz : Nat} (a0 a0_kinds a0_starts a0_values : Nat) (v0 : BX9) (p0 : Int32) (p1 : Int32) (res : BX9) (hg : f_X9_extend v0 p0 p1 = some res) : Met l yX9_extend (Cond.code yX9_extend cX9_extend 5 none :: TB) rm_X9_extend (PC D cI cJ cZ cY tX tY [.ref a0, .int p0, .int p1] (WS_X9_extend cI cJ cZ cY a0 a0_kinds a0_starts a0_values v0) sz) (va_Qv (fun (u : BX9) => u = res) (BC D (fun u : BX9 => WS_X9_extend cI cJ cZ cY a0 a0_kinds a0_starts a0_values u) (va_A (WS_X9_extend cI cJ cZ cY a0 a0_kinds a0_starts a0_values v0) sz)) (va_A (WS_X9_extend cI cJ cZ cY a0 a0_kinds a0_starts a0_values v0) sz)) 0 0 (va_A (WS_X9_extend cI cJ cZ cY a0 a0_kinds a0_starts a0_values v0) sz) := by
  refine Met.ofW (cc := cX9_extend) (maxL := 5) (ret := none) (by decide) rfl ?_
  intro p e s m args below meth c s₁ B hml hv
  obtain ⟨hargs, hsz, hP, hK, hD0, hT⟩ := hv
  have hx := B.exec
  have hb := B.bytes
  have hr := B.returns
  have htb : ∀ w ∈ TB, w.before args s = true := fun w h => atoms_spec (ws := Cond.code yX9_extend cX9_extend 5 none :: TB) B.pre w (List.mem_cons_of_mem _ h)
  have hown : s.vm.findClass "ManyEyes$Tokens" = some m.cls := findClass_of_methodNamed B.named
  have hlocks := B.notSynchronized
  subst hsz
  have hD := hD0.self (sz := s.heap.size)
  generalize hAe : va_A (WS_X9_extend cI cJ cZ cY a0 a0_kinds a0_starts a0_values v0) s.heap.size = A at hD hT ⊢
  have hA : ∀ q : Nat, s.heap.size ≤ q → A q := fun q h => by rw [← hAe]; exact Or.inr h
  have hS : va_S A s.heap s.heap [] := va_S.rf
  have hl := lv_entry ([.ref a0, .int p0, .int p1]) (n := 5) (Nat.le_of_ble_eq_true rfl)
  have he : entryFrame m args 5 = F0 m 0 (lg_sl ([.ref a0, .int p0, .int p1]) ++ List.replicate (5 - (lg_sl ([.ref a0, .int p0, .int p1])).length) Slot.unset).toArray [] := by rw [hargs, lg_entry_eq]
  rw [he]
  generalize (lg_sl ([.ref a0, .int p0, .int p1]) ++ List.replicate (5 - (lg_sl ([.ref a0, .int p0, .int p1])).length) Slot.unset).toArray = ls at hl ⊢
  have hl : lv_has ls 5 [(0, .ref a0), (1, .int p0), (2, .int p1)] := hl
  show W p l e rm_X9_extend s m args below meth c s.heap [] 0 0 _ _
  refine W.genQ (fun Q hQ => ?_)
  have b_197 : ∀ (t1 : Int32) (t2 : Int32) (v0 : BX9) (H : Heap) (locs : List Loc) (ls : Array Slot), va_P D vwCl (WS_X9_extend cI cJ cZ cY a0 a0_kinds a0_starts a0_values v0) H → va_D A (WS_X9_extend cI cJ cZ cY a0 a0_kinds a0_starts a0_values v0) → va_S A s.heap H locs → lv_has ls 5 [] → f_X9_extend_b197 t1 t2 v0 = some res → W p l e rm_X9_extend s m args below meth c H locs 0 0 Q (F0 m 197 ls [.int t2, .int t1, .ref a0_kinds]) := by
    intro t1 t2 v0 H locs ls hP hD hS hl hg
    unfold f_X9_extend_b197 at hg
    obtain ⟨h_1, hg⟩ := g_gde hg
    refine va_iast hx hb hK.1 hP hD hS 1 0 rfl rfl (inB_vp h_1) dX9_extend_197 (fun H locs hP hD hS => ?_)
    obtain ⟨v0_2, ev0_2⟩ : ∃ z, z = sX9_kinds v0 (upd (pX9_kinds v0) (t1 : Int32).toNatClampNeg t2) := ⟨_, rfl⟩
    have hP : va_P D vwCl (WS_X9_extend cI cJ cZ cY a0 a0_kinds a0_starts a0_values v0_2) H := by rw [ev0_2]; exact hP
    have hD : va_D A (WS_X9_extend cI cJ cZ cY a0 a0_kinds a0_starts a0_values v0_2) := by rw [ev0_2]; exact hD
    have hg := g_lte hg v0_2 ev0_2
    have hg := Option.some.inj hg
    rw [hQ]
    exact W.vret hx hb hr (fun t ht hW => ⟨⟨(v0_2), rfl, hg, by rw [ht]; exact hP, hD⟩, hS.F ht⟩) hS.2.2 dX9_extend_198
  have b_149 : ∀ (t1 : Int32) (t2 : Int32) (v0 : BX9) (H : Heap) (locs : List Loc) (ls : Array Slot), va_P D vwCl (WS_X9_extend cI cJ cZ cY a0 a0_kinds a0_starts a0_values v0) H → va_D A (WS_X9_extend cI cJ cZ cY a0 a0_kinds a0_starts a0_values v0) → va_S A s.heap H locs → lv_has ls 5 [] → f_X9_extend_b149 t1 t2 v0 = some res → W p l e rm_X9_extend s m args below meth c H locs 0 0 Q (F0 m 149 ls [.int t2, .int t1, .ref a0_kinds]) := by
    intro t1 t2 v0 H locs ls hP hD hS hl hg
    unfold f_X9_extend_b149 at hg
    obtain ⟨h_3, hg⟩ := g_gde hg
    refine va_iast hx hb hK.1 hP hD hS 1 0 rfl rfl (inB_vp h_3) dX9_extend_149 (fun H locs hP hD hS => ?_)
    obtain ⟨v0_4, ev0_4⟩ : ∃ z, z = sX9_kinds v0 (upd (pX9_kinds v0) (t1 : Int32).toNatClampNeg t2) := ⟨_, rfl⟩
    have hP : va_P D vwCl (WS_X9_extend cI cJ cZ cY a0 a0_kinds a0_starts a0_values v0_4) H := by rw [ev0_4]; exact hP
    have hD : va_D A (WS_X9_extend cI cJ cZ cY a0 a0_kinds a0_starts a0_values v0_4) := by rw [ev0_4]; exact hD
    have hg := g_lte hg v0_4 ev0_4
    refine lv_goto (tgt := 198) hx hb dX9_extend_150 (by decide) ?_
    have hg := Option.some.inj hg
    rw [hQ]
    exact W.vret hx hb hr (fun t ht hW => ⟨⟨(v0_4), rfl, hg, by rw [ht]; exact hP, hD⟩, hS.F ht⟩) hS.2.2 dX9_extend_198
  have b_116 : ∀ (x3 : Int32) (t1 : Int32) (t2 : Int32) (v0 : BX9) (H : Heap) (locs : List Loc) (ls : Array Slot), va_P D vwCl (WS_X9_extend cI cJ cZ cY a0 a0_kinds a0_starts a0_values v0) H → va_D A (WS_X9_extend cI cJ cZ cY a0 a0_kinds a0_starts a0_values v0) → va_S A s.heap H locs → lv_has ls 5 [(0, .ref a0), (3, .int x3)] → f_X9_extend_b116 x3 t1 t2 v0 = some res → W p l e rm_X9_extend s m args below meth c H locs 0 0 Q (F0 m 116 ls [.int t2, .int t1, .ref a0_values]) := by
    intro x3 t1 t2 v0 H locs ls hP hD hS hl hg
    unfold f_X9_extend_b116 at hg
    obtain ⟨h_5, hg⟩ := g_gde hg
    refine va_iast hx hb hK.1 hP hD hS 3 0 rfl rfl (inB_vp h_5) dX9_extend_116 (fun H locs hP hD hS => ?_)
    obtain ⟨v0_6, ev0_6⟩ : ∃ z, z = sX9_values v0 (upd (pX9_values v0) (t1 : Int32).toNatClampNeg t2) := ⟨_, rfl⟩
    have hP : va_P D vwCl (WS_X9_extend cI cJ cZ cY a0 a0_kinds a0_starts a0_values v0_6) H := by rw [ev0_6]; exact hP
    have hD : va_D A (WS_X9_extend cI cJ cZ cY a0 a0_kinds a0_starts a0_values v0_6) := by rw [ev0_6]; exact hD
    have hg := g_lte hg v0_6 ev0_6
    refine lv_aload_n hx hb dX9_extend_117 rfl (lv_at hl 0 rfl) ?_
    refine va_get (ci := 8) (v := .ref a0_kinds) (C := RX9) (T := TX9) (N := 8) hx hb htb uX9 hown hK.1 hP 0 rfl rfl 0 (by decide) (htb _ tg_357) (fun _ h9 => h9) rfl dX9_extend_118 ?_
    refine lv_iload_n hx hb dX9_extend_121 rfl (lv_at hl 1 rfl) ?_
    refine lv_aload_n hx hb dX9_extend_122 rfl (lv_at hl 0 rfl) ?_
    refine va_get (ci := 8) (v := .ref a0_values) (C := RX9) (T := TX9) (N := 8) hx hb htb uX9 hown hK.1 hP 0 rfl rfl 2 (by decide) (htb _ tg_359) (fun _ h9 => h9) rfl dX9_extend_123 ?_
    refine lv_iload_n hx hb dX9_extend_126 rfl (lv_at hl 1 rfl) ?_
    obtain ⟨h_7, hg⟩ := g_gde hg
    refine va_iald hx hb hK.1 hP 3 0 rfl rfl (inB_vp h_7) dX9_extend_127 ?_
    refine lv_bipush (v := 65) hx hb dX9_extend_128 (by decide) ?_
    refine lv_bipush (v := 72) hx hb dX9_extend_130 (by decide) ?_
    obtain ⟨r_8, hr_8, hg⟩ := g_bd hg
    refine cc_i (va_runSN (As := [.int ((pX9_values v0_6) (x3 : Int32).toNatClampNeg), .int 65, .int 72]) (rest := [.int x3, .ref a0_kinds]) ⟨hx, hb, hml, hown, htb⟩ (k_X11_isWithin ((pX9_values v0_6) (x3 : Int32).toNatClampNeg) 65 72 r_8 hr_8) (cw_SN 3 htb tg_450 tg_1 (hK.2.1 _ nw_619) tg_449 rfl rfl (by decide +kernel) ⟨Nat.le_of_ble_eq_true rfl, Nat.le_of_ble_eq_true rfl⟩) ⟨PC.blind, PC.pre hK hT hP hD hS hA [] rfl (by decide)⟩ rfl rfl hl.1 rfl (lv_room (Nat.le_of_ble_eq_true rfl)) dX9_extend_132 ⟨Nat.le_of_ble_eq_true rfl, Nat.le_of_ble_eq_true rfl⟩) hP hD hS hA [] [0, 1, 2, 3] rfl rfl (by decide) (by decide) (fun r9 u9 H locs hw hP hD hS => ?_)
    have hw := hw.symm
    subst hw
    have hP : va_P D vwCl (WS_X9_extend cI cJ cZ cY a0 a0_kinds a0_starts a0_values v0_6) H := hP.sub [0, 1, 2, 3] rfl
    have hD : va_D A (WS_X9_extend cI cJ cZ cY a0 a0_kinds a0_starts a0_values v0_6) := hD.sub [0, 1, 2, 3] (by decide) rfl
    refine lv_if_eq (tgt := 143) hx hb dX9_extend_135 (by decide) (fun c_9 => ?_) (fun c_9 => ?_)
    · have hg := g_it hg c_9
      refine lv_aload_n hx hb dX9_extend_143 rfl (lv_at hl 0 rfl) ?_
      refine va_get (ci := 8) (v := .ref a0_values) (C := RX9) (T := TX9) (N := 8) hx hb htb uX9 hown hK.1 hP 0 rfl rfl 2 (by decide) (htb _ tg_359) (fun _ h9 => h9) rfl dX9_extend_144 ?_
      refine lv_iload_n hx hb dX9_extend_147 rfl (lv_at hl 1 rfl) ?_
      obtain ⟨h_10, hg⟩ := g_gde hg
      refine va_iald hx hb hK.1 hP 3 0 rfl rfl (inB_vp h_10) dX9_extend_148 ?_
      exact b_149 x3 ((pX9_values v0_6) (x3 : Int32).toNatClampNeg) v0_6 H locs ls hP hD hS (lv_sub hl [] rfl) hg
    · have hg := g_if hg c_9
      refine lv_bipush (v := (-4)) hx hb dX9_extend_138 (by decide) ?_
      refine lv_goto (tgt := 149) hx hb dX9_extend_140 (by decide) ?_
      exact b_149 x3 (-4) v0_6 H locs ls hP hD hS (lv_sub hl [] rfl) hg
  have b_87 : ∀ (x2 : Int32) (x3 : Int32) (t0 : Int32) (v0 : BX9) (H : Heap) (locs : List Loc) (ls : Array Slot), va_P D vwCl (WS_X9_extend cI cJ cZ cY a0 a0_kinds a0_starts a0_values v0) H → va_D A (WS_X9_extend cI cJ cZ cY a0 a0_kinds a0_starts a0_values v0) → va_S A s.heap H locs → lv_has ls 5 [(0, .ref a0), (2, .int x2), (3, .int x3)] → f_X9_extend_b87 x2 x3 t0 v0 = some res → W p l e rm_X9_extend s m args below meth c H locs 0 0 Q (F0 m 87 ls [.int t0]) := by
    intro x2 x3 t0 v0 H locs ls hP hD hS hl hg
    unfold f_X9_extend_b87 at hg
    refine lv_istore (lv' := [(4, .int t0), (0, .ref a0), (2, .int x2), (3, .int x3)]) hx hb dX9_extend_87 hl (by decide) rfl (fun ls hl => ?_)
    refine lv_aload_n hx hb dX9_extend_89 rfl (lv_at hl 1 rfl) ?_
    refine va_get (ci := 8) (v := .ref a0_values) (C := RX9) (T := TX9) (N := 8) hx hb htb uX9 hown hK.1 hP 0 rfl rfl 2 (by decide) (htb _ tg_359) (fun _ h9 => h9) rfl dX9_extend_90 ?_
    refine lv_iload_n hx hb dX9_extend_93 rfl (lv_at hl 3 rfl) ?_
    refine lv_iload hx hb dX9_extend_94 (lv_at hl 0 rfl) ?_
    refine lv_if_eq (tgt := 104) hx hb dX9_extend_96 (by decide) (fun c_11 => ?_) (fun c_11 => ?_)
    · have hg := g_it hg c_11
      refine lv_aload_n hx hb dX9_extend_104 rfl (lv_at hl 1 rfl) ?_
      refine va_get (ci := 8) (v := .ref a0_values) (C := RX9) (T := TX9) (N := 8) hx hb htb uX9 hown hK.1 hP 0 rfl rfl 2 (by decide) (htb _ tg_359) (fun _ h9 => h9) rfl dX9_extend_105 ?_
      refine lv_iload_n hx hb dX9_extend_108 rfl (lv_at hl 3 rfl) ?_
      obtain ⟨h_12, hg⟩ := g_gde hg
      refine va_iald hx hb hK.1 hP 3 0 rfl rfl (inB_vp h_12) dX9_extend_109 ?_
      refine lv_sipush (v := 256) hx hb dX9_extend_110 (by decide) ?_
      refine lv_imul hx hb dX9_extend_113 ?_
      refine lv_iload_n hx hb dX9_extend_114 rfl (lv_at hl 2 rfl) ?_
      refine lv_iadd hx hb dX9_extend_115 ?_
      exact b_116 x3 x3 ((((pX9_values v0) (x3 : Int32).toNatClampNeg) * 256) + x2) v0 H locs ls hP hD hS (lv_sub hl [1, 3] rfl) hg
    · have hg := g_if hg c_11
      refine lv_bipush (v := (-2)) hx hb dX9_extend_99 (by decide) ?_
      refine lv_goto (tgt := 116) hx hb dX9_extend_101 (by decide) ?_
      exact b_116 x3 x3 (-2) v0 H locs ls hP hD hS (lv_sub hl [1, 3] rfl) hg
  have b_82 : ∀ (x2 : Int32) (x3 : Int32) (v0 : BX9) (H : Heap) (locs : List Loc) (ls : Array Slot), va_P D vwCl (WS_X9_extend cI cJ cZ cY a0 a0_kinds a0_starts a0_values v0) H → va_D A (WS_X9_extend cI cJ cZ cY a0 a0_kinds a0_starts a0_values v0) → va_S A s.heap H locs → lv_has ls 5 [(0, .ref a0), (2, .int x2), (3, .int x3)] → f_X9_extend_b82 x2 x3 v0 = some res → W p l e rm_X9_extend s m args below meth c H locs 0 0 Q (F0 m 82 ls []) := by
    intro x2 x3 v0 H locs ls hP hD hS hl hg
    unfold f_X9_extend_b82 at hg
    refine lv_iconst (v := 1) hx hb dX9_extend_82 (by decide) ?_
    refine lv_goto (tgt := 87) hx hb dX9_extend_83 (by decide) ?_
    exact b_87 x2 x3 1 v0 H locs ls hP hD hS (lv_sub hl [0, 1, 2] rfl) hg
  generalize hHe : s.heap = H at hP ⊢
  have hS : va_S A s.heap H [] := by rw [← hHe]; exact va_S.rf
  generalize ([] : List Loc) = locs at hS ⊢
  unfold f_X9_extend at hg
  refine lv_aload_n hx hb dX9_extend_0 rfl (lv_at hl 0 rfl) ?_
  refine va_get (ci := 8) (v := .int (pX9_count v0)) (C := RX9) (T := TX9) (N := 8) hx hb htb uX9 hown hK.1 hP 0 rfl rfl 3 (by decide) (htb _ tg_360) (fun _ h9 => h9) rfl dX9_extend_1 ?_
  refine lv_if_ne (tgt := 8) hx hb dX9_extend_4 (by decide) (fun c_13 => ?_) (fun c_13 => ?_)
  · have hg := g_if hg c_13
    refine lv_aload_n hx hb dX9_extend_8 rfl (lv_at hl 0 rfl) ?_
    refine va_get (ci := 8) (v := .int (pX9_count v0)) (C := RX9) (T := TX9) (N := 8) hx hb htb uX9 hown hK.1 hP 0 rfl rfl 3 (by decide) (htb _ tg_360) (fun _ h9 => h9) rfl dX9_extend_9 ?_
    refine lv_iconst (v := 1) hx hb dX9_extend_12 (by decide) ?_
    refine lv_isub hx hb dX9_extend_13 ?_
    refine lv_topi (fun x3_14 ex3_14 => ?_)
    have hg := g_lte hg x3_14 ex3_14
    refine lv_istore_n (lv' := [(3, .int x3_14), (0, .ref a0), (1, .int p0), (2, .int p1)]) hx hb dX9_extend_14 rfl hl (by decide) rfl (fun ls hl => ?_)
    refine lv_iload_n hx hb dX9_extend_15 rfl (lv_at hl 2 rfl) ?_
    refine lv_iconst (v := 2) hx hb dX9_extend_16 (by decide) ?_
    refine lv_icmp_ne (tgt := 57) hx hb dX9_extend_17 (by decide) (fun c_15 => ?_) (fun c_15 => ?_)
    · have hg := g_if hg c_15
      refine lv_iload_n hx hb dX9_extend_57 rfl (lv_at hl 2 rfl) ?_
      refine lv_iconst (v := 1) hx hb dX9_extend_58 (by decide) ?_
      refine lv_icmp_ne (tgt := 153) hx hb dX9_extend_59 (by decide) (fun c_16 => ?_) (fun c_16 => ?_)
      · have hg := g_if hg c_16
        refine lv_aload_n hx hb dX9_extend_153 rfl (lv_at hl 1 rfl) ?_
        refine va_get (ci := 8) (v := .ref a0_kinds) (C := RX9) (T := TX9) (N := 8) hx hb htb uX9 hown hK.1 hP 0 rfl rfl 0 (by decide) (htb _ tg_357) (fun _ h9 => h9) rfl dX9_extend_154 ?_
        refine lv_iload_n hx hb dX9_extend_157 rfl (lv_at hl 0 rfl) ?_
        obtain ⟨h_17, hg⟩ := g_gde hg
        refine va_iald hx hb hK.1 hP 1 0 rfl rfl (inB_vp h_17) dX9_extend_158 ?_
        refine lv_bipush (v := (-2)) hx hb dX9_extend_159 (by decide) ?_
        refine lv_icmp_ne (tgt := 174) hx hb dX9_extend_161 (by decide) (fun c_18 => ?_) (fun c_18 => ?_)
        · have hg := g_if hg c_18
          refine lv_aload_n hx hb dX9_extend_174 rfl (lv_at hl 1 rfl) ?_
          refine va_get (ci := 8) (v := .ref a0_kinds) (C := RX9) (T := TX9) (N := 8) hx hb htb uX9 hown hK.1 hP 0 rfl rfl 0 (by decide) (htb _ tg_357) (fun _ h9 => h9) rfl dX9_extend_175 ?_
          refine lv_iload_n hx hb dX9_extend_178 rfl (lv_at hl 0 rfl) ?_
          refine lv_aload_n hx hb dX9_extend_179 rfl (lv_at hl 1 rfl) ?_
          refine va_get (ci := 8) (v := .ref a0_kinds) (C := RX9) (T := TX9) (N := 8) hx hb htb uX9 hown hK.1 hP 0 rfl rfl 0 (by decide) (htb _ tg_357) (fun _ h9 => h9) rfl dX9_extend_180 ?_
          refine lv_iload_n hx hb dX9_extend_183 rfl (lv_at hl 0 rfl) ?_
          obtain ⟨h_19, hg⟩ := g_gde hg
          refine va_iald hx hb hK.1 hP 1 0 rfl rfl (inB_vp h_19) dX9_extend_184 ?_
          refine lv_bipush (v := 60) hx hb dX9_extend_185 (by decide) ?_
          refine lv_icmp_ne (tgt := 195) hx hb dX9_extend_187 (by decide) (fun c_20 => ?_) (fun c_20 => ?_)
          · have hg := g_if hg c_20
            refine lv_bipush (v := (-6)) hx hb dX9_extend_195 (by decide) ?_
            exact b_197 x3_14 (-6) v0 H locs ls hP hD hS (lv_sub hl [] rfl) hg
          · have hg := g_it hg c_20
            refine lv_bipush (v := (-5)) hx hb dX9_extend_190 (by decide) ?_
            refine lv_goto (tgt := 197) hx hb dX9_extend_192 (by decide) ?_
            exact b_197 x3_14 (-5) v0 H locs ls hP hD hS (lv_sub hl [] rfl) hg
        · have hg := g_it hg c_18
          refine lv_aload_n hx hb dX9_extend_164 rfl (lv_at hl 1 rfl) ?_
          refine va_get (ci := 8) (v := .ref a0_kinds) (C := RX9) (T := TX9) (N := 8) hx hb htb uX9 hown hK.1 hP 0 rfl rfl 0 (by decide) (htb _ tg_357) (fun _ h9 => h9) rfl dX9_extend_165 ?_
          refine lv_iload_n hx hb dX9_extend_168 rfl (lv_at hl 0 rfl) ?_
          refine lv_iload_n hx hb dX9_extend_169 rfl (lv_at hl 3 rfl) ?_
          obtain ⟨h_21, hg⟩ := g_gde hg
          refine va_iast hx hb hK.1 hP hD hS 1 0 rfl rfl (inB_vp h_21) dX9_extend_170 (fun H locs hP hD hS => ?_)
          obtain ⟨v0_22, ev0_22⟩ : ∃ z, z = sX9_kinds v0 (upd (pX9_kinds v0) (x3_14 : Int32).toNatClampNeg p1) := ⟨_, rfl⟩
          have hP : va_P D vwCl (WS_X9_extend cI cJ cZ cY a0 a0_kinds a0_starts a0_values v0_22) H := by rw [ev0_22]; exact hP
          have hD : va_D A (WS_X9_extend cI cJ cZ cY a0 a0_kinds a0_starts a0_values v0_22) := by rw [ev0_22]; exact hD
          have hg := g_lte hg v0_22 ev0_22
          refine lv_goto (tgt := 198) hx hb dX9_extend_171 (by decide) ?_
          have hg := Option.some.inj hg
          rw [hQ]
          exact W.vret hx hb hr (fun t ht hW => ⟨⟨(v0_22), rfl, hg, by rw [ht]; exact hP, hD⟩, hS.F ht⟩) hS.2.2 dX9_extend_198
      · have hg := g_it hg c_16
        refine lv_aload_n hx hb dX9_extend_62 rfl (lv_at hl 1 rfl) ?_
        refine va_get (ci := 8) (v := .ref a0_values) (C := RX9) (T := TX9) (N := 8) hx hb htb uX9 hown hK.1 hP 0 rfl rfl 2 (by decide) (htb _ tg_359) (fun _ h9 => h9) rfl dX9_extend_63 ?_
        refine lv_iload_n hx hb dX9_extend_66 rfl (lv_at hl 0 rfl) ?_
        obtain ⟨h_23, hg⟩ := g_gde hg
        refine va_iald hx hb hK.1 hP 3 0 rfl rfl (inB_vp h_23) dX9_extend_67 ?_
        refine lv_if_lt (tgt := 82) hx hb dX9_extend_68 (by decide) (fun c_24 => ?_) (fun c_24 => ?_)
        · have hg := g_it hg c_24
          exact b_82 p1 x3_14 v0 H locs ls hP hD hS (lv_sub hl [1, 3, 0] rfl) hg
        · have hg := g_if hg c_24
          refine lv_aload_n hx hb dX9_extend_71 rfl (lv_at hl 1 rfl) ?_
          refine va_get (ci := 8) (v := .ref a0_values) (C := RX9) (T := TX9) (N := 8) hx hb htb uX9 hown hK.1 hP 0 rfl rfl 2 (by decide) (htb _ tg_359) (fun _ h9 => h9) rfl dX9_extend_72 ?_
          refine lv_iload_n hx hb dX9_extend_75 rfl (lv_at hl 0 rfl) ?_
          obtain ⟨h_25, hg⟩ := g_gde hg
          refine va_iald hx hb hK.1 hP 3 0 rfl rfl (inB_vp h_25) dX9_extend_76 ?_
          refine lv_ldc (v := 16777215) hx hb hown (htb _ tg_629) dX9_extend_77 ?_
          refine lv_icmp_le (tgt := 86) hx hb dX9_extend_79 (by decide) (fun c_26 => ?_) (fun c_26 => ?_)
          · have hg := g_it hg c_26
            refine lv_iconst (v := 0) hx hb dX9_extend_86 (by decide) ?_
            exact b_87 p1 x3_14 0 v0 H locs ls hP hD hS (lv_sub hl [1, 3, 0] rfl) hg
          · have hg := g_if hg c_26
            exact b_82 p1 x3_14 v0 H locs ls hP hD hS (lv_sub hl [1, 3, 0] rfl) hg
    · have hg := g_it hg c_15
      refine lv_aload_n hx hb dX9_extend_20 rfl (lv_at hl 1 rfl) ?_
      refine va_get (ci := 8) (v := .ref a0_kinds) (C := RX9) (T := TX9) (N := 8) hx hb htb uX9 hown hK.1 hP 0 rfl rfl 0 (by decide) (htb _ tg_357) (fun _ h9 => h9) rfl dX9_extend_21 ?_
      refine lv_iload_n hx hb dX9_extend_24 rfl (lv_at hl 0 rfl) ?_
      refine lv_bipush (v := (-3)) hx hb dX9_extend_25 (by decide) ?_
      refine lv_topi (fun x_27 ex_27 => ?_)
      have hg := g_lte hg x_27 ex_27
      obtain ⟨h_28, hg⟩ := g_gde hg
      refine va_iast hx hb hK.1 hP hD hS 1 0 rfl rfl (inB_vp h_28) dX9_extend_27 (fun H locs hP hD hS => ?_)
      obtain ⟨v0_29, ev0_29⟩ : ∃ z, z = sX9_kinds v0 (upd (pX9_kinds v0) (x3_14 : Int32).toNatClampNeg x_27) := ⟨_, rfl⟩
      have hP : va_P D vwCl (WS_X9_extend cI cJ cZ cY a0 a0_kinds a0_starts a0_values v0_29) H := by rw [ev0_29]; exact hP
      have hD : va_D A (WS_X9_extend cI cJ cZ cY a0 a0_kinds a0_starts a0_values v0_29) := by rw [ev0_29]; exact hD
      have hg := g_lte hg v0_29 ev0_29
      refine lv_aload_n hx hb dX9_extend_28 rfl (lv_at hl 1 rfl) ?_
      refine va_get (ci := 8) (v := .ref a0_values) (C := RX9) (T := TX9) (N := 8) hx hb htb uX9 hown hK.1 hP 0 rfl rfl 2 (by decide) (htb _ tg_359) (fun _ h9 => h9) rfl dX9_extend_29 ?_
      refine lv_iload_n hx hb dX9_extend_32 rfl (lv_at hl 0 rfl) ?_
      refine lv_sipush (v := 10000) hx hb dX9_extend_33 (by decide) ?_
      refine lv_aload_n hx hb dX9_extend_36 rfl (lv_at hl 1 rfl) ?_
      refine va_get (ci := 8) (v := .ref a0_values) (C := RX9) (T := TX9) (N := 8) hx hb htb uX9 hown hK.1 hP 0 rfl rfl 2 (by decide) (htb _ tg_359) (fun _ h9 => h9) rfl dX9_extend_37 ?_
      refine lv_iload_n hx hb dX9_extend_40 rfl (lv_at hl 0 rfl) ?_
      obtain ⟨h_30, hg⟩ := g_gde hg
      refine va_iald hx hb hK.1 hP 3 0 rfl rfl (inB_vp h_30) dX9_extend_41 ?_
      refine lv_bipush (v := 10) hx hb dX9_extend_42 (by decide) ?_
      refine lv_imul hx hb dX9_extend_44 ?_
      refine lv_iload_n hx hb dX9_extend_45 rfl (lv_at hl 3 rfl) ?_
      refine lv_iadd hx hb dX9_extend_46 ?_
      refine lv_bipush (v := 48) hx hb dX9_extend_47 (by decide) ?_
      refine lv_isub hx hb dX9_extend_49 ?_
      refine va_mmin hx hb (hml.trans hl.1.symm) hown (htb _ tg_628) (htb _ tg_38) (htb _ tg_4) (htb _ tg_39) (Nat.le_of_ble_eq_true rfl) (Nat.le_of_ble_eq_true rfl) (Nat.le_of_ble_eq_true rfl) (Nat.le_of_ble_eq_true rfl) dX9_extend_50 ?_
      refine lv_topi (fun x_31 ex_31 => ?_)
      have hg := g_lte hg x_31 ex_31
      obtain ⟨h_32, hg⟩ := g_gde hg
      refine va_iast hx hb hK.1 hP hD hS 3 0 rfl rfl (inB_vp h_32) dX9_extend_53 (fun H locs hP hD hS => ?_)
      obtain ⟨v0_33, ev0_33⟩ : ∃ z, z = sX9_values v0_29 (upd (pX9_values v0_29) (x3_14 : Int32).toNatClampNeg x_31) := ⟨_, rfl⟩
      have hP : va_P D vwCl (WS_X9_extend cI cJ cZ cY a0 a0_kinds a0_starts a0_values v0_33) H := by rw [ev0_33]; exact hP
      have hD : va_D A (WS_X9_extend cI cJ cZ cY a0 a0_kinds a0_starts a0_values v0_33) := by rw [ev0_33]; exact hD
      have hg := g_lte hg v0_33 ev0_33
      refine lv_goto (tgt := 198) hx hb dX9_extend_54 (by decide) ?_
      have hg := Option.some.inj hg
      rw [hQ]
      exact W.vret hx hb hr (fun t ht hW => ⟨⟨(v0_33), rfl, hg, by rw [ht]; exact hP, hD⟩, hS.F ht⟩) hS.2.2 dX9_extend_198
  · have hg := g_it hg c_13
    have hg := Option.some.inj hg
    rw [hQ]
    exact W.vret hx hb hr (fun t ht hW => ⟨⟨(v0), rfl, hg, by rw [ht]; exact hP, hD⟩, hS.F ht⟩) hS.2.2 dX9_extend_7

/-! ManyEyes$World.isCell(I)Z -/
def WS_X10_isCell (cI cJ cZ cY : ClassId) (a0 a0_own a0_bodyX a0_bodyY a0_bodyWayX a0_bodyWayY a0_bodyMark : Nat) (v0 : BX10) : va_W := (GX10 cI cJ cZ cY a0 a0_own a0_bodyX a0_bodyY a0_bodyWayX a0_bodyWayY a0_bodyMark v0)
def f_X10_isCell (v0 : BX10) (p0 : Int32) : Option (Int32) := (f_X11_isWithin p0 0 ((Int32.ofNat (pX10_n v0)) - 1)).bind (fun r_1 => g_gd (r_1 = 0 ∨ r_1 = 1) (some r_1))
abbrev rm_X10_isCell : Room := { frames := 1, cells := 0, slots := 0, locals := 22 }
set_option maxHeartbeats 4000000 in
set_option maxRecDepth 100000 in
theorem k_X10_isCell {l : Launch} {D : va_G} {cI cJ cZ cY : ClassId} {tX tY : Nat} {sz : Nat} (a0 a0_own a0_bodyX a0_bodyY a0_bodyWayX a0_bodyWayY a0_bodyMark : Nat) (v0 : BX10) (p0 : Int32) (res : Int32) (hg : f_X10_isCell v0 p0 = some res) : Met l yX10_isCell (Cond.code yX10_isCell cX10_isCell 2 (some .boolean) :: TB) rm_X10_isCell (PC D cI cJ cZ cY tX tY [.ref a0, .int p0] (WS_X10_isCell cI cJ cZ cY a0 a0_own a0_bodyX a0_bodyY a0_bodyWayX a0_bodyWayY a0_bodyMark v0) sz) (va_Qi (fun (r : Int32) (_ : Unit) => r = res) (BC D (fun _ : Unit => WS_X10_isCell cI cJ cZ cY a0 a0_own a0_bodyX a0_bodyY a0_bodyWayX a0_bodyWayY a0_bodyMark v0) (va_A (WS_X10_isCell cI cJ cZ cY a0 a0_own a0_bodyX a0_bodyY a0_bodyWayX a0_bodyWayY a0_bodyMark v0) sz)) (va_A (WS_X10_isCell cI cJ cZ cY a0 a0_own a0_bodyX a0_bodyY a0_bodyWayX a0_bodyWayY a0_bodyMark v0) sz)) 0 0 (va_A (WS_X10_isCell cI cJ cZ cY a0 a0_own a0_bodyX a0_bodyY a0_bodyWayX a0_bodyWayY a0_bodyMark v0) sz) := by
  refine Met.ofW (cc := cX10_isCell) (maxL := 2) (ret := (some .boolean)) (by decide) rfl ?_
  intro p e s m args below meth c s₁ B hml hv
  obtain ⟨hargs, hsz, hP, hK, hD0, hT⟩ := hv
  have hx := B.exec
  have hb := B.bytes
  have hr := B.returns
  have htb : ∀ w ∈ TB, w.before args s = true := fun w h => atoms_spec (ws := Cond.code yX10_isCell cX10_isCell 2 (some .boolean) :: TB) B.pre w (List.mem_cons_of_mem _ h)
  have hown : s.vm.findClass "ManyEyes$World" = some m.cls := findClass_of_methodNamed B.named
  have hlocks := B.notSynchronized
  subst hsz
  have hD := hD0.self (sz := s.heap.size)
  generalize hAe : va_A (WS_X10_isCell cI cJ cZ cY a0 a0_own a0_bodyX a0_bodyY a0_bodyWayX a0_bodyWayY a0_bodyMark v0) s.heap.size = A at hD hT ⊢
  have hA : ∀ q : Nat, s.heap.size ≤ q → A q := fun q h => by rw [← hAe]; exact Or.inr h
  have hS : va_S A s.heap s.heap [] := va_S.rf
  have hl := lv_entry ([.ref a0, .int p0]) (n := 2) (Nat.le_of_ble_eq_true rfl)
  have he : entryFrame m args 2 = F0 m 0 (lg_sl ([.ref a0, .int p0]) ++ List.replicate (2 - (lg_sl ([.ref a0, .int p0])).length) Slot.unset).toArray [] := by rw [hargs, lg_entry_eq]
  rw [he]
  generalize (lg_sl ([.ref a0, .int p0]) ++ List.replicate (2 - (lg_sl ([.ref a0, .int p0])).length) Slot.unset).toArray = ls at hl ⊢
  have hl : lv_has ls 2 [(0, .ref a0), (1, .int p0)] := hl
  show W p l e rm_X10_isCell s m args below meth c s.heap [] 0 0 _ _
  refine W.genQ (fun Q hQ => ?_)
  generalize hHe : s.heap = H at hP ⊢
  have hS : va_S A s.heap H [] := by rw [← hHe]; exact va_S.rf
  generalize ([] : List Loc) = locs at hS ⊢
  unfold f_X10_isCell at hg
  refine lv_iload_n hx hb dX10_isCell_0 rfl (lv_at hl 1 rfl) ?_
  refine lv_iconst (v := 0) hx hb dX10_isCell_1 (by decide) ?_
  refine lv_aload_n hx hb dX10_isCell_2 rfl (lv_at hl 0 rfl) ?_
  refine va_get (ci := 9) (v := .ref a0_own) (C := RX10) (T := TX10) (N := 9) hx hb htb uX10 hown hK.1 hP 0 rfl rfl 2 (by decide) (htb _ tg_50) (fun _ h9 => h9) rfl dX10_isCell_3 ?_
  refine va_alen (v := (Int32.ofNat (pX10_n v0))) hx hb hK.1 hP 1 0 rfl rfl rfl dX10_isCell_6 ?_
  refine lv_iconst (v := 1) hx hb dX10_isCell_7 (by decide) ?_
  refine lv_isub hx hb dX10_isCell_8 ?_
  obtain ⟨r_1, hr_1, hg⟩ := g_bd hg
  refine cc_i (va_runSN (As := [.int p0, .int 0, .int ((Int32.ofNat (pX10_n v0)) - 1)]) (rest := []) ⟨hx, hb, hml, hown, htb⟩ (k_X11_isWithin p0 0 ((Int32.ofNat (pX10_n v0)) - 1) r_1 hr_1) (cw_SN 3 htb tg_450 tg_1 (hK.2.1 _ nw_448) tg_449 rfl rfl (by decide +kernel) ⟨Nat.le_of_ble_eq_true rfl, Nat.le_of_ble_eq_true rfl⟩) ⟨PC.blind, PC.pre hK hT hP hD hS hA [] rfl (by decide)⟩ rfl rfl hl.1 rfl (lv_room (Nat.le_of_ble_eq_true rfl)) dX10_isCell_9 ⟨Nat.le_of_ble_eq_true rfl, Nat.le_of_ble_eq_true rfl⟩) hP hD hS hA [] [0, 1, 2, 3, 4, 5, 6] rfl rfl (by decide) (by decide) (fun r9 u9 H locs hw hP hD hS => ?_)
  have hw := hw.symm
  subst hw
  have hP : va_P D vwCl (WS_X10_isCell cI cJ cZ cY a0 a0_own a0_bodyX a0_bodyY a0_bodyWayX a0_bodyWayY a0_bodyMark v0) H := hP.sub [0, 1, 2, 3, 4, 5, 6] rfl
  have hD : va_D A (WS_X10_isCell cI cJ cZ cY a0 a0_own a0_bodyX a0_bodyY a0_bodyWayX a0_bodyWayY a0_bodyMark v0) := hD.sub [0, 1, 2, 3, 4, 5, 6] (by decide) rfl
  obtain ⟨h_2, hg⟩ := g_gde hg
  have hg := Option.some.inj hg
  rw [hQ]
  exact W.zret (v := r_1) (ty := .boolean) hx hb hr (bool_nar h_2) (fun t ht hW => ⟨⟨r_1, (), rfl, hg, by rw [ht]; exact hP, hD⟩, hS.F ht⟩) hS.2.2 dX10_isCell_12

/-! ManyEyes$World.isBody(I)Z -/
def WS_X10_isBody (cI cJ cZ cY : ClassId) (a0 a0_own a0_bodyX a0_bodyY a0_bodyWayX a0_bodyWayY a0_bodyMark : Nat) (v0 : BX10) : va_W := (GX10 cI cJ cZ cY a0 a0_own a0_bodyX a0_bodyY a0_bodyWayX a0_bodyWayY a0_bodyMark v0)
def f_X10_isBody (v0 : BX10) (p0 : Int32) : Option (Int32) := (f_X11_isWithin p0 0 ((pX10_bodies v0) - 1)).bind (fun r_1 => g_gd (r_1 = 0 ∨ r_1 = 1) (some r_1))
abbrev rm_X10_isBody : Room := { frames := 1, cells := 0, slots := 0, locals := 22 }
set_option maxHeartbeats 4000000 in
set_option maxRecDepth 100000 in
theorem k_X10_isBody {l : Launch} {D : va_G} {cI cJ cZ cY : ClassId} {tX tY : Nat} {sz : Nat} (a0 a0_own a0_bodyX a0_bodyY a0_bodyWayX a0_bodyWayY a0_bodyMark : Nat) (v0 : BX10) (p0 : Int32) (res : Int32) (hg : f_X10_isBody v0 p0 = some res) : Met l yX10_isBody (Cond.code yX10_isBody cX10_isBody 2 (some .boolean) :: TB) rm_X10_isBody (PC D cI cJ cZ cY tX tY [.ref a0, .int p0] (WS_X10_isBody cI cJ cZ cY a0 a0_own a0_bodyX a0_bodyY a0_bodyWayX a0_bodyWayY a0_bodyMark v0) sz) (va_Qi (fun (r : Int32) (_ : Unit) => r = res) (BC D (fun _ : Unit => WS_X10_isBody cI cJ cZ cY a0 a0_own a0_bodyX a0_bodyY a0_bodyWayX a0_bodyWayY a0_bodyMark v0) (va_A (WS_X10_isBody cI cJ cZ cY a0 a0_own a0_bodyX a0_bodyY a0_bodyWayX a0_bodyWayY a0_bodyMark v0) sz)) (va_A (WS_X10_isBody cI cJ cZ cY a0 a0_own a0_bodyX a0_bodyY a0_bodyWayX a0_bodyWayY a0_bodyMark v0) sz)) 0 0 (va_A (WS_X10_isBody cI cJ cZ cY a0 a0_own a0_bodyX a0_bodyY a0_bodyWayX a0_bodyWayY a0_bodyMark v0) sz) := by
  refine Met.ofW (cc := cX10_isBody) (maxL := 2) (ret := (some .boolean)) (by decide) rfl ?_
  intro p e s m args below meth c s₁ B hml hv
  obtain ⟨hargs, hsz, hP, hK, hD0, hT⟩ := hv
  have hx := B.exec
  have hb := B.bytes
  have hr := B.returns
  have htb : ∀ w ∈ TB, w.before args s = true := fun w h => atoms_spec (ws := Cond.code yX10_isBody cX10_isBody 2 (some .boolean) :: TB) B.pre w (List.mem_cons_of_mem _ h)
  have hown : s.vm.findClass "ManyEyes$World" = some m.cls := findClass_of_methodNamed B.named
  have hlocks := B.notSynchronized
  subst hsz
  have hD := hD0.self (sz := s.heap.size)
  generalize hAe : va_A (WS_X10_isBody cI cJ cZ cY a0 a0_own a0_bodyX a0_bodyY a0_bodyWayX a0_bodyWayY a0_bodyMark v0) s.heap.size = A at hD hT ⊢
  have hA : ∀ q : Nat, s.heap.size ≤ q → A q := fun q h => by rw [← hAe]; exact Or.inr h
  have hS : va_S A s.heap s.heap [] := va_S.rf
  have hl := lv_entry ([.ref a0, .int p0]) (n := 2) (Nat.le_of_ble_eq_true rfl)
  have he : entryFrame m args 2 = F0 m 0 (lg_sl ([.ref a0, .int p0]) ++ List.replicate (2 - (lg_sl ([.ref a0, .int p0])).length) Slot.unset).toArray [] := by rw [hargs, lg_entry_eq]
  rw [he]
  generalize (lg_sl ([.ref a0, .int p0]) ++ List.replicate (2 - (lg_sl ([.ref a0, .int p0])).length) Slot.unset).toArray = ls at hl ⊢
  have hl : lv_has ls 2 [(0, .ref a0), (1, .int p0)] := hl
  show W p l e rm_X10_isBody s m args below meth c s.heap [] 0 0 _ _
  refine W.genQ (fun Q hQ => ?_)
  generalize hHe : s.heap = H at hP ⊢
  have hS : va_S A s.heap H [] := by rw [← hHe]; exact va_S.rf
  generalize ([] : List Loc) = locs at hS ⊢
  unfold f_X10_isBody at hg
  refine lv_iload_n hx hb dX10_isBody_0 rfl (lv_at hl 1 rfl) ?_
  refine lv_iconst (v := 0) hx hb dX10_isBody_1 (by decide) ?_
  refine lv_aload_n hx hb dX10_isBody_2 rfl (lv_at hl 0 rfl) ?_
  refine va_get (ci := 9) (v := .int (pX10_bodies v0)) (C := RX10) (T := TX10) (N := 9) hx hb htb uX10 hown hK.1 hP 0 rfl rfl 8 (by decide) (htb _ tg_65) (fun _ h9 => h9) rfl dX10_isBody_3 ?_
  refine lv_iconst (v := 1) hx hb dX10_isBody_6 (by decide) ?_
  refine lv_isub hx hb dX10_isBody_7 ?_
  obtain ⟨r_1, hr_1, hg⟩ := g_bd hg
  refine cc_i (va_runSN (As := [.int p0, .int 0, .int ((pX10_bodies v0) - 1)]) (rest := []) ⟨hx, hb, hml, hown, htb⟩ (k_X11_isWithin p0 0 ((pX10_bodies v0) - 1) r_1 hr_1) (cw_SN 3 htb tg_450 tg_1 (hK.2.1 _ nw_448) tg_449 rfl rfl (by decide +kernel) ⟨Nat.le_of_ble_eq_true rfl, Nat.le_of_ble_eq_true rfl⟩) ⟨PC.blind, PC.pre hK hT hP hD hS hA [] rfl (by decide)⟩ rfl rfl hl.1 rfl (lv_room (Nat.le_of_ble_eq_true rfl)) dX10_isBody_8 ⟨Nat.le_of_ble_eq_true rfl, Nat.le_of_ble_eq_true rfl⟩) hP hD hS hA [] [0, 1, 2, 3, 4, 5, 6] rfl rfl (by decide) (by decide) (fun r9 u9 H locs hw hP hD hS => ?_)
  have hw := hw.symm
  subst hw
  have hP : va_P D vwCl (WS_X10_isBody cI cJ cZ cY a0 a0_own a0_bodyX a0_bodyY a0_bodyWayX a0_bodyWayY a0_bodyMark v0) H := hP.sub [0, 1, 2, 3, 4, 5, 6] rfl
  have hD : va_D A (WS_X10_isBody cI cJ cZ cY a0 a0_own a0_bodyX a0_bodyY a0_bodyWayX a0_bodyWayY a0_bodyMark v0) := hD.sub [0, 1, 2, 3, 4, 5, 6] (by decide) rfl
  obtain ⟨h_2, hg⟩ := g_gde hg
  have hg := Option.some.inj hg
  rw [hQ]
  exact W.zret (v := r_1) (ty := .boolean) hx hb hr (bool_nar h_2) (fun t ht hW => ⟨⟨r_1, (), rfl, hg, by rw [ht]; exact hP, hD⟩, hS.F ht⟩) hS.2.2 dX10_isBody_11

/-! ManyEyes$World.isPlace(II)Z -/
def WS_X10_isPlace (cI cJ cZ cY : ClassId) (a0 a0_own a0_bodyX a0_bodyY a0_bodyWayX a0_bodyWayY a0_bodyMark : Nat) (v0 : BX10) : va_W := (GX10 cI cJ cZ cY a0 a0_own a0_bodyX a0_bodyY a0_bodyWayX a0_bodyWayY a0_bodyMark v0)
def f_X10_isPlace (v0 : BX10) (p0 : Int32) (p1 : Int32) : Option (Int32) := (f_X11_isWithin p0 0 (((pX10_w v0) * 16) - 1)).bind (fun r_1 => if (r_1 : Int32) = 0 then (some 0) else ((f_X11_isWithin p1 0 (((pX10_h v0) * 16) - 1)).bind (fun r_3 => if (r_3 : Int32) = 0 then (some 0) else (some 1))))
abbrev rm_X10_isPlace : Room := { frames := 1, cells := 0, slots := 0, locals := 22 }
set_option maxHeartbeats 4000000 in
set_option maxRecDepth 100000 in
theorem k_X10_isPlace {l : Launch} {D : va_G} {cI cJ cZ cY : ClassId} {tX tY : Nat} {sz : Nat} (a0 a0_own a0_bodyX a0_bodyY a0_bodyWayX a0_bodyWayY a0_bodyMark : Nat) (v0 : BX10) (p0 : Int32) (p1 : Int32) (res : Int32) (hg : f_X10_isPlace v0 p0 p1 = some res) : Met l yX10_isPlace (Cond.code yX10_isPlace cX10_isPlace 3 (some .boolean) :: TB) rm_X10_isPlace (PC D cI cJ cZ cY tX tY [.ref a0, .int p0, .int p1] (WS_X10_isPlace cI cJ cZ cY a0 a0_own a0_bodyX a0_bodyY a0_bodyWayX a0_bodyWayY a0_bodyMark v0) sz) (va_Qi (fun (r : Int32) (_ : Unit) => r = res) (BC D (fun _ : Unit => WS_X10_isPlace cI cJ cZ cY a0 a0_own a0_bodyX a0_bodyY a0_bodyWayX a0_bodyWayY a0_bodyMark v0) (va_A (WS_X10_isPlace cI cJ cZ cY a0 a0_own a0_bodyX a0_bodyY a0_bodyWayX a0_bodyWayY a0_bodyMark v0) sz)) (va_A (WS_X10_isPlace cI cJ cZ cY a0 a0_own a0_bodyX a0_bodyY a0_bodyWayX a0_bodyWayY a0_bodyMark v0) sz)) 0 0 (va_A (WS_X10_isPlace cI cJ cZ cY a0 a0_own a0_bodyX a0_bodyY a0_bodyWayX a0_bodyWayY a0_bodyMark v0) sz) := by
  refine Met.ofW (cc := cX10_isPlace) (maxL := 3) (ret := (some .boolean)) (by decide) rfl ?_
  intro p e s m args below meth c s₁ B hml hv
  obtain ⟨hargs, hsz, hP, hK, hD0, hT⟩ := hv
  have hx := B.exec
  have hb := B.bytes
  have hr := B.returns
  have htb : ∀ w ∈ TB, w.before args s = true := fun w h => atoms_spec (ws := Cond.code yX10_isPlace cX10_isPlace 3 (some .boolean) :: TB) B.pre w (List.mem_cons_of_mem _ h)
  have hown : s.vm.findClass "ManyEyes$World" = some m.cls := findClass_of_methodNamed B.named
  have hlocks := B.notSynchronized
  subst hsz
  have hD := hD0.self (sz := s.heap.size)
  generalize hAe : va_A (WS_X10_isPlace cI cJ cZ cY a0 a0_own a0_bodyX a0_bodyY a0_bodyWayX a0_bodyWayY a0_bodyMark v0) s.heap.size = A at hD hT ⊢
  have hA : ∀ q : Nat, s.heap.size ≤ q → A q := fun q h => by rw [← hAe]; exact Or.inr h
  have hS : va_S A s.heap s.heap [] := va_S.rf
  have hl := lv_entry ([.ref a0, .int p0, .int p1]) (n := 3) (Nat.le_of_ble_eq_true rfl)
  have he : entryFrame m args 3 = F0 m 0 (lg_sl ([.ref a0, .int p0, .int p1]) ++ List.replicate (3 - (lg_sl ([.ref a0, .int p0, .int p1])).length) Slot.unset).toArray [] := by rw [hargs, lg_entry_eq]
  rw [he]
  generalize (lg_sl ([.ref a0, .int p0, .int p1]) ++ List.replicate (3 - (lg_sl ([.ref a0, .int p0, .int p1])).length) Slot.unset).toArray = ls at hl ⊢
  have hl : lv_has ls 3 [(0, .ref a0), (1, .int p0), (2, .int p1)] := hl
  show W p l e rm_X10_isPlace s m args below meth c s.heap [] 0 0 _ _
  refine W.genQ (fun Q hQ => ?_)
  generalize hHe : s.heap = H at hP ⊢
  have hS : va_S A s.heap H [] := by rw [← hHe]; exact va_S.rf
  generalize ([] : List Loc) = locs at hS ⊢
  unfold f_X10_isPlace at hg
  refine lv_iload_n hx hb dX10_isPlace_0 rfl (lv_at hl 1 rfl) ?_
  refine lv_iconst (v := 0) hx hb dX10_isPlace_1 (by decide) ?_
  refine lv_aload_n hx hb dX10_isPlace_2 rfl (lv_at hl 0 rfl) ?_
  refine va_get (ci := 9) (v := .int (pX10_w v0)) (C := RX10) (T := TX10) (N := 9) hx hb htb uX10 hown hK.1 hP 0 rfl rfl 0 (by decide) (htb _ tg_43) (fun _ h9 => h9) rfl dX10_isPlace_3 ?_
  refine lv_bipush (v := 16) hx hb dX10_isPlace_6 (by decide) ?_
  refine lv_imul hx hb dX10_isPlace_8 ?_
  refine lv_iconst (v := 1) hx hb dX10_isPlace_9 (by decide) ?_
  refine lv_isub hx hb dX10_isPlace_10 ?_
  obtain ⟨r_1, hr_1, hg⟩ := g_bd hg
  refine cc_i (va_runSN (As := [.int p0, .int 0, .int (((pX10_w v0) * 16) - 1)]) (rest := []) ⟨hx, hb, hml, hown, htb⟩ (k_X11_isWithin p0 0 (((pX10_w v0) * 16) - 1) r_1 hr_1) (cw_SN 3 htb tg_450 tg_1 (hK.2.1 _ nw_448) tg_449 rfl rfl (by decide +kernel) ⟨Nat.le_of_ble_eq_true rfl, Nat.le_of_ble_eq_true rfl⟩) ⟨PC.blind, PC.pre hK hT hP hD hS hA [] rfl (by decide)⟩ rfl rfl hl.1 rfl (lv_room (Nat.le_of_ble_eq_true rfl)) dX10_isPlace_11 ⟨Nat.le_of_ble_eq_true rfl, Nat.le_of_ble_eq_true rfl⟩) hP hD hS hA [] [0, 1, 2, 3, 4, 5, 6] rfl rfl (by decide) (by decide) (fun r9 u9 H locs hw hP hD hS => ?_)
  have hw := hw.symm
  subst hw
  have hP : va_P D vwCl (WS_X10_isPlace cI cJ cZ cY a0 a0_own a0_bodyX a0_bodyY a0_bodyWayX a0_bodyWayY a0_bodyMark v0) H := hP.sub [0, 1, 2, 3, 4, 5, 6] rfl
  have hD : va_D A (WS_X10_isPlace cI cJ cZ cY a0 a0_own a0_bodyX a0_bodyY a0_bodyWayX a0_bodyWayY a0_bodyMark v0) := hD.sub [0, 1, 2, 3, 4, 5, 6] (by decide) rfl
  refine lv_if_eq (tgt := 38) hx hb dX10_isPlace_14 (by decide) (fun c_2 => ?_) (fun c_2 => ?_)
  · have hg := g_it hg c_2
    refine lv_iconst (v := 0) hx hb dX10_isPlace_38 (by decide) ?_
    have hg := Option.some.inj hg
    rw [hQ]
    exact W.zret (v := 0) (ty := .boolean) hx hb hr rfl (fun t ht hW => ⟨⟨0, (), rfl, hg, by rw [ht]; exact hP, hD⟩, hS.F ht⟩) hS.2.2 dX10_isPlace_39
  · have hg := g_if hg c_2
    refine lv_iload_n hx hb dX10_isPlace_17 rfl (lv_at hl 2 rfl) ?_
    refine lv_iconst (v := 0) hx hb dX10_isPlace_18 (by decide) ?_
    refine lv_aload_n hx hb dX10_isPlace_19 rfl (lv_at hl 0 rfl) ?_
    refine va_get (ci := 9) (v := .int (pX10_h v0)) (C := RX10) (T := TX10) (N := 9) hx hb htb uX10 hown hK.1 hP 0 rfl rfl 1 (by decide) (htb _ tg_46) (fun _ h9 => h9) rfl dX10_isPlace_20 ?_
    refine lv_bipush (v := 16) hx hb dX10_isPlace_23 (by decide) ?_
    refine lv_imul hx hb dX10_isPlace_25 ?_
    refine lv_iconst (v := 1) hx hb dX10_isPlace_26 (by decide) ?_
    refine lv_isub hx hb dX10_isPlace_27 ?_
    obtain ⟨r_3, hr_3, hg⟩ := g_bd hg
    refine cc_i (va_runSN (As := [.int p1, .int 0, .int (((pX10_h v0) * 16) - 1)]) (rest := []) ⟨hx, hb, hml, hown, htb⟩ (k_X11_isWithin p1 0 (((pX10_h v0) * 16) - 1) r_3 hr_3) (cw_SN 3 htb tg_450 tg_1 (hK.2.1 _ nw_448) tg_449 rfl rfl (by decide +kernel) ⟨Nat.le_of_ble_eq_true rfl, Nat.le_of_ble_eq_true rfl⟩) ⟨PC.blind, PC.pre hK hT hP hD hS hA [] rfl (by decide)⟩ rfl rfl hl.1 rfl (lv_room (Nat.le_of_ble_eq_true rfl)) dX10_isPlace_28 ⟨Nat.le_of_ble_eq_true rfl, Nat.le_of_ble_eq_true rfl⟩) hP hD hS hA [] [0, 1, 2, 3, 4, 5, 6] rfl rfl (by decide) (by decide) (fun r9 u9 H locs hw hP hD hS => ?_)
    have hw := hw.symm
    subst hw
    have hP : va_P D vwCl (WS_X10_isPlace cI cJ cZ cY a0 a0_own a0_bodyX a0_bodyY a0_bodyWayX a0_bodyWayY a0_bodyMark v0) H := hP.sub [0, 1, 2, 3, 4, 5, 6] rfl
    have hD : va_D A (WS_X10_isPlace cI cJ cZ cY a0 a0_own a0_bodyX a0_bodyY a0_bodyWayX a0_bodyWayY a0_bodyMark v0) := hD.sub [0, 1, 2, 3, 4, 5, 6] (by decide) rfl
    refine lv_if_eq (tgt := 38) hx hb dX10_isPlace_31 (by decide) (fun c_4 => ?_) (fun c_4 => ?_)
    · have hg := g_it hg c_4
      refine lv_iconst (v := 0) hx hb dX10_isPlace_38 (by decide) ?_
      have hg := Option.some.inj hg
      rw [hQ]
      exact W.zret (v := 0) (ty := .boolean) hx hb hr rfl (fun t ht hW => ⟨⟨0, (), rfl, hg, by rw [ht]; exact hP, hD⟩, hS.F ht⟩) hS.2.2 dX10_isPlace_39
    · have hg := g_if hg c_4
      refine lv_iconst (v := 1) hx hb dX10_isPlace_34 (by decide) ?_
      refine lv_goto (tgt := 39) hx hb dX10_isPlace_35 (by decide) ?_
      have hg := Option.some.inj hg
      rw [hQ]
      exact W.zret (v := 1) (ty := .boolean) hx hb hr rfl (fun t ht hW => ⟨⟨1, (), rfl, hg, by rw [ht]; exact hP, hD⟩, hS.F ht⟩) hS.2.2 dX10_isPlace_39

/-! ManyEyes$World.seenMark(II)I -/
def WS_X10_seenMark (cI cJ cZ cY : ClassId) (a0 a0_own a0_bodyX a0_bodyY a0_bodyWayX a0_bodyWayY a0_bodyMark : Nat) (v0 : BX10) : va_W := (GX10 cI cJ cZ cY a0 a0_own a0_bodyX a0_bodyY a0_bodyWayX a0_bodyWayY a0_bodyMark v0)
def f_X10_seenMark_b2B (v0 : BX10) (J2 : Int32 × Int32 × Int32 → Option (Int32)) (x1 : Int32) (x2 : Int32) (x3 : Int32) : Option (Int32) := if ((pX10_bodies v0) : Int32) ≤ x3 then ((f_X10_isCell v0 x1).bind (fun r_2 => if (r_2 : Int32) = 0 then (some 0) else (g_gd (inB x1 (pX10_n v0)) (some ((pX10_own v0) (x1 : Int32).toNatClampNeg))))) else ((f_X10_bodyCell v0 x3 x2).bind (fun r_5 => if (r_5 : Int32) = x1 then (g_gd (inB x3 6) (some ((pX10_bodyMark v0) (x3 : Int32).toNatClampNeg))) else (g_lt (x3 + 1 : Int32) (fun x3_7 => J2 (x1, x2, x3_7)))))
def f_X10_seenMark_b2 (v0 : BX10) : Nat → (Int32 × Int32 × Int32) → Option (Int32) := g_lp (fun J z => f_X10_seenMark_b2B v0 J z.1 z.2.1 z.2.2)
def f_X10_seenMark (v0 : BX10) (p0 : Int32) (p1 : Int32) : Option (Int32) := f_X10_seenMark_b2 v0 fU (p0, p1, 0)
abbrev rm_X10_seenMark : Room := { frames := 2, cells := 0, slots := 0, locals := 43 }
set_option maxHeartbeats 4000000 in
set_option maxRecDepth 100000 in
theorem k_X10_seenMark {l : Launch} {D : va_G} {cI cJ cZ cY : ClassId} {tX tY : Nat} {sz : Nat} (a0 a0_own a0_bodyX a0_bodyY a0_bodyWayX a0_bodyWayY a0_bodyMark : Nat) (v0 : BX10) (p0 : Int32) (p1 : Int32) (res : Int32) (hg : f_X10_seenMark v0 p0 p1 = some res) : Met l yX10_seenMark (Cond.code yX10_seenMark cX10_seenMark 4 (some .int) :: TB) rm_X10_seenMark (PC D cI cJ cZ cY tX tY [.ref a0, .int p0, .int p1] (WS_X10_seenMark cI cJ cZ cY a0 a0_own a0_bodyX a0_bodyY a0_bodyWayX a0_bodyWayY a0_bodyMark v0) sz) (va_Qi (fun (r : Int32) (_ : Unit) => r = res) (BC D (fun _ : Unit => WS_X10_seenMark cI cJ cZ cY a0 a0_own a0_bodyX a0_bodyY a0_bodyWayX a0_bodyWayY a0_bodyMark v0) (va_A (WS_X10_seenMark cI cJ cZ cY a0 a0_own a0_bodyX a0_bodyY a0_bodyWayX a0_bodyWayY a0_bodyMark v0) sz)) (va_A (WS_X10_seenMark cI cJ cZ cY a0 a0_own a0_bodyX a0_bodyY a0_bodyWayX a0_bodyWayY a0_bodyMark v0) sz)) 0 0 (va_A (WS_X10_seenMark cI cJ cZ cY a0 a0_own a0_bodyX a0_bodyY a0_bodyWayX a0_bodyWayY a0_bodyMark v0) sz) := by
  refine Met.ofW (cc := cX10_seenMark) (maxL := 4) (ret := (some .int)) (by decide) rfl ?_
  intro p e s m args below meth c s₁ B hml hv
  obtain ⟨hargs, hsz, hP, hK, hD0, hT⟩ := hv
  have hx := B.exec
  have hb := B.bytes
  have hr := B.returns
  have htb : ∀ w ∈ TB, w.before args s = true := fun w h => atoms_spec (ws := Cond.code yX10_seenMark cX10_seenMark 4 (some .int) :: TB) B.pre w (List.mem_cons_of_mem _ h)
  have hown : s.vm.findClass "ManyEyes$World" = some m.cls := findClass_of_methodNamed B.named
  have hlocks := B.notSynchronized
  subst hsz
  have hD := hD0.self (sz := s.heap.size)
  generalize hAe : va_A (WS_X10_seenMark cI cJ cZ cY a0 a0_own a0_bodyX a0_bodyY a0_bodyWayX a0_bodyWayY a0_bodyMark v0) s.heap.size = A at hD hT ⊢
  have hA : ∀ q : Nat, s.heap.size ≤ q → A q := fun q h => by rw [← hAe]; exact Or.inr h
  have hS : va_S A s.heap s.heap [] := va_S.rf
  have hl := lv_entry ([.ref a0, .int p0, .int p1]) (n := 4) (Nat.le_of_ble_eq_true rfl)
  have he : entryFrame m args 4 = F0 m 0 (lg_sl ([.ref a0, .int p0, .int p1]) ++ List.replicate (4 - (lg_sl ([.ref a0, .int p0, .int p1])).length) Slot.unset).toArray [] := by rw [hargs, lg_entry_eq]
  rw [he]
  generalize (lg_sl ([.ref a0, .int p0, .int p1]) ++ List.replicate (4 - (lg_sl ([.ref a0, .int p0, .int p1])).length) Slot.unset).toArray = ls at hl ⊢
  have hl : lv_has ls 4 [(0, .ref a0), (1, .int p0), (2, .int p1)] := hl
  show W p l e rm_X10_seenMark s m args below meth c s.heap [] 0 0 _ _
  refine W.genQ (fun Q hQ => ?_)
  have b_2 : ∀ (n : Nat), ∀ (x1 : Int32) (x2 : Int32) (x3 : Int32) (H : Heap) (locs : List Loc) (ls : Array Slot), va_P D vwCl (WS_X10_seenMark cI cJ cZ cY a0 a0_own a0_bodyX a0_bodyY a0_bodyWayX a0_bodyWayY a0_bodyMark v0) H → va_D A (WS_X10_seenMark cI cJ cZ cY a0 a0_own a0_bodyX a0_bodyY a0_bodyWayX a0_bodyWayY a0_bodyMark v0) → va_S A s.heap H locs → lv_has ls 4 [(0, .ref a0), (1, .int x1), (2, .int x2), (3, .int x3)] → f_X10_seenMark_b2 v0 n (x1, x2, x3) = some res → W p l e rm_X10_seenMark s m args below meth c H locs 0 0 Q (F0 m 2 ls []) := by
    intro n
    induction n with
    | zero =>
      intro x1 x2 x3 H locs ls hP hD hS hl hg
      exact (g_lp0 hg).elim
    | succ n ih =>
      intro x1 x2 x3 H locs ls hP hD hS hl hg
      have hg : f_X10_seenMark_b2B v0 (f_X10_seenMark_b2 v0 n) x1 x2 x3 = some res := hg
      unfold f_X10_seenMark_b2B at hg
      refine lv_iload_n hx hb dX10_seenMark_2 rfl (lv_at hl 3 rfl) ?_
      refine lv_aload_n hx hb dX10_seenMark_3 rfl (lv_at hl 0 rfl) ?_
      refine va_get (ci := 9) (v := .int (pX10_bodies v0)) (C := RX10) (T := TX10) (N := 9) hx hb htb uX10 hown hK.1 hP 0 rfl rfl 8 (by decide) (htb _ tg_65) (fun _ h9 => h9) rfl dX10_seenMark_4 ?_
      refine lv_icmp_ge (tgt := 33) hx hb dX10_seenMark_7 (by decide) (fun c_1 => ?_) (fun c_1 => ?_)
      · have hg := g_it hg c_1
        refine lv_aload_n hx hb dX10_seenMark_33 rfl (lv_at hl 0 rfl) ?_
        refine lv_iload_n hx hb dX10_seenMark_34 rfl (lv_at hl 1 rfl) ?_
        obtain ⟨r_2, hr_2, hg⟩ := g_bd hg
        refine cc_i (va_runV (C := RX10) (As := [.int x1]) (rest := []) ⟨hx, hb, hml, hown, htb⟩ (k_X10_isCell a0 a0_own a0_bodyX a0_bodyY a0_bodyWayX a0_bodyWayY a0_bodyMark v0 x1 r_2 hr_2) (cw_V 1 htb tg_447 tg_3 tg_475 tg_445 tg_446 rfl rfl (by decide +kernel) ⟨Nat.le_of_ble_eq_true rfl, Nat.le_of_ble_eq_true rfl⟩) ⟨PC.blind, va_recv hK.1 hP (ci := 9) (q0 := 0) rfl rfl, PC.pre hK hT hP hD hS hA [0, 1, 2, 3, 4, 5, 6] rfl (by decide)⟩ rfl rfl hl.1 rfl (lv_room (Nat.le_of_ble_eq_true rfl)) dX10_seenMark_35 ⟨Nat.le_of_ble_eq_true rfl, Nat.le_of_ble_eq_true rfl⟩) hP hD hS hA [0, 1, 2, 3, 4, 5, 6] [] rfl rfl (by decide) (by decide) (fun r9 u9 H locs hw hP hD hS => ?_)
        have hw := hw.symm
        subst hw
        have hP : va_P D vwCl (WS_X10_seenMark cI cJ cZ cY a0 a0_own a0_bodyX a0_bodyY a0_bodyWayX a0_bodyWayY a0_bodyMark v0) H := hP.sub [0, 1, 2, 3, 4, 5, 6] rfl
        have hD : va_D A (WS_X10_seenMark cI cJ cZ cY a0 a0_own a0_bodyX a0_bodyY a0_bodyWayX a0_bodyWayY a0_bodyMark v0) := hD.sub [0, 1, 2, 3, 4, 5, 6] (by decide) rfl
        refine lv_if_eq (tgt := 50) hx hb dX10_seenMark_38 (by decide) (fun c_3 => ?_) (fun c_3 => ?_)
        · have hg := g_it hg c_3
          refine lv_iconst (v := 0) hx hb dX10_seenMark_50 (by decide) ?_
          have hg := Option.some.inj hg
          rw [hQ]
          exact W.iret (v := 0) hx hb hr (fun t ht hW => ⟨⟨0, (), rfl, hg, by rw [ht]; exact hP, hD⟩, hS.F ht⟩) hS.2.2 dX10_seenMark_51
        · have hg := g_if hg c_3
          refine lv_aload_n hx hb dX10_seenMark_41 rfl (lv_at hl 0 rfl) ?_
          refine va_get (ci := 9) (v := .ref a0_own) (C := RX10) (T := TX10) (N := 9) hx hb htb uX10 hown hK.1 hP 0 rfl rfl 2 (by decide) (htb _ tg_50) (fun _ h9 => h9) rfl dX10_seenMark_42 ?_
          refine lv_iload_n hx hb dX10_seenMark_45 rfl (lv_at hl 1 rfl) ?_
          obtain ⟨h_4, hg⟩ := g_gde hg
          refine va_iald hx hb hK.1 hP 1 0 rfl rfl (inB_vp h_4) dX10_seenMark_46 ?_
          refine lv_goto (tgt := 51) hx hb dX10_seenMark_47 (by decide) ?_
          have hg := Option.some.inj hg
          rw [hQ]
          exact W.iret (v := ((pX10_own v0) (x1 : Int32).toNatClampNeg)) hx hb hr (fun t ht hW => ⟨⟨((pX10_own v0) (x1 : Int32).toNatClampNeg), (), rfl, hg, by rw [ht]; exact hP, hD⟩, hS.F ht⟩) hS.2.2 dX10_seenMark_51
      · have hg := g_if hg c_1
        refine lv_aload_n hx hb dX10_seenMark_10 rfl (lv_at hl 0 rfl) ?_
        refine lv_iload_n hx hb dX10_seenMark_11 rfl (lv_at hl 3 rfl) ?_
        refine lv_iload_n hx hb dX10_seenMark_12 rfl (lv_at hl 2 rfl) ?_
        obtain ⟨r_5, hr_5, hg⟩ := g_bd hg
        refine cc_i (va_runV (C := RX10) (As := [.int x3, .int x2]) (rest := []) ⟨hx, hb, hml, hown, htb⟩ (k_X10_bodyCell a0 a0_own a0_bodyX a0_bodyY a0_bodyWayX a0_bodyWayY a0_bodyMark v0 x3 x2 r_5 hr_5) (cw_V 2 htb tg_474 tg_3 tg_471 tg_472 tg_473 rfl rfl (by decide +kernel) ⟨Nat.le_of_ble_eq_true rfl, Nat.le_of_ble_eq_true rfl⟩) ⟨PC.blind, va_recv hK.1 hP (ci := 9) (q0 := 0) rfl rfl, PC.pre hK hT hP hD hS hA [0, 1, 2, 3, 4, 5, 6] rfl (by decide)⟩ rfl rfl hl.1 rfl (lv_room (Nat.le_of_ble_eq_true rfl)) dX10_seenMark_13 ⟨Nat.le_of_ble_eq_true rfl, Nat.le_of_ble_eq_true rfl⟩) hP hD hS hA [0, 1, 2, 3, 4, 5, 6] [] rfl rfl (by decide) (by decide) (fun r9 u9 H locs hw hP hD hS => ?_)
        have hw := hw.symm
        subst hw
        have hP : va_P D vwCl (WS_X10_seenMark cI cJ cZ cY a0 a0_own a0_bodyX a0_bodyY a0_bodyWayX a0_bodyWayY a0_bodyMark v0) H := hP.sub [0, 1, 2, 3, 4, 5, 6] rfl
        have hD : va_D A (WS_X10_seenMark cI cJ cZ cY a0 a0_own a0_bodyX a0_bodyY a0_bodyWayX a0_bodyWayY a0_bodyMark v0) := hD.sub [0, 1, 2, 3, 4, 5, 6] (by decide) rfl
        refine lv_iload_n hx hb dX10_seenMark_16 rfl (lv_at hl 1 rfl) ?_
        refine lv_icmp_ne (tgt := 27) hx hb dX10_seenMark_17 (by decide) (fun c_6 => ?_) (fun c_6 => ?_)
        · have hg := g_if hg c_6
          obtain ⟨x3_7, ex3_7⟩ : ∃ z : Int32, z = x3 + 1 := ⟨_, rfl⟩
          have hg := g_lte hg x3_7 ex3_7
          refine lv_iinc (v := x3_7) (lv' := [(3, .int x3_7), (0, .ref a0), (1, .int x1), (2, .int x2)]) hx hb dX10_seenMark_27 hl (k := 3) rfl (by rw [ex3_7]; rfl) (by decide) rfl (fun ls hl => ?_)
          refine lv_goto (tgt := 2) hx hb dX10_seenMark_30 (by decide) ?_
          exact ih x1 x2 x3_7 H locs ls hP hD hS (lv_sub hl [1, 2, 3, 0] rfl) hg
        · have hg := g_it hg c_6
          refine lv_aload_n hx hb dX10_seenMark_20 rfl (lv_at hl 0 rfl) ?_
          refine va_get (ci := 9) (v := .ref a0_bodyMark) (C := RX10) (T := TX10) (N := 9) hx hb htb uX10 hown hK.1 hP 0 rfl rfl 7 (by decide) (htb _ tg_60) (fun _ h9 => h9) rfl dX10_seenMark_21 ?_
          refine lv_iload_n hx hb dX10_seenMark_24 rfl (lv_at hl 3 rfl) ?_
          obtain ⟨h_8, hg⟩ := g_gde hg
          refine va_iald hx hb hK.1 hP 6 0 rfl rfl (inB_vp h_8) dX10_seenMark_25 ?_
          have hg := Option.some.inj hg
          rw [hQ]
          exact W.iret (v := ((pX10_bodyMark v0) (x3 : Int32).toNatClampNeg)) hx hb hr (fun t ht hW => ⟨⟨((pX10_bodyMark v0) (x3 : Int32).toNatClampNeg), (), rfl, hg, by rw [ht]; exact hP, hD⟩, hS.F ht⟩) hS.2.2 dX10_seenMark_26
  generalize hHe : s.heap = H at hP ⊢
  have hS : va_S A s.heap H [] := by rw [← hHe]; exact va_S.rf
  generalize ([] : List Loc) = locs at hS ⊢
  unfold f_X10_seenMark at hg
  refine lv_iconst (v := 0) hx hb dX10_seenMark_0 (by decide) ?_
  refine lv_istore_n (lv' := [(3, .int 0), (0, .ref a0), (1, .int p0), (2, .int p1)]) hx hb dX10_seenMark_1 rfl hl (by decide) rfl (fun ls hl => ?_)
  exact b_2 fU p0 p1 0 H locs ls hP hD hS (lv_sub hl [1, 2, 3, 0] rfl) hg
