/-! ManyEyes.covered(I)I -/
def WS_X11_covered (cI cJ cZ cY : ClassId) (a0 a0_tape a0_firstTakes r0_saved r0_sight r0_flyer r0_parser a1 a1_codes r1_world r1_reads r1_flight a2 a2_lensSide a2_lensWidth a2_pairA a2_pairB a2_pairDelay : Nat) (v0 : BX11) (v1 : BX8) (v2 : BX1) : va_W := (GX11o cI cJ cZ cY a0 a0_tape a0_firstTakes a1 r0_saved r0_sight r0_flyer r0_parser v0) ++ ((GX8 cI cJ cZ cY a1 a1_codes r1_world a2 r1_reads r1_flight v1) ++ ((GX1 cI cJ cZ cY a2 a2_lensSide a2_lensWidth a2_pairA a2_pairB a2_pairDelay v2)))
def f_X11_covered (v0 : BX11) (v1 : BX8) (v2 : BX1) (p0 : Int32) : Option (Int32) := (f_X11_isSide p0).bind (fun r_1 => if (r_1 : Int32) = 0 then (if (p0 : Int32) = (-1) then ((f_X1_sidesUnseen v2).bind (fun r_4 => some r_4)) else (some (-1))) else ((f_X1_lensesTo v2 p0).bind (fun r_5 => some r_5)))
abbrev rm_X11_covered : Room := { frames := 4, cells := 0, slots := 0, locals := 89 }
set_option maxHeartbeats 4000000 in
set_option maxRecDepth 100000 in
theorem k_X11_covered {l : Launch} {D : va_G} {cI cJ cZ cY : ClassId} {tX tY : Nat} {sz : Nat} (a0 a0_tape a0_firstTakes r0_saved r0_sight r0_flyer r0_parser a1 a1_codes r1_world r1_reads r1_flight a2 a2_lensSide a2_lensWidth a2_pairA a2_pairB a2_pairDelay : Nat) (v0 : BX11) (v1 : BX8) (v2 : BX1) (p0 : Int32) (res : Int32) (hg : f_X11_covered v0 v1 v2 p0 = some res) : Met l yX11_covered (Cond.code yX11_covered cX11_covered 2 (some .int) :: TB) rm_X11_covered (PC D cI cJ cZ cY tX tY [.ref a0, .int p0] (WS_X11_covered cI cJ cZ cY a0 a0_tape a0_firstTakes r0_saved r0_sight r0_flyer r0_parser a1 a1_codes r1_world r1_reads r1_flight a2 a2_lensSide a2_lensWidth a2_pairA a2_pairB a2_pairDelay v0 v1 v2) sz) (va_Qi (fun (r : Int32) (_ : Unit) => r = res) (BC D (fun _ : Unit => WS_X11_covered cI cJ cZ cY a0 a0_tape a0_firstTakes r0_saved r0_sight r0_flyer r0_parser a1 a1_codes r1_world r1_reads r1_flight a2 a2_lensSide a2_lensWidth a2_pairA a2_pairB a2_pairDelay v0 v1 v2) (va_A (WS_X11_covered cI cJ cZ cY a0 a0_tape a0_firstTakes r0_saved r0_sight r0_flyer r0_parser a1 a1_codes r1_world r1_reads r1_flight a2 a2_lensSide a2_lensWidth a2_pairA a2_pairB a2_pairDelay v0 v1 v2) sz)) (va_A (WS_X11_covered cI cJ cZ cY a0 a0_tape a0_firstTakes r0_saved r0_sight r0_flyer r0_parser a1 a1_codes r1_world r1_reads r1_flight a2 a2_lensSide a2_lensWidth a2_pairA a2_pairB a2_pairDelay v0 v1 v2) sz)) 0 0 (va_A (WS_X11_covered cI cJ cZ cY a0 a0_tape a0_firstTakes r0_saved r0_sight r0_flyer r0_parser a1 a1_codes r1_world r1_reads r1_flight a2 a2_lensSide a2_lensWidth a2_pairA a2_pairB a2_pairDelay v0 v1 v2) sz) := by
  refine Met.ofW (cc := cX11_covered) (maxL := 2) (ret := (some .int)) (by decide) rfl ?_
  intro p e s m args below meth c s₁ B hml hv
  obtain ⟨hargs, hsz, hP, hK, hD0, hT⟩ := hv
  have hx := B.exec
  have hb := B.bytes
  have hr := B.returns
  have htb : ∀ w ∈ TB, w.before args s = true := fun w h => atoms_spec (ws := Cond.code yX11_covered cX11_covered 2 (some .int) :: TB) B.pre w (List.mem_cons_of_mem _ h)
  have hown : s.vm.findClass "ManyEyes" = some m.cls := findClass_of_methodNamed B.named
  have hlocks := B.notSynchronized
  subst hsz
  have hD := hD0.self (sz := s.heap.size)
  generalize hAe : va_A (WS_X11_covered cI cJ cZ cY a0 a0_tape a0_firstTakes r0_saved r0_sight r0_flyer r0_parser a1 a1_codes r1_world r1_reads r1_flight a2 a2_lensSide a2_lensWidth a2_pairA a2_pairB a2_pairDelay v0 v1 v2) s.heap.size = A at hD hT ⊢
  have hA : ∀ q : Nat, s.heap.size ≤ q → A q := fun q h => by rw [← hAe]; exact Or.inr h
  have hS : va_S A s.heap s.heap [] := va_S.rf
  have hl := lv_entry ([.ref a0, .int p0]) (n := 2) (Nat.le_of_ble_eq_true rfl)
  have he : entryFrame m args 2 = F0 m 0 (lg_sl ([.ref a0, .int p0]) ++ List.replicate (2 - (lg_sl ([.ref a0, .int p0])).length) Slot.unset).toArray [] := by rw [hargs, lg_entry_eq]
  rw [he]
  generalize (lg_sl ([.ref a0, .int p0]) ++ List.replicate (2 - (lg_sl ([.ref a0, .int p0])).length) Slot.unset).toArray = ls at hl ⊢
  have hl : lv_has ls 2 [(0, .ref a0), (1, .int p0)] := hl
  show W p l e rm_X11_covered s m args below meth c s.heap [] 0 0 _ _
  refine W.genQ (fun Q hQ => ?_)
  generalize hHe : s.heap = H at hP ⊢
  have hS : va_S A s.heap H [] := by rw [← hHe]; exact va_S.rf
  generalize ([] : List Loc) = locs at hS ⊢
  unfold f_X11_covered at hg
  refine lv_iload_n hx hb dX11_covered_0 rfl (lv_at hl 1 rfl) ?_
  obtain ⟨r_1, hr_1, hg⟩ := g_bd hg
  refine cc_i (va_runS (As := [.int p0]) (rest := []) ⟨hx, hb, hml, hown, htb⟩ (k_X11_isSide p0 r_1 hr_1) (cw_S 1 htb tg_482 tg_1 tg_480 tg_481 rfl rfl (by decide +kernel) ⟨Nat.le_of_ble_eq_true rfl, Nat.le_of_ble_eq_true rfl⟩) ⟨PC.blind, PC.pre hK hT hP hD hS hA [] rfl (by decide)⟩ rfl rfl hl.1 rfl (lv_room (Nat.le_of_ble_eq_true rfl)) dX11_covered_1 ⟨Nat.le_of_ble_eq_true rfl, Nat.le_of_ble_eq_true rfl⟩) hP hD hS hA [] [0, 1, 2, 3, 4, 5, 6, 7, 8] rfl rfl (by decide) (by decide) (fun r9 u9 H locs hw hP hD hS => ?_)
  have hw := hw.symm
  subst hw
  have hP : va_P D vwCl (WS_X11_covered cI cJ cZ cY a0 a0_tape a0_firstTakes r0_saved r0_sight r0_flyer r0_parser a1 a1_codes r1_world r1_reads r1_flight a2 a2_lensSide a2_lensWidth a2_pairA a2_pairB a2_pairDelay v0 v1 v2) H := hP.sub [0, 1, 2, 3, 4, 5, 6, 7, 8] rfl
  have hD : va_D A (WS_X11_covered cI cJ cZ cY a0 a0_tape a0_firstTakes r0_saved r0_sight r0_flyer r0_parser a1 a1_codes r1_world r1_reads r1_flight a2 a2_lensSide a2_lensWidth a2_pairA a2_pairB a2_pairDelay v0 v1 v2) := hD.sub [0, 1, 2, 3, 4, 5, 6, 7, 8] (by decide) rfl
  refine lv_if_eq (tgt := 19) hx hb dX11_covered_4 (by decide) (fun c_2 => ?_) (fun c_2 => ?_)
  · have hg := g_it hg c_2
    refine lv_iload_n hx hb dX11_covered_19 rfl (lv_at hl 1 rfl) ?_
    refine lv_iconst (v := (-1)) hx hb dX11_covered_20 (by decide) ?_
    refine lv_icmp_ne (tgt := 37) hx hb dX11_covered_21 (by decide) (fun c_3 => ?_) (fun c_3 => ?_)
    · have hg := g_if hg c_3
      refine lv_iconst (v := (-1)) hx hb dX11_covered_37 (by decide) ?_
      have hg := Option.some.inj hg
      rw [hQ]
      exact W.iret (v := (-1)) hx hb hr (fun t ht hW => ⟨⟨(-1), (), rfl, hg, by rw [ht]; exact hP, hD⟩, hS.F ht⟩) hS.2.2 dX11_covered_38
    · have hg := g_it hg c_3
      refine lv_aload_n hx hb dX11_covered_24 rfl (lv_at hl 0 rfl) ?_
      refine va_get (ci := 10) (v := .ref a1) (C := RX11) (T := TX11) (N := 9) hx hb htb uX11 hown hK.1 hP 0 rfl rfl 0 (by decide) (htb _ tg_412) (fun _ h9 => h9) rfl dX11_covered_25 ?_
      refine va_get (ci := 7) (v := .ref a2) (C := RX8) (T := TX8) (N := 6) hx hb htb uX8 hown hK.1 hP 1 rfl rfl 1 (by decide) (htb _ tg_237) (fun _ h9 => h9) rfl dX11_covered_28 ?_
      obtain ⟨r_4, hr_4, hg⟩ := g_bd hg
      refine cc_i (va_runV (C := RX1) (As := []) (rest := []) ⟨hx, hb, hml, hown, htb⟩ (k_X1_sidesUnseen a2 a2_lensSide a2_lensWidth a2_pairA a2_pairB a2_pairDelay v2 r_4 hr_4) (cw_V 0 htb tg_555 tg_5 tg_552 tg_553 tg_554 rfl rfl (by decide +kernel) ⟨Nat.le_of_ble_eq_true rfl, Nat.le_of_ble_eq_true rfl⟩) ⟨PC.blind, va_recv hK.1 hP (ci := 0) (q0 := 3) rfl rfl, PC.pre hK hT hP hD hS hA [3, 4, 5, 6, 7, 8] rfl (by decide)⟩ rfl rfl hl.1 rfl (lv_room (Nat.le_of_ble_eq_true rfl)) dX11_covered_31 ⟨Nat.le_of_ble_eq_true rfl, Nat.le_of_ble_eq_true rfl⟩) hP hD hS hA [3, 4, 5, 6, 7, 8] [0, 1, 2] rfl rfl (by decide) (by decide) (fun r9 u9 H locs hw hP hD hS => ?_)
      have hw := hw.symm
      subst hw
      have hP : va_P D vwCl (WS_X11_covered cI cJ cZ cY a0 a0_tape a0_firstTakes r0_saved r0_sight r0_flyer r0_parser a1 a1_codes r1_world r1_reads r1_flight a2 a2_lensSide a2_lensWidth a2_pairA a2_pairB a2_pairDelay v0 v1 v2) H := hP.sub [0, 1, 2, 3, 4, 5, 6, 7, 8] rfl
      have hD : va_D A (WS_X11_covered cI cJ cZ cY a0 a0_tape a0_firstTakes r0_saved r0_sight r0_flyer r0_parser a1 a1_codes r1_world r1_reads r1_flight a2 a2_lensSide a2_lensWidth a2_pairA a2_pairB a2_pairDelay v0 v1 v2) := hD.sub [0, 1, 2, 3, 4, 5, 6, 7, 8] (by decide) rfl
      refine lv_goto (tgt := 38) hx hb dX11_covered_34 (by decide) ?_
      have hg := Option.some.inj hg
      rw [hQ]
      exact W.iret (v := r_4) hx hb hr (fun t ht hW => ⟨⟨r_4, (), rfl, hg, by rw [ht]; exact hP, hD⟩, hS.F ht⟩) hS.2.2 dX11_covered_38
  · have hg := g_if hg c_2
    refine lv_aload_n hx hb dX11_covered_7 rfl (lv_at hl 0 rfl) ?_
    refine va_get (ci := 10) (v := .ref a1) (C := RX11) (T := TX11) (N := 9) hx hb htb uX11 hown hK.1 hP 0 rfl rfl 0 (by decide) (htb _ tg_412) (fun _ h9 => h9) rfl dX11_covered_8 ?_
    refine va_get (ci := 7) (v := .ref a2) (C := RX8) (T := TX8) (N := 6) hx hb htb uX8 hown hK.1 hP 1 rfl rfl 1 (by decide) (htb _ tg_237) (fun _ h9 => h9) rfl dX11_covered_11 ?_
    refine lv_iload_n hx hb dX11_covered_14 rfl (lv_at hl 1 rfl) ?_
    obtain ⟨r_5, hr_5, hg⟩ := g_bd hg
    refine cc_i (va_runV (C := RX1) (As := [.int p0]) (rest := []) ⟨hx, hb, hml, hown, htb⟩ (k_X1_lensesTo a2 a2_lensSide a2_lensWidth a2_pairA a2_pairB a2_pairDelay v2 p0 r_5 hr_5) (cw_V 1 htb tg_545 tg_5 tg_542 tg_543 tg_544 rfl rfl (by decide +kernel) ⟨Nat.le_of_ble_eq_true rfl, Nat.le_of_ble_eq_true rfl⟩) ⟨PC.blind, va_recv hK.1 hP (ci := 0) (q0 := 3) rfl rfl, PC.pre hK hT hP hD hS hA [3, 4, 5, 6, 7, 8] rfl (by decide)⟩ rfl rfl hl.1 rfl (lv_room (Nat.le_of_ble_eq_true rfl)) dX11_covered_15 ⟨Nat.le_of_ble_eq_true rfl, Nat.le_of_ble_eq_true rfl⟩) hP hD hS hA [3, 4, 5, 6, 7, 8] [0, 1, 2] rfl rfl (by decide) (by decide) (fun r9 u9 H locs hw hP hD hS => ?_)
    have hw := hw.symm
    subst hw
    have hP : va_P D vwCl (WS_X11_covered cI cJ cZ cY a0 a0_tape a0_firstTakes r0_saved r0_sight r0_flyer r0_parser a1 a1_codes r1_world r1_reads r1_flight a2 a2_lensSide a2_lensWidth a2_pairA a2_pairB a2_pairDelay v0 v1 v2) H := hP.sub [0, 1, 2, 3, 4, 5, 6, 7, 8] rfl
    have hD : va_D A (WS_X11_covered cI cJ cZ cY a0 a0_tape a0_firstTakes r0_saved r0_sight r0_flyer r0_parser a1 a1_codes r1_world r1_reads r1_flight a2 a2_lensSide a2_lensWidth a2_pairA a2_pairB a2_pairDelay v0 v1 v2) := hD.sub [0, 1, 2, 3, 4, 5, 6, 7, 8] (by decide) rfl
    have hg := Option.some.inj hg
    rw [hQ]
    exact W.iret (v := r_5) hx hb hr (fun t ht hW => ⟨⟨r_5, (), rfl, hg, by rw [ht]; exact hP, hD⟩, hS.F ht⟩) hS.2.2 dX11_covered_18

/-! ManyEyes.feed(IIIII)I -/
def WS_X11_feed (cI cJ cZ cY : ClassId) (a0 a0_tape a0_firstTakes r0_now r0_saved r0_sight r0_flyer r0_parser : Nat) (v0 : BX11) : va_W := (GX11 cI cJ cZ cY a0 a0_tape a0_firstTakes r0_now r0_saved r0_sight r0_flyer r0_parser v0)
def f_X11_feed (v0 : BX11) (p0 : Int32) (p1 : Int32) (p2 : Int32) (p3 : Int32) (p4 : Int32) : Option (Int32 × BX11) := if ((pX11_tapeSize v0) : Int32) ≤ 280 then ((f_X11_putBytes v0 p0).bind (fun r_2 => (f_X11_putBytes r_2 p1).bind (fun r_3 => (f_X11_putBytes r_3 p2).bind (fun r_4 => (f_X11_putBytes r_4 p3).bind (fun r_5 => (f_X11_putBytes r_5 p4).bind (fun r_6 => some ((pX11_tapeSize r_6), r_6))))))) else (some ((-1), v0))
abbrev rm_X11_feed : Room := { frames := 1, cells := 0, slots := 0, locals := 22 }
set_option maxHeartbeats 4000000 in
set_option maxRecDepth 100000 in
theorem k_X11_feed {l : Launch} {D : va_G} {cI cJ cZ cY : ClassId} {tX tY : Nat} {sz : Nat} (a0 a0_tape a0_firstTakes r0_now r0_saved r0_sight r0_flyer r0_parser : Nat) (v0 : BX11) (p0 : Int32) (p1 : Int32) (p2 : Int32) (p3 : Int32) (p4 : Int32) (res : Int32 × BX11) (hg : f_X11_feed v0 p0 p1 p2 p3 p4 = some res) : Met l yX11_feed (Cond.code yX11_feed cX11_feed 6 (some .int) :: TB) rm_X11_feed (PC D cI cJ cZ cY tX tY [.ref a0, .int p0, .int p1, .int p2, .int p3, .int p4] (WS_X11_feed cI cJ cZ cY a0 a0_tape a0_firstTakes r0_now r0_saved r0_sight r0_flyer r0_parser v0) sz) (va_Qi (fun (r : Int32) (u : BX11) => r = res.1 ∧ u = res.2) (BC D (fun u : BX11 => WS_X11_feed cI cJ cZ cY a0 a0_tape a0_firstTakes r0_now r0_saved r0_sight r0_flyer r0_parser u) (va_A (WS_X11_feed cI cJ cZ cY a0 a0_tape a0_firstTakes r0_now r0_saved r0_sight r0_flyer r0_parser v0) sz)) (va_A (WS_X11_feed cI cJ cZ cY a0 a0_tape a0_firstTakes r0_now r0_saved r0_sight r0_flyer r0_parser v0) sz)) 0 0 (va_A (WS_X11_feed cI cJ cZ cY a0 a0_tape a0_firstTakes r0_now r0_saved r0_sight r0_flyer r0_parser v0) sz) := by
  refine Met.ofW (cc := cX11_feed) (maxL := 6) (ret := (some .int)) (by decide) rfl ?_
  intro p e s m args below meth c s₁ B hml hv
  obtain ⟨hargs, hsz, hP, hK, hD0, hT⟩ := hv
  have hx := B.exec
  have hb := B.bytes
  have hr := B.returns
  have htb : ∀ w ∈ TB, w.before args s = true := fun w h => atoms_spec (ws := Cond.code yX11_feed cX11_feed 6 (some .int) :: TB) B.pre w (List.mem_cons_of_mem _ h)
  have hown : s.vm.findClass "ManyEyes" = some m.cls := findClass_of_methodNamed B.named
  have hlocks := B.notSynchronized
  subst hsz
  have hD := hD0.self (sz := s.heap.size)
  generalize hAe : va_A (WS_X11_feed cI cJ cZ cY a0 a0_tape a0_firstTakes r0_now r0_saved r0_sight r0_flyer r0_parser v0) s.heap.size = A at hD hT ⊢
  have hA : ∀ q : Nat, s.heap.size ≤ q → A q := fun q h => by rw [← hAe]; exact Or.inr h
  have hS : va_S A s.heap s.heap [] := va_S.rf
  have hl := lv_entry ([.ref a0, .int p0, .int p1, .int p2, .int p3, .int p4]) (n := 6) (Nat.le_of_ble_eq_true rfl)
  have he : entryFrame m args 6 = F0 m 0 (lg_sl ([.ref a0, .int p0, .int p1, .int p2, .int p3, .int p4]) ++ List.replicate (6 - (lg_sl ([.ref a0, .int p0, .int p1, .int p2, .int p3, .int p4])).length) Slot.unset).toArray [] := by rw [hargs, lg_entry_eq]
  rw [he]
  generalize (lg_sl ([.ref a0, .int p0, .int p1, .int p2, .int p3, .int p4]) ++ List.replicate (6 - (lg_sl ([.ref a0, .int p0, .int p1, .int p2, .int p3, .int p4])).length) Slot.unset).toArray = ls at hl ⊢
  have hl : lv_has ls 6 [(0, .ref a0), (1, .int p0), (2, .int p1), (3, .int p2), (4, .int p3), (5, .int p4)] := hl
  show W p l e rm_X11_feed s m args below meth c s.heap [] 0 0 _ _
  refine W.genQ (fun Q hQ => ?_)
  generalize hHe : s.heap = H at hP ⊢
  have hS : va_S A s.heap H [] := by rw [← hHe]; exact va_S.rf
  generalize ([] : List Loc) = locs at hS ⊢
  unfold f_X11_feed at hg
  refine lv_aload_n hx hb dX11_feed_0 rfl (lv_at hl 0 rfl) ?_
  refine va_get (ci := 10) (v := .int (pX11_tapeSize v0)) (C := RX11) (T := TX11) (N := 9) hx hb htb uX11 hown hK.1 hP 0 rfl rfl 7 (by decide) (htb _ tg_419) (fun _ h9 => h9) rfl dX11_feed_1 ?_
  refine lv_sipush (v := 280) hx hb dX11_feed_4 (by decide) ?_
  refine lv_icmp_le (tgt := 12) hx hb dX11_feed_7 (by decide) (fun c_1 => ?_) (fun c_1 => ?_)
  · have hg := g_it hg c_1
    refine lv_aload_n hx hb dX11_feed_12 rfl (lv_at hl 0 rfl) ?_
    refine lv_iload_n hx hb dX11_feed_13 rfl (lv_at hl 1 rfl) ?_
    obtain ⟨r_2, hr_2, hg⟩ := g_bd hg
    refine cc_v (va_runV (C := RX11) (As := [.int p0]) (rest := []) ⟨hx, hb, hml, hown, htb⟩ (k_X11_putBytes a0 a0_tape a0_firstTakes r0_now r0_saved r0_sight r0_flyer r0_parser v0 p0 r_2 hr_2) (cw_V 1 htb tg_599 tg_1 tg_596 tg_598 ts_3 rfl rfl (by decide +kernel) ⟨Nat.le_of_ble_eq_true rfl, Nat.le_of_ble_eq_true rfl⟩) ⟨PC.blind, va_recv hK.1 hP (ci := 10) (q0 := 0) rfl rfl, PC.pre hK hT hP hD hS hA [0, 1, 2] rfl (by decide)⟩ rfl rfl hl.1 rfl (lv_room (Nat.le_of_ble_eq_true rfl)) dX11_feed_14 ⟨Nat.le_of_ble_eq_true rfl, Nat.le_of_ble_eq_true rfl⟩) hP hD hS hA [0, 1, 2] [] rfl rfl (by decide) (by decide) (fun u9 H locs hw hP hD hS => ?_)
    have hw := hw.symm
    subst hw
    have hP : va_P D vwCl (WS_X11_feed cI cJ cZ cY a0 a0_tape a0_firstTakes r0_now r0_saved r0_sight r0_flyer r0_parser r_2) H := hP.sub [0, 1, 2] rfl
    have hD : va_D A (WS_X11_feed cI cJ cZ cY a0 a0_tape a0_firstTakes r0_now r0_saved r0_sight r0_flyer r0_parser r_2) := hD.sub [0, 1, 2] (by decide) rfl
    refine lv_aload_n hx hb dX11_feed_17 rfl (lv_at hl 0 rfl) ?_
    refine lv_iload_n hx hb dX11_feed_18 rfl (lv_at hl 2 rfl) ?_
    obtain ⟨r_3, hr_3, hg⟩ := g_bd hg
    refine cc_v (va_runV (C := RX11) (As := [.int p1]) (rest := []) ⟨hx, hb, hml, hown, htb⟩ (k_X11_putBytes a0 a0_tape a0_firstTakes r0_now r0_saved r0_sight r0_flyer r0_parser r_2 p1 r_3 hr_3) (cw_V 1 htb tg_599 tg_1 tg_596 tg_598 ts_3 rfl rfl (by decide +kernel) ⟨Nat.le_of_ble_eq_true rfl, Nat.le_of_ble_eq_true rfl⟩) ⟨PC.blind, va_recv hK.1 hP (ci := 10) (q0 := 0) rfl rfl, PC.pre hK hT hP hD hS hA [0, 1, 2] rfl (by decide)⟩ rfl rfl hl.1 rfl (lv_room (Nat.le_of_ble_eq_true rfl)) dX11_feed_19 ⟨Nat.le_of_ble_eq_true rfl, Nat.le_of_ble_eq_true rfl⟩) hP hD hS hA [0, 1, 2] [] rfl rfl (by decide) (by decide) (fun u9 H locs hw hP hD hS => ?_)
    have hw := hw.symm
    subst hw
    have hP : va_P D vwCl (WS_X11_feed cI cJ cZ cY a0 a0_tape a0_firstTakes r0_now r0_saved r0_sight r0_flyer r0_parser r_3) H := hP.sub [0, 1, 2] rfl
    have hD : va_D A (WS_X11_feed cI cJ cZ cY a0 a0_tape a0_firstTakes r0_now r0_saved r0_sight r0_flyer r0_parser r_3) := hD.sub [0, 1, 2] (by decide) rfl
    refine lv_aload_n hx hb dX11_feed_22 rfl (lv_at hl 0 rfl) ?_
    refine lv_iload_n hx hb dX11_feed_23 rfl (lv_at hl 3 rfl) ?_
    obtain ⟨r_4, hr_4, hg⟩ := g_bd hg
    refine cc_v (va_runV (C := RX11) (As := [.int p2]) (rest := []) ⟨hx, hb, hml, hown, htb⟩ (k_X11_putBytes a0 a0_tape a0_firstTakes r0_now r0_saved r0_sight r0_flyer r0_parser r_3 p2 r_4 hr_4) (cw_V 1 htb tg_599 tg_1 tg_596 tg_598 ts_3 rfl rfl (by decide +kernel) ⟨Nat.le_of_ble_eq_true rfl, Nat.le_of_ble_eq_true rfl⟩) ⟨PC.blind, va_recv hK.1 hP (ci := 10) (q0 := 0) rfl rfl, PC.pre hK hT hP hD hS hA [0, 1, 2] rfl (by decide)⟩ rfl rfl hl.1 rfl (lv_room (Nat.le_of_ble_eq_true rfl)) dX11_feed_24 ⟨Nat.le_of_ble_eq_true rfl, Nat.le_of_ble_eq_true rfl⟩) hP hD hS hA [0, 1, 2] [] rfl rfl (by decide) (by decide) (fun u9 H locs hw hP hD hS => ?_)
    have hw := hw.symm
    subst hw
    have hP : va_P D vwCl (WS_X11_feed cI cJ cZ cY a0 a0_tape a0_firstTakes r0_now r0_saved r0_sight r0_flyer r0_parser r_4) H := hP.sub [0, 1, 2] rfl
    have hD : va_D A (WS_X11_feed cI cJ cZ cY a0 a0_tape a0_firstTakes r0_now r0_saved r0_sight r0_flyer r0_parser r_4) := hD.sub [0, 1, 2] (by decide) rfl
    refine lv_aload_n hx hb dX11_feed_27 rfl (lv_at hl 0 rfl) ?_
    refine lv_iload hx hb dX11_feed_28 (lv_at hl 4 rfl) ?_
    obtain ⟨r_5, hr_5, hg⟩ := g_bd hg
    refine cc_v (va_runV (C := RX11) (As := [.int p3]) (rest := []) ⟨hx, hb, hml, hown, htb⟩ (k_X11_putBytes a0 a0_tape a0_firstTakes r0_now r0_saved r0_sight r0_flyer r0_parser r_4 p3 r_5 hr_5) (cw_V 1 htb tg_599 tg_1 tg_596 tg_598 ts_3 rfl rfl (by decide +kernel) ⟨Nat.le_of_ble_eq_true rfl, Nat.le_of_ble_eq_true rfl⟩) ⟨PC.blind, va_recv hK.1 hP (ci := 10) (q0 := 0) rfl rfl, PC.pre hK hT hP hD hS hA [0, 1, 2] rfl (by decide)⟩ rfl rfl hl.1 rfl (lv_room (Nat.le_of_ble_eq_true rfl)) dX11_feed_30 ⟨Nat.le_of_ble_eq_true rfl, Nat.le_of_ble_eq_true rfl⟩) hP hD hS hA [0, 1, 2] [] rfl rfl (by decide) (by decide) (fun u9 H locs hw hP hD hS => ?_)
    have hw := hw.symm
    subst hw
    have hP : va_P D vwCl (WS_X11_feed cI cJ cZ cY a0 a0_tape a0_firstTakes r0_now r0_saved r0_sight r0_flyer r0_parser r_5) H := hP.sub [0, 1, 2] rfl
    have hD : va_D A (WS_X11_feed cI cJ cZ cY a0 a0_tape a0_firstTakes r0_now r0_saved r0_sight r0_flyer r0_parser r_5) := hD.sub [0, 1, 2] (by decide) rfl
    refine lv_aload_n hx hb dX11_feed_33 rfl (lv_at hl 0 rfl) ?_
    refine lv_iload hx hb dX11_feed_34 (lv_at hl 5 rfl) ?_
    obtain ⟨r_6, hr_6, hg⟩ := g_bd hg
    refine cc_v (va_runV (C := RX11) (As := [.int p4]) (rest := []) ⟨hx, hb, hml, hown, htb⟩ (k_X11_putBytes a0 a0_tape a0_firstTakes r0_now r0_saved r0_sight r0_flyer r0_parser r_5 p4 r_6 hr_6) (cw_V 1 htb tg_599 tg_1 tg_596 tg_598 ts_3 rfl rfl (by decide +kernel) ⟨Nat.le_of_ble_eq_true rfl, Nat.le_of_ble_eq_true rfl⟩) ⟨PC.blind, va_recv hK.1 hP (ci := 10) (q0 := 0) rfl rfl, PC.pre hK hT hP hD hS hA [0, 1, 2] rfl (by decide)⟩ rfl rfl hl.1 rfl (lv_room (Nat.le_of_ble_eq_true rfl)) dX11_feed_36 ⟨Nat.le_of_ble_eq_true rfl, Nat.le_of_ble_eq_true rfl⟩) hP hD hS hA [0, 1, 2] [] rfl rfl (by decide) (by decide) (fun u9 H locs hw hP hD hS => ?_)
    have hw := hw.symm
    subst hw
    have hP : va_P D vwCl (WS_X11_feed cI cJ cZ cY a0 a0_tape a0_firstTakes r0_now r0_saved r0_sight r0_flyer r0_parser r_6) H := hP.sub [0, 1, 2] rfl
    have hD : va_D A (WS_X11_feed cI cJ cZ cY a0 a0_tape a0_firstTakes r0_now r0_saved r0_sight r0_flyer r0_parser r_6) := hD.sub [0, 1, 2] (by decide) rfl
    refine lv_aload_n hx hb dX11_feed_39 rfl (lv_at hl 0 rfl) ?_
    refine va_get (ci := 10) (v := .int (pX11_tapeSize r_6)) (C := RX11) (T := TX11) (N := 9) hx hb htb uX11 hown hK.1 hP 0 rfl rfl 7 (by decide) (htb _ tg_419) (fun _ h9 => h9) rfl dX11_feed_40 ?_
    have hg := Option.some.inj hg
    rw [hQ]
    exact W.iret (v := (pX11_tapeSize r_6)) hx hb hr (fun t ht hW => ⟨⟨(pX11_tapeSize r_6), (r_6), rfl, ⟨by rw [← hg], by rw [← hg]⟩, by rw [ht]; exact hP, hD⟩, hS.F ht⟩) hS.2.2 dX11_feed_43
  · have hg := g_if hg c_1
    refine lv_iconst (v := (-1)) hx hb dX11_feed_10 (by decide) ?_
    have hg := Option.some.inj hg
    rw [hQ]
    exact W.iret (v := (-1)) hx hb hr (fun t ht hW => ⟨⟨(-1), (v0), rfl, ⟨by rw [← hg], by rw [← hg]⟩, by rw [ht]; exact hP, hD⟩, hS.F ht⟩) hS.2.2 dX11_feed_11

/-! ManyEyes.end(I)I -/
def WS_X11_end (cI cJ cZ cY : ClassId) (a0 a0_tape a0_firstTakes r0_now r0_saved r0_sight r0_flyer r0_parser : Nat) (v0 : BX11) : va_W := (GX11 cI cJ cZ cY a0 a0_tape a0_firstTakes r0_now r0_saved r0_sight r0_flyer r0_parser v0)
def f_X11_end (v0 : BX11) (p0 : Int32) : Option (Int32 × BX11) := (f_X11_isWithin p0 0 (pX11_tapeSize v0)).bind (fun r_1 => if (r_1 : Int32) = 0 then (some ((-1), v0)) else (g_lt (sX11_tapeSize v0 p0) (fun v0_3 => some (p0, v0_3))))
abbrev rm_X11_end : Room := { frames := 1, cells := 0, slots := 0, locals := 22 }
set_option maxHeartbeats 4000000 in
set_option maxRecDepth 100000 in
theorem k_X11_end {l : Launch} {D : va_G} {cI cJ cZ cY : ClassId} {tX tY : Nat} {sz : Nat} (a0 a0_tape a0_firstTakes r0_now r0_saved r0_sight r0_flyer r0_parser : Nat) (v0 : BX11) (p0 : Int32) (res : Int32 × BX11) (hg : f_X11_end v0 p0 = some res) : Met l yX11_end (Cond.code yX11_end cX11_end 2 (some .int) :: TB) rm_X11_end (PC D cI cJ cZ cY tX tY [.ref a0, .int p0] (WS_X11_end cI cJ cZ cY a0 a0_tape a0_firstTakes r0_now r0_saved r0_sight r0_flyer r0_parser v0) sz) (va_Qi (fun (r : Int32) (u : BX11) => r = res.1 ∧ u = res.2) (BC D (fun u : BX11 => WS_X11_end cI cJ cZ cY a0 a0_tape a0_firstTakes r0_now r0_saved r0_sight r0_flyer r0_parser u) (va_A (WS_X11_end cI cJ cZ cY a0 a0_tape a0_firstTakes r0_now r0_saved r0_sight r0_flyer r0_parser v0) sz)) (va_A (WS_X11_end cI cJ cZ cY a0 a0_tape a0_firstTakes r0_now r0_saved r0_sight r0_flyer r0_parser v0) sz)) 0 0 (va_A (WS_X11_end cI cJ cZ cY a0 a0_tape a0_firstTakes r0_now r0_saved r0_sight r0_flyer r0_parser v0) sz) := by
  refine Met.ofW (cc := cX11_end) (maxL := 2) (ret := (some .int)) (by decide) rfl ?_
  intro p e s m args below meth c s₁ B hml hv
  obtain ⟨hargs, hsz, hP, hK, hD0, hT⟩ := hv
  have hx := B.exec
  have hb := B.bytes
  have hr := B.returns
  have htb : ∀ w ∈ TB, w.before args s = true := fun w h => atoms_spec (ws := Cond.code yX11_end cX11_end 2 (some .int) :: TB) B.pre w (List.mem_cons_of_mem _ h)
  have hown : s.vm.findClass "ManyEyes" = some m.cls := findClass_of_methodNamed B.named
  have hlocks := B.notSynchronized
  subst hsz
  have hD := hD0.self (sz := s.heap.size)
  generalize hAe : va_A (WS_X11_end cI cJ cZ cY a0 a0_tape a0_firstTakes r0_now r0_saved r0_sight r0_flyer r0_parser v0) s.heap.size = A at hD hT ⊢
  have hA : ∀ q : Nat, s.heap.size ≤ q → A q := fun q h => by rw [← hAe]; exact Or.inr h
  have hS : va_S A s.heap s.heap [] := va_S.rf
  have hl := lv_entry ([.ref a0, .int p0]) (n := 2) (Nat.le_of_ble_eq_true rfl)
  have he : entryFrame m args 2 = F0 m 0 (lg_sl ([.ref a0, .int p0]) ++ List.replicate (2 - (lg_sl ([.ref a0, .int p0])).length) Slot.unset).toArray [] := by rw [hargs, lg_entry_eq]
  rw [he]
  generalize (lg_sl ([.ref a0, .int p0]) ++ List.replicate (2 - (lg_sl ([.ref a0, .int p0])).length) Slot.unset).toArray = ls at hl ⊢
  have hl : lv_has ls 2 [(0, .ref a0), (1, .int p0)] := hl
  show W p l e rm_X11_end s m args below meth c s.heap [] 0 0 _ _
  refine W.genQ (fun Q hQ => ?_)
  generalize hHe : s.heap = H at hP ⊢
  have hS : va_S A s.heap H [] := by rw [← hHe]; exact va_S.rf
  generalize ([] : List Loc) = locs at hS ⊢
  unfold f_X11_end at hg
  refine lv_iload_n hx hb dX11_end_0 rfl (lv_at hl 1 rfl) ?_
  refine lv_iconst (v := 0) hx hb dX11_end_1 (by decide) ?_
  refine lv_aload_n hx hb dX11_end_2 rfl (lv_at hl 0 rfl) ?_
  refine va_get (ci := 10) (v := .int (pX11_tapeSize v0)) (C := RX11) (T := TX11) (N := 9) hx hb htb uX11 hown hK.1 hP 0 rfl rfl 7 (by decide) (htb _ tg_419) (fun _ h9 => h9) rfl dX11_end_3 ?_
  obtain ⟨r_1, hr_1, hg⟩ := g_bd hg
  refine cc_i (va_runS (As := [.int p0, .int 0, .int (pX11_tapeSize v0)]) (rest := []) ⟨hx, hb, hml, hown, htb⟩ (k_X11_isWithin p0 0 (pX11_tapeSize v0) r_1 hr_1) (cw_S 3 htb tg_450 tg_1 tg_451 tg_449 rfl rfl (by decide +kernel) ⟨Nat.le_of_ble_eq_true rfl, Nat.le_of_ble_eq_true rfl⟩) ⟨PC.blind, PC.pre hK hT hP hD hS hA [] rfl (by decide)⟩ rfl rfl hl.1 rfl (lv_room (Nat.le_of_ble_eq_true rfl)) dX11_end_6 ⟨Nat.le_of_ble_eq_true rfl, Nat.le_of_ble_eq_true rfl⟩) hP hD hS hA [] [0, 1, 2] rfl rfl (by decide) (by decide) (fun r9 u9 H locs hw hP hD hS => ?_)
  have hw := hw.symm
  subst hw
  have hP : va_P D vwCl (WS_X11_end cI cJ cZ cY a0 a0_tape a0_firstTakes r0_now r0_saved r0_sight r0_flyer r0_parser v0) H := hP.sub [0, 1, 2] rfl
  have hD : va_D A (WS_X11_end cI cJ cZ cY a0 a0_tape a0_firstTakes r0_now r0_saved r0_sight r0_flyer r0_parser v0) := hD.sub [0, 1, 2] (by decide) rfl
  refine lv_if_ne (tgt := 14) hx hb dX11_end_9 (by decide) (fun c_2 => ?_) (fun c_2 => ?_)
  · have hg := g_if hg c_2
    refine lv_aload_n hx hb dX11_end_14 rfl (lv_at hl 0 rfl) ?_
    refine lv_iload_n hx hb dX11_end_15 rfl (lv_at hl 1 rfl) ?_
    refine va_put (ci := 10) (v := .int p0) (ty := .int) (C := RX11) (T := TX11) (N := 9) hx hb htb uX11 tyX11 tyX11_ok nmX11 hown hK.1 hP hD hS 0 rfl rfl 7 (by decide) (htb _ tg_419) (fun _ h9 => h9) rfl (by decide +kernel) rfl rfl (Nat.le_of_ble_eq_true rfl) dX11_end_16 (fun H locs hP hD hS => ?_)
    obtain ⟨v0_3, ev0_3⟩ : ∃ z, z = sX11_tapeSize v0 p0 := ⟨_, rfl⟩
    have hP : va_P D vwCl (WS_X11_end cI cJ cZ cY a0 a0_tape a0_firstTakes r0_now r0_saved r0_sight r0_flyer r0_parser v0_3) H := by rw [ev0_3]; exact hP
    have hD : va_D A (WS_X11_end cI cJ cZ cY a0 a0_tape a0_firstTakes r0_now r0_saved r0_sight r0_flyer r0_parser v0_3) := by rw [ev0_3]; exact hD
    have hg := g_lte hg v0_3 ev0_3
    refine lv_iload_n hx hb dX11_end_19 rfl (lv_at hl 1 rfl) ?_
    have hg := Option.some.inj hg
    rw [hQ]
    exact W.iret (v := p0) hx hb hr (fun t ht hW => ⟨⟨p0, (v0_3), rfl, ⟨by rw [← hg], by rw [← hg]⟩, by rw [ht]; exact hP, hD⟩, hS.F ht⟩) hS.2.2 dX11_end_20
  · have hg := g_it hg c_2
    refine lv_iconst (v := (-1)) hx hb dX11_end_12 (by decide) ?_
    have hg := Option.some.inj hg
    rw [hQ]
    exact W.iret (v := (-1)) hx hb hr (fun t ht hW => ⟨⟨(-1), (v0), rfl, ⟨by rw [← hg], by rw [← hg]⟩, by rw [ht]; exact hP, hD⟩, hS.F ht⟩) hS.2.2 dX11_end_13

/-! ManyEyes.turned(II)I -/
def WS_X11_turned (cI cJ cZ cY : ClassId) (a0 a0_tape a0_firstTakes r0_saved r0_sight r0_flyer r0_parser a1 a1_codes r1_world r1_eye r1_flight a2 a2_x a2_y a2_head a2_size a2_turns : Nat) (v0 : BX11) (v1 : BX8) (v2 : BX5) : va_W := (GX11o cI cJ cZ cY a0 a0_tape a0_firstTakes a1 r0_saved r0_sight r0_flyer r0_parser v0) ++ ((GX8 cI cJ cZ cY a1 a1_codes r1_world r1_eye a2 r1_flight v1) ++ ((GX5 cI cJ cZ cY a2 a2_x a2_y a2_head a2_size a2_turns v2)))
def f_X11_turned (v0 : BX11) (v1 : BX8) (v2 : BX5) (p0 : Int32) (p1 : Int32) : Option (Int32 × BX5) := (f_X11_isWithin p0 0 ((pX5_count v2) - 1)).bind (fun r_1 => if (r_1 : Int32) = 0 then (some ((-1), v2)) else ((f_X11_isWithin p1 (-8) 8).bind (fun r_3 => if (r_3 : Int32) = 0 then (some ((-1), v2)) else (g_gd (inB p0 6) (g_lt (((pX5_size v2) (p0 : Int32).toNatClampNeg) : Int32) (fun x4_6 => if (x4_6 : Int32) < 20 then (g_gd (inB ((p0 * 20) + x4_6) 120) (g_lt (sX5_turns v2 (upd (pX5_turns v2) (((p0 * 20) + x4_6) : Int32).toNatClampNeg p1)) (fun v2_9 => g_lt ((x4_6 + 1) : Int32) (fun x_10 => g_gd (inB p0 6) (g_lt (sX5_size v2_9 (upd (pX5_size v2_9) (p0 : Int32).toNatClampNeg x_10)) (fun v2_12 => some ((x4_6 + 1), v2_12))))))) else (some ((-1), v2))))))))
abbrev rm_X11_turned : Room := { frames := 1, cells := 0, slots := 0, locals := 22 }
set_option maxHeartbeats 4000000 in
set_option maxRecDepth 100000 in
theorem k_X11_turned {l : Launch} {D : va_G} {cI cJ cZ cY : ClassId} {tX tY : Nat} {sz : Nat} (a0 a0_tape a0_firstTakes r0_saved r0_sight r0_flyer r0_parser a1 a1_codes r1_world r1_eye r1_flight a2 a2_x a2_y a2_head a2_size a2_turns : Nat) (v0 : BX11) (v1 : BX8) (v2 : BX5) (p0 : Int32) (p1 : Int32) (res : Int32 × BX5) (hg : f_X11_turned v0 v1 v2 p0 p1 = some res) : Met l yX11_turned (Cond.code yX11_turned cX11_turned 5 (some .int) :: TB) rm_X11_turned (PC D cI cJ cZ cY tX tY [.ref a0, .int p0, .int p1] (WS_X11_turned cI cJ cZ cY a0 a0_tape a0_firstTakes r0_saved r0_sight r0_flyer r0_parser a1 a1_codes r1_world r1_eye r1_flight a2 a2_x a2_y a2_head a2_size a2_turns v0 v1 v2) sz) (va_Qi (fun (r : Int32) (u : BX5) => r = res.1 ∧ u = res.2) (BC D (fun u : BX5 => WS_X11_turned cI cJ cZ cY a0 a0_tape a0_firstTakes r0_saved r0_sight r0_flyer r0_parser a1 a1_codes r1_world r1_eye r1_flight a2 a2_x a2_y a2_head a2_size a2_turns v0 v1 u) (va_A (WS_X11_turned cI cJ cZ cY a0 a0_tape a0_firstTakes r0_saved r0_sight r0_flyer r0_parser a1 a1_codes r1_world r1_eye r1_flight a2 a2_x a2_y a2_head a2_size a2_turns v0 v1 v2) sz)) (va_A (WS_X11_turned cI cJ cZ cY a0 a0_tape a0_firstTakes r0_saved r0_sight r0_flyer r0_parser a1 a1_codes r1_world r1_eye r1_flight a2 a2_x a2_y a2_head a2_size a2_turns v0 v1 v2) sz)) 0 0 (va_A (WS_X11_turned cI cJ cZ cY a0 a0_tape a0_firstTakes r0_saved r0_sight r0_flyer r0_parser a1 a1_codes r1_world r1_eye r1_flight a2 a2_x a2_y a2_head a2_size a2_turns v0 v1 v2) sz) := by
  refine Met.ofW (cc := cX11_turned) (maxL := 5) (ret := (some .int)) (by decide) rfl ?_
  intro p e s m args below meth c s₁ B hml hv
  obtain ⟨hargs, hsz, hP, hK, hD0, hT⟩ := hv
  have hx := B.exec
  have hb := B.bytes
  have hr := B.returns
  have htb : ∀ w ∈ TB, w.before args s = true := fun w h => atoms_spec (ws := Cond.code yX11_turned cX11_turned 5 (some .int) :: TB) B.pre w (List.mem_cons_of_mem _ h)
  have hown : s.vm.findClass "ManyEyes" = some m.cls := findClass_of_methodNamed B.named
  have hlocks := B.notSynchronized
  subst hsz
  have hD := hD0.self (sz := s.heap.size)
  generalize hAe : va_A (WS_X11_turned cI cJ cZ cY a0 a0_tape a0_firstTakes r0_saved r0_sight r0_flyer r0_parser a1 a1_codes r1_world r1_eye r1_flight a2 a2_x a2_y a2_head a2_size a2_turns v0 v1 v2) s.heap.size = A at hD hT ⊢
  have hA : ∀ q : Nat, s.heap.size ≤ q → A q := fun q h => by rw [← hAe]; exact Or.inr h
  have hS : va_S A s.heap s.heap [] := va_S.rf
  have hl := lv_entry ([.ref a0, .int p0, .int p1]) (n := 5) (Nat.le_of_ble_eq_true rfl)
  have he : entryFrame m args 5 = F0 m 0 (lg_sl ([.ref a0, .int p0, .int p1]) ++ List.replicate (5 - (lg_sl ([.ref a0, .int p0, .int p1])).length) Slot.unset).toArray [] := by rw [hargs, lg_entry_eq]
  rw [he]
  generalize (lg_sl ([.ref a0, .int p0, .int p1]) ++ List.replicate (5 - (lg_sl ([.ref a0, .int p0, .int p1])).length) Slot.unset).toArray = ls at hl ⊢
  have hl : lv_has ls 5 [(0, .ref a0), (1, .int p0), (2, .int p1)] := hl
  show W p l e rm_X11_turned s m args below meth c s.heap [] 0 0 _ _
  refine W.genQ (fun Q hQ => ?_)
  generalize hHe : s.heap = H at hP ⊢
  have hS : va_S A s.heap H [] := by rw [← hHe]; exact va_S.rf
  generalize ([] : List Loc) = locs at hS ⊢
  unfold f_X11_turned at hg
  refine lv_aload_n hx hb dX11_turned_0 rfl (lv_at hl 0 rfl) ?_
  refine va_get (ci := 10) (v := .ref a1) (C := RX11) (T := TX11) (N := 9) hx hb htb uX11 hown hK.1 hP 0 rfl rfl 0 (by decide) (htb _ tg_412) (fun _ h9 => h9) rfl dX11_turned_1 ?_
  refine va_get (ci := 7) (v := .ref a2) (C := RX8) (T := TX8) (N := 6) hx hb htb uX8 hown hK.1 hP 1 rfl rfl 2 (by decide) (htb _ tg_240) (fun _ h9 => h9) rfl dX11_turned_4 ?_
  refine lv_astore_n (lv' := [(3, .ref a2), (0, .ref a0), (1, .int p0), (2, .int p1)]) hx hb dX11_turned_7 rfl hl (by decide) rfl (fun ls hl => ?_)
  refine lv_iload_n hx hb dX11_turned_8 rfl (lv_at hl 2 rfl) ?_
  refine lv_iconst (v := 0) hx hb dX11_turned_9 (by decide) ?_
  refine lv_aload_n hx hb dX11_turned_10 rfl (lv_at hl 0 rfl) ?_
  refine va_get (ci := 4) (v := .int (pX5_count v2)) (C := RX5) (T := TX5) (N := 6) hx hb htb uX5 hown hK.1 hP 3 rfl rfl 5 (by decide) (htb _ tg_151) (fun _ h9 => h9) rfl dX11_turned_11 ?_
  refine lv_iconst (v := 1) hx hb dX11_turned_14 (by decide) ?_
  refine lv_isub hx hb dX11_turned_15 ?_
  obtain ⟨r_1, hr_1, hg⟩ := g_bd hg
  refine cc_i (va_runS (As := [.int p0, .int 0, .int ((pX5_count v2) - 1)]) (rest := []) ⟨hx, hb, hml, hown, htb⟩ (k_X11_isWithin p0 0 ((pX5_count v2) - 1) r_1 hr_1) (cw_S 3 htb tg_450 tg_1 tg_451 tg_449 rfl rfl (by decide +kernel) ⟨Nat.le_of_ble_eq_true rfl, Nat.le_of_ble_eq_true rfl⟩) ⟨PC.blind, PC.pre hK hT hP hD hS hA [] rfl (by decide)⟩ rfl rfl hl.1 rfl (lv_room (Nat.le_of_ble_eq_true rfl)) dX11_turned_16 ⟨Nat.le_of_ble_eq_true rfl, Nat.le_of_ble_eq_true rfl⟩) hP hD hS hA [] [0, 1, 2, 3, 4, 5, 6, 7, 8] rfl rfl (by decide) (by decide) (fun r9 u9 H locs hw hP hD hS => ?_)
  have hw := hw.symm
  subst hw
  have hP : va_P D vwCl (WS_X11_turned cI cJ cZ cY a0 a0_tape a0_firstTakes r0_saved r0_sight r0_flyer r0_parser a1 a1_codes r1_world r1_eye r1_flight a2 a2_x a2_y a2_head a2_size a2_turns v0 v1 v2) H := hP.sub [0, 1, 2, 3, 4, 5, 6, 7, 8] rfl
  have hD : va_D A (WS_X11_turned cI cJ cZ cY a0 a0_tape a0_firstTakes r0_saved r0_sight r0_flyer r0_parser a1 a1_codes r1_world r1_eye r1_flight a2 a2_x a2_y a2_head a2_size a2_turns v0 v1 v2) := hD.sub [0, 1, 2, 3, 4, 5, 6, 7, 8] (by decide) rfl
  refine lv_if_eq (tgt := 33) hx hb dX11_turned_19 (by decide) (fun c_2 => ?_) (fun c_2 => ?_)
  · have hg := g_it hg c_2
    refine lv_iconst (v := (-1)) hx hb dX11_turned_33 (by decide) ?_
    have hg := Option.some.inj hg
    rw [hQ]
    exact W.iret (v := (-1)) hx hb hr (fun t ht hW => ⟨⟨(-1), (v2), rfl, ⟨by rw [← hg], by rw [← hg]⟩, by rw [ht]; exact hP, hD⟩, hS.F ht⟩) hS.2.2 dX11_turned_34
  · have hg := g_if hg c_2
    refine lv_iload_n hx hb dX11_turned_22 rfl (lv_at hl 3 rfl) ?_
    refine lv_bipush (v := (-8)) hx hb dX11_turned_23 (by decide) ?_
    refine lv_bipush (v := 8) hx hb dX11_turned_25 (by decide) ?_
    obtain ⟨r_3, hr_3, hg⟩ := g_bd hg
    refine cc_i (va_runS (As := [.int p1, .int (-8), .int 8]) (rest := []) ⟨hx, hb, hml, hown, htb⟩ (k_X11_isWithin p1 (-8) 8 r_3 hr_3) (cw_S 3 htb tg_450 tg_1 tg_451 tg_449 rfl rfl (by decide +kernel) ⟨Nat.le_of_ble_eq_true rfl, Nat.le_of_ble_eq_true rfl⟩) ⟨PC.blind, PC.pre hK hT hP hD hS hA [] rfl (by decide)⟩ rfl rfl hl.1 rfl (lv_room (Nat.le_of_ble_eq_true rfl)) dX11_turned_27 ⟨Nat.le_of_ble_eq_true rfl, Nat.le_of_ble_eq_true rfl⟩) hP hD hS hA [] [0, 1, 2, 3, 4, 5, 6, 7, 8] rfl rfl (by decide) (by decide) (fun r9 u9 H locs hw hP hD hS => ?_)
    have hw := hw.symm
    subst hw
    have hP : va_P D vwCl (WS_X11_turned cI cJ cZ cY a0 a0_tape a0_firstTakes r0_saved r0_sight r0_flyer r0_parser a1 a1_codes r1_world r1_eye r1_flight a2 a2_x a2_y a2_head a2_size a2_turns v0 v1 v2) H := hP.sub [0, 1, 2, 3, 4, 5, 6, 7, 8] rfl
    have hD : va_D A (WS_X11_turned cI cJ cZ cY a0 a0_tape a0_firstTakes r0_saved r0_sight r0_flyer r0_parser a1 a1_codes r1_world r1_eye r1_flight a2 a2_x a2_y a2_head a2_size a2_turns v0 v1 v2) := hD.sub [0, 1, 2, 3, 4, 5, 6, 7, 8] (by decide) rfl
    refine lv_if_ne (tgt := 35) hx hb dX11_turned_30 (by decide) (fun c_4 => ?_) (fun c_4 => ?_)
    · have hg := g_if hg c_4
      refine lv_aload_n hx hb dX11_turned_35 rfl (lv_at hl 0 rfl) ?_
      refine va_get (ci := 4) (v := .ref a2_size) (C := RX5) (T := TX5) (N := 6) hx hb htb uX5 hown hK.1 hP 3 rfl rfl 3 (by decide) (htb _ tg_145) (fun _ h9 => h9) rfl dX11_turned_36 ?_
      refine lv_iload_n hx hb dX11_turned_39 rfl (lv_at hl 2 rfl) ?_
      obtain ⟨h_5, hg⟩ := g_gde hg
      refine va_iald hx hb hK.1 hP 7 0 rfl rfl (inB_vp h_5) dX11_turned_40 ?_
      refine lv_topi (fun x4_6 ex4_6 => ?_)
      have hg := g_lte hg x4_6 ex4_6
      refine lv_istore (lv' := [(4, .int x4_6), (3, .ref a2), (0, .ref a0), (1, .int p0), (2, .int p1)]) hx hb dX11_turned_41 hl (by decide) rfl (fun ls hl => ?_)
      refine lv_iload hx hb dX11_turned_43 (lv_at hl 0 rfl) ?_
      refine lv_bipush (v := 20) hx hb dX11_turned_45 (by decide) ?_
      refine lv_icmp_lt (tgt := 52) hx hb dX11_turned_47 (by decide) (fun c_7 => ?_) (fun c_7 => ?_)
      · have hg := g_it hg c_7
        refine lv_aload_n hx hb dX11_turned_52 rfl (lv_at hl 1 rfl) ?_
        refine va_get (ci := 4) (v := .ref a2_turns) (C := RX5) (T := TX5) (N := 6) hx hb htb uX5 hown hK.1 hP 3 rfl rfl 4 (by decide) (htb _ tg_148) (fun _ h9 => h9) rfl dX11_turned_53 ?_
        refine lv_iload_n hx hb dX11_turned_56 rfl (lv_at hl 3 rfl) ?_
        refine lv_bipush (v := 20) hx hb dX11_turned_57 (by decide) ?_
        refine lv_imul hx hb dX11_turned_59 ?_
        refine lv_iload hx hb dX11_turned_60 (lv_at hl 0 rfl) ?_
        refine lv_iadd hx hb dX11_turned_62 ?_
        refine lv_iload_n hx hb dX11_turned_63 rfl (lv_at hl 4 rfl) ?_
        obtain ⟨h_8, hg⟩ := g_gde hg
        refine va_iast hx hb hK.1 hP hD hS 8 0 rfl rfl (inB_vp h_8) dX11_turned_64 (fun H locs hP hD hS => ?_)
        obtain ⟨v2_9, ev2_9⟩ : ∃ z, z = sX5_turns v2 (upd (pX5_turns v2) (((p0 * 20) + x4_6) : Int32).toNatClampNeg p1) := ⟨_, rfl⟩
        have hP : va_P D vwCl (WS_X11_turned cI cJ cZ cY a0 a0_tape a0_firstTakes r0_saved r0_sight r0_flyer r0_parser a1 a1_codes r1_world r1_eye r1_flight a2 a2_x a2_y a2_head a2_size a2_turns v0 v1 v2_9) H := by rw [ev2_9]; exact hP
        have hD : va_D A (WS_X11_turned cI cJ cZ cY a0 a0_tape a0_firstTakes r0_saved r0_sight r0_flyer r0_parser a1 a1_codes r1_world r1_eye r1_flight a2 a2_x a2_y a2_head a2_size a2_turns v0 v1 v2_9) := by rw [ev2_9]; exact hD
        have hg := g_lte hg v2_9 ev2_9
        refine lv_aload_n hx hb dX11_turned_65 rfl (lv_at hl 1 rfl) ?_
        refine va_get (ci := 4) (v := .ref a2_size) (C := RX5) (T := TX5) (N := 6) hx hb htb uX5 hown hK.1 hP 3 rfl rfl 3 (by decide) (htb _ tg_145) (fun _ h9 => h9) rfl dX11_turned_66 ?_
        refine lv_iload_n hx hb dX11_turned_69 rfl (lv_at hl 3 rfl) ?_
        refine lv_iload hx hb dX11_turned_70 (lv_at hl 0 rfl) ?_
        refine lv_iconst (v := 1) hx hb dX11_turned_72 (by decide) ?_
        refine lv_iadd hx hb dX11_turned_73 ?_
        refine lv_topi (fun x_10 ex_10 => ?_)
        have hg := g_lte hg x_10 ex_10
        obtain ⟨h_11, hg⟩ := g_gde hg
        refine va_iast hx hb hK.1 hP hD hS 7 0 rfl rfl (inB_vp h_11) dX11_turned_74 (fun H locs hP hD hS => ?_)
        obtain ⟨v2_12, ev2_12⟩ : ∃ z, z = sX5_size v2_9 (upd (pX5_size v2_9) (p0 : Int32).toNatClampNeg x_10) := ⟨_, rfl⟩
        have hP : va_P D vwCl (WS_X11_turned cI cJ cZ cY a0 a0_tape a0_firstTakes r0_saved r0_sight r0_flyer r0_parser a1 a1_codes r1_world r1_eye r1_flight a2 a2_x a2_y a2_head a2_size a2_turns v0 v1 v2_12) H := by rw [ev2_12]; exact hP
        have hD : va_D A (WS_X11_turned cI cJ cZ cY a0 a0_tape a0_firstTakes r0_saved r0_sight r0_flyer r0_parser a1 a1_codes r1_world r1_eye r1_flight a2 a2_x a2_y a2_head a2_size a2_turns v0 v1 v2_12) := by rw [ev2_12]; exact hD
        have hg := g_lte hg v2_12 ev2_12
        refine lv_iload hx hb dX11_turned_75 (lv_at hl 0 rfl) ?_
        refine lv_iconst (v := 1) hx hb dX11_turned_77 (by decide) ?_
        refine lv_iadd hx hb dX11_turned_78 ?_
        have hg := Option.some.inj hg
        rw [hQ]
        exact W.iret (v := (x4_6 + 1)) hx hb hr (fun t ht hW => ⟨⟨(x4_6 + 1), (v2_12), rfl, ⟨by rw [← hg], by rw [← hg]⟩, by rw [ht]; exact hP, hD⟩, hS.F ht⟩) hS.2.2 dX11_turned_79
      · have hg := g_if hg c_7
        refine lv_iconst (v := (-1)) hx hb dX11_turned_50 (by decide) ?_
        have hg := Option.some.inj hg
        rw [hQ]
        exact W.iret (v := (-1)) hx hb hr (fun t ht hW => ⟨⟨(-1), (v2), rfl, ⟨by rw [← hg], by rw [← hg]⟩, by rw [ht]; exact hP, hD⟩, hS.F ht⟩) hS.2.2 dX11_turned_51
    · have hg := g_it hg c_4
      refine lv_iconst (v := (-1)) hx hb dX11_turned_33 (by decide) ?_
      have hg := Option.some.inj hg
      rw [hQ]
      exact W.iret (v := (-1)) hx hb hr (fun t ht hW => ⟨⟨(-1), (v2), rfl, ⟨by rw [← hg], by rw [← hg]⟩, by rw [ht]; exact hP, hD⟩, hS.F ht⟩) hS.2.2 dX11_turned_34

/-! ManyEyes.isStanding(III)Z -/
def WS_X11_isStanding (cI cJ cZ cY : ClassId) (a0 a0_tape a0_firstTakes r0_saved r0_sight r0_flyer r0_parser a1 a1_codes r1_eye r1_reads r1_flight a2 a2_own a2_bodyX a2_bodyY a2_bodyWayX a2_bodyWayY a2_bodyMark : Nat) (v0 : BX11) (v1 : BX8) (v2 : BX10) : va_W := (GX11o cI cJ cZ cY a0 a0_tape a0_firstTakes a1 r0_saved r0_sight r0_flyer r0_parser v0) ++ ((GX8 cI cJ cZ cY a1 a1_codes a2 r1_eye r1_reads r1_flight v1) ++ ((GX10 cI cJ cZ cY a2 a2_own a2_bodyX a2_bodyY a2_bodyWayX a2_bodyWayY a2_bodyMark v2)))
def f_X11_isStanding (v0 : BX11) (v1 : BX8) (v2 : BX10) (p0 : Int32) (p1 : Int32) (p2 : Int32) : Option (Int32) := (f_X10_isPlace v2 p0 p1).bind (fun r_1 => if (r_1 : Int32) = 0 then (some 0) else ((f_X11_isSide p2).bind (fun r_3 => if (r_3 : Int32) = 0 then (some 0) else (some 1))))
abbrev rm_X11_isStanding : Room := { frames := 2, cells := 0, slots := 0, locals := 44 }
set_option maxHeartbeats 4000000 in
set_option maxRecDepth 100000 in
theorem k_X11_isStanding {l : Launch} {D : va_G} {cI cJ cZ cY : ClassId} {tX tY : Nat} {sz : Nat} (a0 a0_tape a0_firstTakes r0_saved r0_sight r0_flyer r0_parser a1 a1_codes r1_eye r1_reads r1_flight a2 a2_own a2_bodyX a2_bodyY a2_bodyWayX a2_bodyWayY a2_bodyMark : Nat) (v0 : BX11) (v1 : BX8) (v2 : BX10) (p0 : Int32) (p1 : Int32) (p2 : Int32) (res : Int32) (hg : f_X11_isStanding v0 v1 v2 p0 p1 p2 = some res) : Met l yX11_isStanding (Cond.code yX11_isStanding cX11_isStanding 4 (some .boolean) :: TB) rm_X11_isStanding (PC D cI cJ cZ cY tX tY [.ref a0, .int p0, .int p1, .int p2] (WS_X11_isStanding cI cJ cZ cY a0 a0_tape a0_firstTakes r0_saved r0_sight r0_flyer r0_parser a1 a1_codes r1_eye r1_reads r1_flight a2 a2_own a2_bodyX a2_bodyY a2_bodyWayX a2_bodyWayY a2_bodyMark v0 v1 v2) sz) (va_Qi (fun (r : Int32) (_ : Unit) => r = res) (BC D (fun _ : Unit => WS_X11_isStanding cI cJ cZ cY a0 a0_tape a0_firstTakes r0_saved r0_sight r0_flyer r0_parser a1 a1_codes r1_eye r1_reads r1_flight a2 a2_own a2_bodyX a2_bodyY a2_bodyWayX a2_bodyWayY a2_bodyMark v0 v1 v2) (va_A (WS_X11_isStanding cI cJ cZ cY a0 a0_tape a0_firstTakes r0_saved r0_sight r0_flyer r0_parser a1 a1_codes r1_eye r1_reads r1_flight a2 a2_own a2_bodyX a2_bodyY a2_bodyWayX a2_bodyWayY a2_bodyMark v0 v1 v2) sz)) (va_A (WS_X11_isStanding cI cJ cZ cY a0 a0_tape a0_firstTakes r0_saved r0_sight r0_flyer r0_parser a1 a1_codes r1_eye r1_reads r1_flight a2 a2_own a2_bodyX a2_bodyY a2_bodyWayX a2_bodyWayY a2_bodyMark v0 v1 v2) sz)) 0 0 (va_A (WS_X11_isStanding cI cJ cZ cY a0 a0_tape a0_firstTakes r0_saved r0_sight r0_flyer r0_parser a1 a1_codes r1_eye r1_reads r1_flight a2 a2_own a2_bodyX a2_bodyY a2_bodyWayX a2_bodyWayY a2_bodyMark v0 v1 v2) sz) := by
  refine Met.ofW (cc := cX11_isStanding) (maxL := 4) (ret := (some .boolean)) (by decide) rfl ?_
  intro p e s m args below meth c s₁ B hml hv
  obtain ⟨hargs, hsz, hP, hK, hD0, hT⟩ := hv
  have hx := B.exec
  have hb := B.bytes
  have hr := B.returns
  have htb : ∀ w ∈ TB, w.before args s = true := fun w h => atoms_spec (ws := Cond.code yX11_isStanding cX11_isStanding 4 (some .boolean) :: TB) B.pre w (List.mem_cons_of_mem _ h)
  have hown : s.vm.findClass "ManyEyes" = some m.cls := findClass_of_methodNamed B.named
  have hlocks := B.notSynchronized
  subst hsz
  have hD := hD0.self (sz := s.heap.size)
  generalize hAe : va_A (WS_X11_isStanding cI cJ cZ cY a0 a0_tape a0_firstTakes r0_saved r0_sight r0_flyer r0_parser a1 a1_codes r1_eye r1_reads r1_flight a2 a2_own a2_bodyX a2_bodyY a2_bodyWayX a2_bodyWayY a2_bodyMark v0 v1 v2) s.heap.size = A at hD hT ⊢
  have hA : ∀ q : Nat, s.heap.size ≤ q → A q := fun q h => by rw [← hAe]; exact Or.inr h
  have hS : va_S A s.heap s.heap [] := va_S.rf
  have hl := lv_entry ([.ref a0, .int p0, .int p1, .int p2]) (n := 4) (Nat.le_of_ble_eq_true rfl)
  have he : entryFrame m args 4 = F0 m 0 (lg_sl ([.ref a0, .int p0, .int p1, .int p2]) ++ List.replicate (4 - (lg_sl ([.ref a0, .int p0, .int p1, .int p2])).length) Slot.unset).toArray [] := by rw [hargs, lg_entry_eq]
  rw [he]
  generalize (lg_sl ([.ref a0, .int p0, .int p1, .int p2]) ++ List.replicate (4 - (lg_sl ([.ref a0, .int p0, .int p1, .int p2])).length) Slot.unset).toArray = ls at hl ⊢
  have hl : lv_has ls 4 [(0, .ref a0), (1, .int p0), (2, .int p1), (3, .int p2)] := hl
  show W p l e rm_X11_isStanding s m args below meth c s.heap [] 0 0 _ _
  refine W.genQ (fun Q hQ => ?_)
  generalize hHe : s.heap = H at hP ⊢
  have hS : va_S A s.heap H [] := by rw [← hHe]; exact va_S.rf
  generalize ([] : List Loc) = locs at hS ⊢
  unfold f_X11_isStanding at hg
  refine lv_aload_n hx hb dX11_isStanding_0 rfl (lv_at hl 0 rfl) ?_
  refine va_get (ci := 10) (v := .ref a1) (C := RX11) (T := TX11) (N := 9) hx hb htb uX11 hown hK.1 hP 0 rfl rfl 0 (by decide) (htb _ tg_412) (fun _ h9 => h9) rfl dX11_isStanding_1 ?_
  refine va_get (ci := 7) (v := .ref a2) (C := RX8) (T := TX8) (N := 6) hx hb htb uX8 hown hK.1 hP 1 rfl rfl 0 (by decide) (htb _ tg_233) (fun _ h9 => h9) rfl dX11_isStanding_4 ?_
  refine lv_iload_n hx hb dX11_isStanding_7 rfl (lv_at hl 1 rfl) ?_
  refine lv_iload_n hx hb dX11_isStanding_8 rfl (lv_at hl 2 rfl) ?_
  obtain ⟨r_1, hr_1, hg⟩ := g_bd hg
  refine cc_i (va_runV (C := RX10) (As := [.int p0, .int p1]) (rest := []) ⟨hx, hb, hml, hown, htb⟩ (k_X10_isPlace a2 a2_own a2_bodyX a2_bodyY a2_bodyWayX a2_bodyWayY a2_bodyMark v2 p0 p1 r_1 hr_1) (cw_V 2 htb tg_499 tg_3 tg_496 tg_497 tg_498 rfl rfl (by decide +kernel) ⟨Nat.le_of_ble_eq_true rfl, Nat.le_of_ble_eq_true rfl⟩) ⟨PC.blind, va_recv hK.1 hP (ci := 9) (q0 := 3) rfl rfl, PC.pre hK hT hP hD hS hA [3, 4, 5, 6, 7, 8, 9] rfl (by decide)⟩ rfl rfl hl.1 rfl (lv_room (Nat.le_of_ble_eq_true rfl)) dX11_isStanding_9 ⟨Nat.le_of_ble_eq_true rfl, Nat.le_of_ble_eq_true rfl⟩) hP hD hS hA [3, 4, 5, 6, 7, 8, 9] [0, 1, 2] rfl rfl (by decide) (by decide) (fun r9 u9 H locs hw hP hD hS => ?_)
  have hw := hw.symm
  subst hw
  have hP : va_P D vwCl (WS_X11_isStanding cI cJ cZ cY a0 a0_tape a0_firstTakes r0_saved r0_sight r0_flyer r0_parser a1 a1_codes r1_eye r1_reads r1_flight a2 a2_own a2_bodyX a2_bodyY a2_bodyWayX a2_bodyWayY a2_bodyMark v0 v1 v2) H := hP.sub [0, 1, 2, 3, 4, 5, 6, 7, 8, 9] rfl
  have hD : va_D A (WS_X11_isStanding cI cJ cZ cY a0 a0_tape a0_firstTakes r0_saved r0_sight r0_flyer r0_parser a1 a1_codes r1_eye r1_reads r1_flight a2 a2_own a2_bodyX a2_bodyY a2_bodyWayX a2_bodyWayY a2_bodyMark v0 v1 v2) := hD.sub [0, 1, 2, 3, 4, 5, 6, 7, 8, 9] (by decide) rfl
  refine lv_if_eq (tgt := 26) hx hb dX11_isStanding_12 (by decide) (fun c_2 => ?_) (fun c_2 => ?_)
  · have hg := g_it hg c_2
    refine lv_iconst (v := 0) hx hb dX11_isStanding_26 (by decide) ?_
    have hg := Option.some.inj hg
    rw [hQ]
    exact W.zret (v := 0) (ty := .boolean) hx hb hr rfl (fun t ht hW => ⟨⟨0, (), rfl, hg, by rw [ht]; exact hP, hD⟩, hS.F ht⟩) hS.2.2 dX11_isStanding_27
  · have hg := g_if hg c_2
    refine lv_iload_n hx hb dX11_isStanding_15 rfl (lv_at hl 3 rfl) ?_
    obtain ⟨r_3, hr_3, hg⟩ := g_bd hg
    refine cc_i (va_runS (As := [.int p2]) (rest := []) ⟨hx, hb, hml, hown, htb⟩ (k_X11_isSide p2 r_3 hr_3) (cw_S 1 htb tg_482 tg_1 tg_480 tg_481 rfl rfl (by decide +kernel) ⟨Nat.le_of_ble_eq_true rfl, Nat.le_of_ble_eq_true rfl⟩) ⟨PC.blind, PC.pre hK hT hP hD hS hA [] rfl (by decide)⟩ rfl rfl hl.1 rfl (lv_room (Nat.le_of_ble_eq_true rfl)) dX11_isStanding_16 ⟨Nat.le_of_ble_eq_true rfl, Nat.le_of_ble_eq_true rfl⟩) hP hD hS hA [] [0, 1, 2, 3, 4, 5, 6, 7, 8, 9] rfl rfl (by decide) (by decide) (fun r9 u9 H locs hw hP hD hS => ?_)
    have hw := hw.symm
    subst hw
    have hP : va_P D vwCl (WS_X11_isStanding cI cJ cZ cY a0 a0_tape a0_firstTakes r0_saved r0_sight r0_flyer r0_parser a1 a1_codes r1_eye r1_reads r1_flight a2 a2_own a2_bodyX a2_bodyY a2_bodyWayX a2_bodyWayY a2_bodyMark v0 v1 v2) H := hP.sub [0, 1, 2, 3, 4, 5, 6, 7, 8, 9] rfl
    have hD : va_D A (WS_X11_isStanding cI cJ cZ cY a0 a0_tape a0_firstTakes r0_saved r0_sight r0_flyer r0_parser a1 a1_codes r1_eye r1_reads r1_flight a2 a2_own a2_bodyX a2_bodyY a2_bodyWayX a2_bodyWayY a2_bodyMark v0 v1 v2) := hD.sub [0, 1, 2, 3, 4, 5, 6, 7, 8, 9] (by decide) rfl
    refine lv_if_eq (tgt := 26) hx hb dX11_isStanding_19 (by decide) (fun c_4 => ?_) (fun c_4 => ?_)
    · have hg := g_it hg c_4
      refine lv_iconst (v := 0) hx hb dX11_isStanding_26 (by decide) ?_
      have hg := Option.some.inj hg
      rw [hQ]
      exact W.zret (v := 0) (ty := .boolean) hx hb hr rfl (fun t ht hW => ⟨⟨0, (), rfl, hg, by rw [ht]; exact hP, hD⟩, hS.F ht⟩) hS.2.2 dX11_isStanding_27
    · have hg := g_if hg c_4
      refine lv_iconst (v := 1) hx hb dX11_isStanding_22 (by decide) ?_
      refine lv_goto (tgt := 27) hx hb dX11_isStanding_23 (by decide) ?_
      have hg := Option.some.inj hg
      rw [hQ]
      exact W.zret (v := 1) (ty := .boolean) hx hb hr rfl (fun t ht hW => ⟨⟨1, (), rfl, hg, by rw [ht]; exact hP, hD⟩, hS.F ht⟩) hS.2.2 dX11_isStanding_27

/-! ManyEyes.ceilDiv(II)I -/
def WS_X11_ceilDiv (cI cJ cZ cY : ClassId) : va_W := []
def f_X11_ceilDiv (p0 : Int32) (p1 : Int32) : Option (Int32) := if (p1 : Int32) ≤ 0 then (some 0) else ((f_J9_floorDiv_7cf53 (-p0) p1).bind (fun r_2 => some (-r_2)))
abbrev rm_X11_ceilDiv : Room := { frames := 1, cells := 0, slots := 0, locals := 22 }
set_option maxHeartbeats 4000000 in
set_option maxRecDepth 100000 in
theorem k_X11_ceilDiv {l : Launch} {D : va_G} {cI cJ cZ cY : ClassId} {tX tY : Nat} {sz : Nat} (p0 : Int32) (p1 : Int32) (res : Int32) (hg : f_X11_ceilDiv p0 p1 = some res) : Met l yX11_ceilDiv (Cond.code yX11_ceilDiv cX11_ceilDiv 2 (some .int) :: TB) rm_X11_ceilDiv (PC D cI cJ cZ cY tX tY [.int p0, .int p1] (WS_X11_ceilDiv cI cJ cZ cY) sz) (va_Qi (fun (r : Int32) (_ : Unit) => r = res) (BC D (fun _ : Unit => WS_X11_ceilDiv cI cJ cZ cY) (va_A (WS_X11_ceilDiv cI cJ cZ cY) sz)) (va_A (WS_X11_ceilDiv cI cJ cZ cY) sz)) 0 0 (va_A (WS_X11_ceilDiv cI cJ cZ cY) sz) := by
  refine Met.ofW (cc := cX11_ceilDiv) (maxL := 2) (ret := (some .int)) (by decide) rfl ?_
  intro p e s m args below meth c s₁ B hml hv
  obtain ⟨hargs, hsz, hP, hK, hD0, hT⟩ := hv
  have hx := B.exec
  have hb := B.bytes
  have hr := B.returns
  have htb : ∀ w ∈ TB, w.before args s = true := fun w h => atoms_spec (ws := Cond.code yX11_ceilDiv cX11_ceilDiv 2 (some .int) :: TB) B.pre w (List.mem_cons_of_mem _ h)
  have hown : s.vm.findClass "ManyEyes" = some m.cls := findClass_of_methodNamed B.named
  have hlocks := B.notSynchronized
  subst hsz
  have hD := hD0.self (sz := s.heap.size)
  generalize hAe : va_A (WS_X11_ceilDiv cI cJ cZ cY) s.heap.size = A at hD hT ⊢
  have hA : ∀ q : Nat, s.heap.size ≤ q → A q := fun q h => by rw [← hAe]; exact Or.inr h
  have hS : va_S A s.heap s.heap [] := va_S.rf
  have hl := lv_entry ([.int p0, .int p1]) (n := 2) (Nat.le_of_ble_eq_true rfl)
  have he : entryFrame m args 2 = F0 m 0 (lg_sl ([.int p0, .int p1]) ++ List.replicate (2 - (lg_sl ([.int p0, .int p1])).length) Slot.unset).toArray [] := by rw [hargs, lg_entry_eq]
  rw [he]
  generalize (lg_sl ([.int p0, .int p1]) ++ List.replicate (2 - (lg_sl ([.int p0, .int p1])).length) Slot.unset).toArray = ls at hl ⊢
  have hl : lv_has ls 2 [(0, .int p0), (1, .int p1)] := hl
  show W p l e rm_X11_ceilDiv s m args below meth c s.heap [] 0 0 _ _
  refine W.genQ (fun Q hQ => ?_)
  generalize hHe : s.heap = H at hP ⊢
  have hS : va_S A s.heap H [] := by rw [← hHe]; exact va_S.rf
  generalize ([] : List Loc) = locs at hS ⊢
  unfold f_X11_ceilDiv at hg
  refine lv_iload_n hx hb dX11_ceilDiv_0 rfl (lv_at hl 1 rfl) ?_
  refine lv_if_le (tgt := 14) hx hb dX11_ceilDiv_1 (by decide) (fun c_1 => ?_) (fun c_1 => ?_)
  · have hg := g_it hg c_1
    refine lv_iconst (v := 0) hx hb dX11_ceilDiv_14 (by decide) ?_
    have hg := Option.some.inj hg
    rw [hQ]
    exact W.iret (v := 0) hx hb hr (fun t ht hW => ⟨⟨0, (), rfl, hg, by rw [ht]; exact hP, hD⟩, hS.F ht⟩) hS.2.2 dX11_ceilDiv_15
  · have hg := g_if hg c_1
    refine lv_iload_n hx hb dX11_ceilDiv_4 rfl (lv_at hl 0 rfl) ?_
    refine lv_ineg hx hb dX11_ceilDiv_5 ?_
    refine lv_iload_n hx hb dX11_ceilDiv_6 rfl (lv_at hl 1 rfl) ?_
    obtain ⟨r_2, hr_2, hg⟩ := g_bd hg
    refine cc_i (va_runS (As := [.int (-p0), .int p1]) (rest := []) ⟨hx, hb, hml, hown, htb⟩ (k_J9_floorDiv_7cf53 (-p0) p1 r_2 hr_2) (cw_S 2 htb tg_568 tg_4 tg_566 tg_567 rfl rfl (by decide +kernel) ⟨Nat.le_of_ble_eq_true rfl, Nat.le_of_ble_eq_true rfl⟩) ⟨PC.blind, PC.pre hK hT hP hD hS hA [] rfl (by decide)⟩ rfl rfl hl.1 rfl (lv_room (Nat.le_of_ble_eq_true rfl)) dX11_ceilDiv_7 ⟨Nat.le_of_ble_eq_true rfl, Nat.le_of_ble_eq_true rfl⟩) hP hD hS hA [] [] rfl rfl (by decide) (by decide) (fun r9 u9 H locs hw hP hD hS => ?_)
    have hw := hw.symm
    subst hw
    have hP : va_P D vwCl (WS_X11_ceilDiv cI cJ cZ cY) H := hP.sub [] rfl
    have hD : va_D A (WS_X11_ceilDiv cI cJ cZ cY) := hD.sub [] (by decide) rfl
    refine lv_ineg hx hb dX11_ceilDiv_10 ?_
    refine lv_goto (tgt := 15) hx hb dX11_ceilDiv_11 (by decide) ?_
    have hg := Option.some.inj hg
    rw [hQ]
    exact W.iret (v := (-r_2)) hx hb hr (fun t ht hW => ⟨⟨(-r_2), (), rfl, hg, by rw [ht]; exact hP, hD⟩, hS.F ht⟩) hS.2.2 dX11_ceilDiv_15

/-! ManyEyes$Flyer.sense(LManyEyes$Flight;)V -/
def WS_X3_sense (cI cJ cZ cY : ClassId) (a0 a0_rows a0_takes a1 r1_runner r1_trial a2 a2_view a2_rays a3 a3_codes r3_reads r3_flight a4 a4_lensSide a4_lensWidth a4_pairA a4_pairB a4_pairDelay a5 a5_own a5_bodyX a5_bodyY a5_bodyWayX a5_bodyWayY a5_bodyMark : Nat) (v0 : BX2) (v1 : BX3) (v2 : BX7) (v3 : BX8) (v4 : BX1) (v5 : BX10) : va_W := (GX2 cI cJ cZ cY a0 a0_rows a0_takes v0) ++ ((GX3 cI cJ cZ cY a1 a3 a2 r1_runner r1_trial v1) ++ ((GX7 cI cJ cZ cY a2 a2_view a2_rays a5 v2) ++ ((GX8 cI cJ cZ cY a3 a3_codes a5 a4 r3_reads r3_flight v3) ++ ((GX1 cI cJ cZ cY a4 a4_lensSide a4_lensWidth a4_pairA a4_pairB a4_pairDelay v4) ++ ((GX10 cI cJ cZ cY a5 a5_own a5_bodyX a5_bodyY a5_bodyWayX a5_bodyWayY a5_bodyMark v5))))))
def f_X3_sense_b38B (v1 : BX3) (v3 : BX8) (v4 : BX1) (v5 : BX10) (J38 : Int32 × Int32 × BX2 × BX7 → Option (BX2 × BX7)) (x3 : Int32) (x4 : Int32) (v0 : BX2) (v2 : BX7) : Option (BX2 × BX7) := if ((pX1_lenses v4) : Int32) ≤ x4 then (some (v0, v2)) else (if (960 : Int32) ≤ (x3 + x4) then (some (v0, v2)) else (g_gd (inB x4 16) (g_gd (inB x4 16) ((f_X7_weigh v2 v5 ((pX1_lensSide v4) (x4 : Int32).toNatClampNeg) ((pX1_lensWidth v4) (x4 : Int32).toNatClampNeg) (pX2_head v0)).bind (fun r_5 => g_gd (inB (x3 + x4) 960) (g_lt (sX2_takes v0 (upd (pX2_takes v0) ((x3 + x4) : Int32).toNatClampNeg r_5.1)) (fun v0_7 => g_lt (x4 + 1 : Int32) (fun x4_8 => J38 (x3, x4_8, v0_7, r_5.2)))))))))
def f_X3_sense_b38 (v1 : BX3) (v3 : BX8) (v4 : BX1) (v5 : BX10) : Nat → (Int32 × Int32 × BX2 × BX7) → Option (BX2 × BX7) := g_lp (fun J z => f_X3_sense_b38B v1 v3 v4 v5 J z.1 z.2.1 z.2.2.1 z.2.2.2)
def f_X3_sense (v0 : BX2) (v1 : BX3) (v2 : BX7) (v3 : BX8) (v4 : BX1) (v5 : BX10) : Option (BX2 × BX7) := g_lt (((pX2_count v0) * 16) : Int32) (fun x3_9 => (f_X7_look v2 v5 (pX2_x v0) (pX2_y v0) (pX2_count v0)).bind (fun r_10 => f_X3_sense_b38 v1 v3 v4 v5 fU (x3_9, 0, v0, r_10)))
abbrev rm_X3_sense : Room := { frames := 2, cells := 0, slots := 0, locals := 89 }
set_option maxHeartbeats 4000000 in
set_option maxRecDepth 100000 in
theorem k_X3_sense {l : Launch} {D : va_G} {cI cJ cZ cY : ClassId} {tX tY : Nat} {sz : Nat} (a0 a0_rows a0_takes a1 r1_runner r1_trial a2 a2_view a2_rays a3 a3_codes r3_reads r3_flight a4 a4_lensSide a4_lensWidth a4_pairA a4_pairB a4_pairDelay a5 a5_own a5_bodyX a5_bodyY a5_bodyWayX a5_bodyWayY a5_bodyMark : Nat) (v0 : BX2) (v1 : BX3) (v2 : BX7) (v3 : BX8) (v4 : BX1) (v5 : BX10) (res : BX2 × BX7) (hg : f_X3_sense v0 v1 v2 v3 v4 v5 = some res) : Met l yX3_sense (Cond.code yX3_sense cX3_sense 5 none :: TB) rm_X3_sense (PC D cI cJ cZ cY tX tY [.ref a1, .ref a0] (WS_X3_sense cI cJ cZ cY a0 a0_rows a0_takes a1 r1_runner r1_trial a2 a2_view a2_rays a3 a3_codes r3_reads r3_flight a4 a4_lensSide a4_lensWidth a4_pairA a4_pairB a4_pairDelay a5 a5_own a5_bodyX a5_bodyY a5_bodyWayX a5_bodyWayY a5_bodyMark v0 v1 v2 v3 v4 v5) sz) (va_Qv (fun (u : BX2 × BX7) => u = res) (BC D (fun u : BX2 × BX7 => WS_X3_sense cI cJ cZ cY a0 a0_rows a0_takes a1 r1_runner r1_trial a2 a2_view a2_rays a3 a3_codes r3_reads r3_flight a4 a4_lensSide a4_lensWidth a4_pairA a4_pairB a4_pairDelay a5 a5_own a5_bodyX a5_bodyY a5_bodyWayX a5_bodyWayY a5_bodyMark u.1 v1 u.2 v3 v4 v5) (va_A (WS_X3_sense cI cJ cZ cY a0 a0_rows a0_takes a1 r1_runner r1_trial a2 a2_view a2_rays a3 a3_codes r3_reads r3_flight a4 a4_lensSide a4_lensWidth a4_pairA a4_pairB a4_pairDelay a5 a5_own a5_bodyX a5_bodyY a5_bodyWayX a5_bodyWayY a5_bodyMark v0 v1 v2 v3 v4 v5) sz)) (va_A (WS_X3_sense cI cJ cZ cY a0 a0_rows a0_takes a1 r1_runner r1_trial a2 a2_view a2_rays a3 a3_codes r3_reads r3_flight a4 a4_lensSide a4_lensWidth a4_pairA a4_pairB a4_pairDelay a5 a5_own a5_bodyX a5_bodyY a5_bodyWayX a5_bodyWayY a5_bodyMark v0 v1 v2 v3 v4 v5) sz)) 0 0 (va_A (WS_X3_sense cI cJ cZ cY a0 a0_rows a0_takes a1 r1_runner r1_trial a2 a2_view a2_rays a3 a3_codes r3_reads r3_flight a4 a4_lensSide a4_lensWidth a4_pairA a4_pairB a4_pairDelay a5 a5_own a5_bodyX a5_bodyY a5_bodyWayX a5_bodyWayY a5_bodyMark v0 v1 v2 v3 v4 v5) sz) := by
  refine Met.ofW (cc := cX3_sense) (maxL := 5) (ret := none) (by decide) rfl ?_
  intro p e s m args below meth c s₁ B hml hv
  obtain ⟨hargs, hsz, hP, hK, hD0, hT⟩ := hv
  have hx := B.exec
  have hb := B.bytes
  have hr := B.returns
  have htb : ∀ w ∈ TB, w.before args s = true := fun w h => atoms_spec (ws := Cond.code yX3_sense cX3_sense 5 none :: TB) B.pre w (List.mem_cons_of_mem _ h)
  have hown : s.vm.findClass "ManyEyes$Flyer" = some m.cls := findClass_of_methodNamed B.named
  have hlocks := B.notSynchronized
  subst hsz
  have hD := hD0.self (sz := s.heap.size)
  generalize hAe : va_A (WS_X3_sense cI cJ cZ cY a0 a0_rows a0_takes a1 r1_runner r1_trial a2 a2_view a2_rays a3 a3_codes r3_reads r3_flight a4 a4_lensSide a4_lensWidth a4_pairA a4_pairB a4_pairDelay a5 a5_own a5_bodyX a5_bodyY a5_bodyWayX a5_bodyWayY a5_bodyMark v0 v1 v2 v3 v4 v5) s.heap.size = A at hD hT ⊢
  have hA : ∀ q : Nat, s.heap.size ≤ q → A q := fun q h => by rw [← hAe]; exact Or.inr h
  have hS : va_S A s.heap s.heap [] := va_S.rf
  have hl := lv_entry ([.ref a1, .ref a0]) (n := 5) (Nat.le_of_ble_eq_true rfl)
  have he : entryFrame m args 5 = F0 m 0 (lg_sl ([.ref a1, .ref a0]) ++ List.replicate (5 - (lg_sl ([.ref a1, .ref a0])).length) Slot.unset).toArray [] := by rw [hargs, lg_entry_eq]
  rw [he]
  generalize (lg_sl ([.ref a1, .ref a0]) ++ List.replicate (5 - (lg_sl ([.ref a1, .ref a0])).length) Slot.unset).toArray = ls at hl ⊢
  have hl : lv_has ls 5 [(0, .ref a1), (1, .ref a0)] := hl
  show W p l e rm_X3_sense s m args below meth c s.heap [] 0 0 _ _
  refine W.genQ (fun Q hQ => ?_)
  have b_38 : ∀ (n : Nat), ∀ (x3 : Int32) (x4 : Int32) (v0 : BX2) (v2 : BX7) (H : Heap) (locs : List Loc) (ls : Array Slot), va_P D vwCl (WS_X3_sense cI cJ cZ cY a0 a0_rows a0_takes a1 r1_runner r1_trial a2 a2_view a2_rays a3 a3_codes r3_reads r3_flight a4 a4_lensSide a4_lensWidth a4_pairA a4_pairB a4_pairDelay a5 a5_own a5_bodyX a5_bodyY a5_bodyWayX a5_bodyWayY a5_bodyMark v0 v1 v2 v3 v4 v5) H → va_D A (WS_X3_sense cI cJ cZ cY a0 a0_rows a0_takes a1 r1_runner r1_trial a2 a2_view a2_rays a3 a3_codes r3_reads r3_flight a4 a4_lensSide a4_lensWidth a4_pairA a4_pairB a4_pairDelay a5 a5_own a5_bodyX a5_bodyY a5_bodyWayX a5_bodyWayY a5_bodyMark v0 v1 v2 v3 v4 v5) → va_S A s.heap H locs → lv_has ls 5 [(0, .ref a1), (1, .ref a0), (2, .ref a4), (3, .int x3), (4, .int x4)] → f_X3_sense_b38 v1 v3 v4 v5 n (x3, x4, v0, v2) = some res → W p l e rm_X3_sense s m args below meth c H locs 0 0 Q (F0 m 38 ls []) := by
    intro n
    induction n with
    | zero =>
      intro x3 x4 v0 v2 H locs ls hP hD hS hl hg
      exact (g_lp0 hg).elim
    | succ n ih =>
      intro x3 x4 v0 v2 H locs ls hP hD hS hl hg
      have hg : f_X3_sense_b38B v1 v3 v4 v5 (f_X3_sense_b38 v1 v3 v4 v5 n) x3 x4 v0 v2 = some res := hg
      unfold f_X3_sense_b38B at hg
      refine lv_iload hx hb dX3_sense_38 (lv_at hl 4 rfl) ?_
      refine lv_aload_n hx hb dX3_sense_40 rfl (lv_at hl 2 rfl) ?_
      refine va_get (ci := 0) (v := .int (pX1_lenses v4)) (C := RX1) (T := TX1) (N := 7) hx hb htb uX1 hown hK.1 hP 9 rfl rfl 5 (by decide) (htb _ tg_108) (fun _ h9 => h9) rfl dX3_sense_41 ?_
      refine lv_icmp_ge (tgt := 99) hx hb dX3_sense_44 (by decide) (fun c_1 => ?_) (fun c_1 => ?_)
      · have hg := g_it hg c_1
        have hg := Option.some.inj hg
        rw [hQ]
        exact W.vret hx hb hr (fun t ht hW => ⟨⟨(v0, v2), rfl, hg, by rw [ht]; exact hP, hD⟩, hS.F ht⟩) hS.2.2 dX3_sense_99
      · have hg := g_if hg c_1
        refine lv_iload_n hx hb dX3_sense_47 rfl (lv_at hl 3 rfl) ?_
        refine lv_iload hx hb dX3_sense_48 (lv_at hl 4 rfl) ?_
        refine lv_iadd hx hb dX3_sense_50 ?_
        refine lv_aload_n hx hb dX3_sense_51 rfl (lv_at hl 1 rfl) ?_
        refine va_get (ci := 1) (v := .ref a0_takes) (C := RX2) (T := TX2) (N := 12) hx hb htb uX2 hown hK.1 hP 0 rfl rfl 1 (by decide) (htb _ tg_173) (fun _ h9 => h9) rfl dX3_sense_52 ?_
        refine va_alen (v := 960) hx hb hK.1 hP 2 0 rfl rfl rfl dX3_sense_55 ?_
        refine lv_icmp_ge (tgt := 99) hx hb dX3_sense_56 (by decide) (fun c_2 => ?_) (fun c_2 => ?_)
        · have hg := g_it hg c_2
          have hg := Option.some.inj hg
          rw [hQ]
          exact W.vret hx hb hr (fun t ht hW => ⟨⟨(v0, v2), rfl, hg, by rw [ht]; exact hP, hD⟩, hS.F ht⟩) hS.2.2 dX3_sense_99
        · have hg := g_if hg c_2
          refine lv_aload_n hx hb dX3_sense_59 rfl (lv_at hl 1 rfl) ?_
          refine va_get (ci := 1) (v := .ref a0_takes) (C := RX2) (T := TX2) (N := 12) hx hb htb uX2 hown hK.1 hP 0 rfl rfl 1 (by decide) (htb _ tg_173) (fun _ h9 => h9) rfl dX3_sense_60 ?_
          refine lv_iload_n hx hb dX3_sense_63 rfl (lv_at hl 3 rfl) ?_
          refine lv_iload hx hb dX3_sense_64 (lv_at hl 4 rfl) ?_
          refine lv_iadd hx hb dX3_sense_66 ?_
          refine lv_aload_n hx hb dX3_sense_67 rfl (lv_at hl 0 rfl) ?_
          refine va_get (ci := 2) (v := .ref a2) (C := RX3) (T := TX3) (N := 4) hx hb htb uX3 hown hK.1 hP 3 rfl rfl 1 (by decide) (htb _ tg_333) (fun _ h9 => h9) rfl dX3_sense_68 ?_
          refine lv_aload_n hx hb dX3_sense_71 rfl (lv_at hl 2 rfl) ?_
          refine va_get (ci := 0) (v := .ref a4_lensSide) (C := RX1) (T := TX1) (N := 7) hx hb htb uX1 hown hK.1 hP 9 rfl rfl 0 (by decide) (htb _ tg_94) (fun _ h9 => h9) rfl dX3_sense_72 ?_
          refine lv_iload hx hb dX3_sense_75 (lv_at hl 4 rfl) ?_
          obtain ⟨h_3, hg⟩ := g_gde hg
          refine va_iald hx hb hK.1 hP 10 0 rfl rfl (inB_vp h_3) dX3_sense_77 ?_
          refine lv_aload_n hx hb dX3_sense_78 rfl (lv_at hl 2 rfl) ?_
          refine va_get (ci := 0) (v := .ref a4_lensWidth) (C := RX1) (T := TX1) (N := 7) hx hb htb uX1 hown hK.1 hP 9 rfl rfl 1 (by decide) (htb _ tg_97) (fun _ h9 => h9) rfl dX3_sense_79 ?_
          refine lv_iload hx hb dX3_sense_82 (lv_at hl 4 rfl) ?_
          obtain ⟨h_4, hg⟩ := g_gde hg
          refine va_iald hx hb hK.1 hP 11 0 rfl rfl (inB_vp h_4) dX3_sense_84 ?_
          refine lv_aload_n hx hb dX3_sense_85 rfl (lv_at hl 1 rfl) ?_
          refine va_get (ci := 1) (v := .int (pX2_head v0)) (C := RX2) (T := TX2) (N := 12) hx hb htb uX2 hown hK.1 hP 0 rfl rfl 9 (by decide) (htb _ tg_197) (fun _ h9 => h9) rfl dX3_sense_86 ?_
          obtain ⟨r_5, hr_5, hg⟩ := g_bd hg
          refine cc_i (va_runV (C := RX7) (As := [.int ((pX1_lensSide v4) (x4 : Int32).toNatClampNeg), .int ((pX1_lensWidth v4) (x4 : Int32).toNatClampNeg), .int (pX2_head v0)]) (rest := [.int (x3 + x4), .ref a0_takes]) ⟨hx, hb, hml, hown, htb⟩ (k_X7_weigh a2 a2_view a2_rays a5 a5_own a5_bodyX a5_bodyY a5_bodyWayX a5_bodyWayY a5_bodyMark v2 v5 ((pX1_lensSide v4) (x4 : Int32).toNatClampNeg) ((pX1_lensWidth v4) (x4 : Int32).toNatClampNeg) (pX2_head v0) r_5 hr_5) (cw_V 3 htb tg_530 tg_8 tg_766 tg_528 tg_529 rfl rfl (by decide +kernel) ⟨Nat.le_of_ble_eq_true rfl, Nat.le_of_ble_eq_true rfl⟩) ⟨PC.blind, va_recv hK.1 hP (ci := 6) (q0 := 4) rfl rfl, PC.pre hK hT hP hD hS hA [4, 5, 6, 15, 16, 17, 18, 19, 20, 21] rfl (by decide)⟩ rfl rfl hl.1 rfl (lv_room (Nat.le_of_ble_eq_true rfl)) dX3_sense_89 ⟨Nat.le_of_ble_eq_true rfl, Nat.le_of_ble_eq_true rfl⟩) hP hD hS hA [4, 5, 6, 15, 16, 17, 18, 19, 20, 21] [0, 1, 2, 3, 7, 8, 9, 10, 11, 12, 13, 14] rfl rfl (by decide) (by decide) (fun r9 u9 H locs hw hP hD hS => ?_)
          obtain ⟨rfl, rfl⟩ := hw
          have hP : va_P D vwCl (WS_X3_sense cI cJ cZ cY a0 a0_rows a0_takes a1 r1_runner r1_trial a2 a2_view a2_rays a3 a3_codes r3_reads r3_flight a4 a4_lensSide a4_lensWidth a4_pairA a4_pairB a4_pairDelay a5 a5_own a5_bodyX a5_bodyY a5_bodyWayX a5_bodyWayY a5_bodyMark v0 v1 r_5.2 v3 v4 v5) H := hP.sub [0, 1, 2, 3, 12, 13, 14, 4, 5, 6, 7, 8, 9, 10, 11, 15, 16, 17, 18, 19, 20, 21] rfl
          have hD : va_D A (WS_X3_sense cI cJ cZ cY a0 a0_rows a0_takes a1 r1_runner r1_trial a2 a2_view a2_rays a3 a3_codes r3_reads r3_flight a4 a4_lensSide a4_lensWidth a4_pairA a4_pairB a4_pairDelay a5 a5_own a5_bodyX a5_bodyY a5_bodyWayX a5_bodyWayY a5_bodyMark v0 v1 r_5.2 v3 v4 v5) := hD.sub [0, 1, 2, 3, 12, 13, 14, 4, 5, 6, 7, 8, 9, 10, 11, 15, 16, 17, 18, 19, 20, 21] (by decide) rfl
          obtain ⟨h_6, hg⟩ := g_gde hg
          refine va_iast hx hb hK.1 hP hD hS 2 0 rfl rfl (inB_vp h_6) dX3_sense_92 (fun H locs hP hD hS => ?_)
          obtain ⟨v0_7, ev0_7⟩ : ∃ z, z = sX2_takes v0 (upd (pX2_takes v0) ((x3 + x4) : Int32).toNatClampNeg r_5.1) := ⟨_, rfl⟩
          have hP : va_P D vwCl (WS_X3_sense cI cJ cZ cY a0 a0_rows a0_takes a1 r1_runner r1_trial a2 a2_view a2_rays a3 a3_codes r3_reads r3_flight a4 a4_lensSide a4_lensWidth a4_pairA a4_pairB a4_pairDelay a5 a5_own a5_bodyX a5_bodyY a5_bodyWayX a5_bodyWayY a5_bodyMark v0_7 v1 r_5.2 v3 v4 v5) H := by rw [ev0_7]; exact hP
          have hD : va_D A (WS_X3_sense cI cJ cZ cY a0 a0_rows a0_takes a1 r1_runner r1_trial a2 a2_view a2_rays a3 a3_codes r3_reads r3_flight a4 a4_lensSide a4_lensWidth a4_pairA a4_pairB a4_pairDelay a5 a5_own a5_bodyX a5_bodyY a5_bodyWayX a5_bodyWayY a5_bodyMark v0_7 v1 r_5.2 v3 v4 v5) := by rw [ev0_7]; exact hD
          have hg := g_lte hg v0_7 ev0_7
          obtain ⟨x4_8, ex4_8⟩ : ∃ z : Int32, z = x4 + 1 := ⟨_, rfl⟩
          have hg := g_lte hg x4_8 ex4_8
          refine lv_iinc (v := x4_8) (lv' := [(4, .int x4_8), (0, .ref a1), (1, .ref a0), (2, .ref a4), (3, .int x3)]) hx hb dX3_sense_93 hl (k := 4) rfl (by rw [ex4_8]; rfl) (by decide) rfl (fun ls hl => ?_)
          refine lv_goto (tgt := 38) hx hb dX3_sense_96 (by decide) ?_
          exact ih x3 x4_8 v0_7 r_5.2 H locs ls hP hD hS (lv_sub hl [1, 2, 3, 4, 0] rfl) hg
  generalize hHe : s.heap = H at hP ⊢
  have hS : va_S A s.heap H [] := by rw [← hHe]; exact va_S.rf
  generalize ([] : List Loc) = locs at hS ⊢
  unfold f_X3_sense at hg
  refine lv_aload_n hx hb dX3_sense_0 rfl (lv_at hl 0 rfl) ?_
  refine va_get (ci := 2) (v := .ref a3) (C := RX3) (T := TX3) (N := 4) hx hb htb uX3 hown hK.1 hP 3 rfl rfl 0 (by decide) (htb _ tg_332) (fun _ h9 => h9) rfl dX3_sense_1 ?_
  refine va_get (ci := 7) (v := .ref a4) (C := RX8) (T := TX8) (N := 6) hx hb htb uX8 hown hK.1 hP 7 rfl rfl 1 (by decide) (htb _ tg_235) (fun _ h9 => h9) rfl dX3_sense_4 ?_
  refine lv_astore_n (lv' := [(2, .ref a4), (0, .ref a1), (1, .ref a0)]) hx hb dX3_sense_7 rfl hl (by decide) rfl (fun ls hl => ?_)
  refine lv_aload_n hx hb dX3_sense_8 rfl (lv_at hl 2 rfl) ?_
  refine va_get (ci := 1) (v := .int (pX2_count v0)) (C := RX2) (T := TX2) (N := 12) hx hb htb uX2 hown hK.1 hP 0 rfl rfl 5 (by decide) (htb _ tg_184) (fun _ h9 => h9) rfl dX3_sense_9 ?_
  refine lv_bipush (v := 16) hx hb dX3_sense_12 (by decide) ?_
  refine lv_imul hx hb dX3_sense_14 ?_
  refine lv_topi (fun x3_9 ex3_9 => ?_)
  have hg := g_lte hg x3_9 ex3_9
  refine lv_istore_n (lv' := [(3, .int x3_9), (2, .ref a4), (0, .ref a1), (1, .ref a0)]) hx hb dX3_sense_15 rfl hl (by decide) rfl (fun ls hl => ?_)
  refine lv_aload_n hx hb dX3_sense_16 rfl (lv_at hl 2 rfl) ?_
  refine va_get (ci := 2) (v := .ref a2) (C := RX3) (T := TX3) (N := 4) hx hb htb uX3 hown hK.1 hP 3 rfl rfl 1 (by decide) (htb _ tg_333) (fun _ h9 => h9) rfl dX3_sense_17 ?_
  refine lv_aload_n hx hb dX3_sense_20 rfl (lv_at hl 3 rfl) ?_
  refine va_get (ci := 1) (v := .int (pX2_x v0)) (C := RX2) (T := TX2) (N := 12) hx hb htb uX2 hown hK.1 hP 0 rfl rfl 7 (by decide) (htb _ tg_191) (fun _ h9 => h9) rfl dX3_sense_21 ?_
  refine lv_aload_n hx hb dX3_sense_24 rfl (lv_at hl 3 rfl) ?_
  refine va_get (ci := 1) (v := .int (pX2_y v0)) (C := RX2) (T := TX2) (N := 12) hx hb htb uX2 hown hK.1 hP 0 rfl rfl 8 (by decide) (htb _ tg_194) (fun _ h9 => h9) rfl dX3_sense_25 ?_
  refine lv_aload_n hx hb dX3_sense_28 rfl (lv_at hl 3 rfl) ?_
  refine va_get (ci := 1) (v := .int (pX2_count v0)) (C := RX2) (T := TX2) (N := 12) hx hb htb uX2 hown hK.1 hP 0 rfl rfl 5 (by decide) (htb _ tg_184) (fun _ h9 => h9) rfl dX3_sense_29 ?_
  obtain ⟨r_10, hr_10, hg⟩ := g_bd hg
  refine cc_v (va_runV (C := RX7) (As := [.int (pX2_x v0), .int (pX2_y v0), .int (pX2_count v0)]) (rest := []) ⟨hx, hb, hml, hown, htb⟩ (k_X7_look a2 a2_view a2_rays a5 a5_own a5_bodyX a5_bodyY a5_bodyWayX a5_bodyWayY a5_bodyMark v2 v5 (pX2_x v0) (pX2_y v0) (pX2_count v0) r_10 hr_10) (cw_V 3 htb tg_503 tg_8 tg_765 tg_501 tg_502 rfl rfl (by decide +kernel) ⟨Nat.le_of_ble_eq_true rfl, Nat.le_of_ble_eq_true rfl⟩) ⟨PC.blind, va_recv hK.1 hP (ci := 6) (q0 := 4) rfl rfl, PC.pre hK hT hP hD hS hA [4, 5, 6, 15, 16, 17, 18, 19, 20, 21] rfl (by decide)⟩ rfl rfl hl.1 rfl (lv_room (Nat.le_of_ble_eq_true rfl)) dX3_sense_32 ⟨Nat.le_of_ble_eq_true rfl, Nat.le_of_ble_eq_true rfl⟩) hP hD hS hA [4, 5, 6, 15, 16, 17, 18, 19, 20, 21] [0, 1, 2, 3, 7, 8, 9, 10, 11, 12, 13, 14] rfl rfl (by decide) (by decide) (fun u9 H locs hw hP hD hS => ?_)
  have hw := hw.symm
  subst hw
  have hP : va_P D vwCl (WS_X3_sense cI cJ cZ cY a0 a0_rows a0_takes a1 r1_runner r1_trial a2 a2_view a2_rays a3 a3_codes r3_reads r3_flight a4 a4_lensSide a4_lensWidth a4_pairA a4_pairB a4_pairDelay a5 a5_own a5_bodyX a5_bodyY a5_bodyWayX a5_bodyWayY a5_bodyMark v0 v1 r_10 v3 v4 v5) H := hP.sub [0, 1, 2, 3, 12, 13, 14, 4, 5, 6, 7, 8, 9, 10, 11, 15, 16, 17, 18, 19, 20, 21] rfl
  have hD : va_D A (WS_X3_sense cI cJ cZ cY a0 a0_rows a0_takes a1 r1_runner r1_trial a2 a2_view a2_rays a3 a3_codes r3_reads r3_flight a4 a4_lensSide a4_lensWidth a4_pairA a4_pairB a4_pairDelay a5 a5_own a5_bodyX a5_bodyY a5_bodyWayX a5_bodyWayY a5_bodyMark v0 v1 r_10 v3 v4 v5) := hD.sub [0, 1, 2, 3, 12, 13, 14, 4, 5, 6, 7, 8, 9, 10, 11, 15, 16, 17, 18, 19, 20, 21] (by decide) rfl
  refine lv_iconst (v := 0) hx hb dX3_sense_35 (by decide) ?_
  refine lv_istore (lv' := [(4, .int 0), (3, .int x3_9), (2, .ref a4), (0, .ref a1), (1, .ref a0)]) hx hb dX3_sense_36 hl (by decide) rfl (fun ls hl => ?_)
  exact b_38 fU x3_9 0 v0 r_10 H locs ls hP hD hS (lv_sub hl [3, 4, 2, 1, 0] rfl) hg

/-! ManyEyes$Runner.run([ILManyEyes$Flight;)V -/
def WS_X6_run (cI cJ cZ cY : ClassId) (a0 a1 a1_rows a1_takes a2 a2_stack a2_letters a3 a3_lensSide a3_lensWidth a3_pairA a3_pairB a3_pairDelay n0 : Nat) (v0 : (Nat → Int32)) (v1 : BX2) (v2 : BX6) (v3 : BX1) : va_W := (GA cI a0 n0 v0) ++ ((GX2 cI cJ cZ cY a1 a1_rows a1_takes v1) ++ ((GX6 cI cJ cZ cY a2 a2_stack a2_letters a3 v2) ++ ((GX1 cI cJ cZ cY a3 a3_lensSide a3_lensWidth a3_pairA a3_pairB a3_pairDelay v3))))
def f_X6_run_b152 (n0 : Nat) (v0 : (Nat → Int32)) (v1 : BX2) (v3 : BX1) (J27 : (Int32 × BX6) → Option (BX6)) (x3 : Int32) (v2 : BX6) : Option (BX6) := g_lt (x3 + 1 : Int32) (fun x3_1 => J27 (x3_1, v2))
def f_X6_run_b103 (n0 : Nat) (v0 : (Nat → Int32)) (v1 : BX2) (v3 : BX1) (J27 : (Int32 × BX6) → Option (BX6)) (x3 : Int32) (t1 : Int64) (v2 : BX6) : Option (BX6) := (f_X6_push v2 t1).bind (fun r_2 => f_X6_run_b152 n0 v0 v1 v3 J27 x3 r_2)
def f_X6_run_b27B (n0 : Nat) (v0 : (Nat → Int32)) (v1 : BX2) (v3 : BX1) (J27 : Int32 × BX6 → Option (BX6)) (x3 : Int32) (v2 : BX6) : Option (BX6) := if ((Int32.ofNat n0) : Int32) ≤ x3 then (some (v2)) else (g_gd (inB x3 n0) (g_lt (((v0 (x3 : Int32).toNatClampNeg) &&& 31) : Int32) (fun x4_5 => g_gd (inB x3 n0) (g_lt (((v0 (x3 : Int32).toNatClampNeg) >>> (5 &&& 31)) : Int32) (fun x5_7 => if (4 : Int32) < x4_5 then (if (6 : Int32) < x4_5 then (if (20 : Int32) < x4_5 then ((f_X6_pop v2).bind (fun r_11 => (f_X6_finish r_11.2 x4_5 x5_7 r_11.1).bind (fun r_12 => f_X6_run_b152 n0 v0 v1 v3 J27 x3 r_12))) else ((f_X6_pop v2).bind (fun r_13 => (f_X6_pop r_13.2).bind (fun r_14 => (f_X6_joined x4_5 r_14.1 r_13.1).bind (fun r_15 => (f_X6_push r_14.2 r_15).bind (fun r_16 => f_X6_run_b152 n0 v0 v1 v3 J27 x3 r_16)))))) else ((f_X6_pop v2).bind (fun r_17 => if (x4_5 : Int32) = 5 then (f_X6_run_b103 n0 v0 v1 v3 J27 x3 (-((r_17.1 : Int32).toInt64)) r_17.2) else (f_X6_run_b103 n0 v0 v1 v3 J27 x3 ((((1 : Int32) - r_17.1) : Int32).toInt64) r_17.2)))) else ((f_X6_brought v1 v2 v3 x4_5 x5_7).bind (fun r_19 => (f_X6_push v2 ((r_19 : Int32).toInt64)).bind (fun r_20 => f_X6_run_b152 n0 v0 v1 v3 J27 x3 r_20))))))))
def f_X6_run_b27 (n0 : Nat) (v0 : (Nat → Int32)) (v1 : BX2) (v3 : BX1) : Nat → (Int32 × BX6) → Option (BX6) := g_lp (fun J z => f_X6_run_b27B n0 v0 v1 v3 J z.1 z.2)
def f_X6_run (n0 : Nat) (v0 : (Nat → Int32)) (v1 : BX2) (v2 : BX6) (v3 : BX1) : Option (BX6) := g_lt (sX6_top v2 0) (fun v2_21 => g_lt (sX6_over v2_21 0) (fun v2_22 => g_lt (sX6_turn v2_22 0) (fun v2_23 => g_lt (sX6_go v2_23 0) (fun v2_24 => g_lt (sX6_rests v2_24 0) (fun v2_25 => f_X6_run_b27 n0 v0 v1 v3 fU (0, v2_25))))))
abbrev rm_X6_run : Room := { frames := 3, cells := 0, slots := 0, locals := 72 }
set_option maxHeartbeats 4000000 in
set_option maxRecDepth 100000 in
theorem k_X6_run {l : Launch} {D : va_G} {cI cJ cZ cY : ClassId} {tX tY : Nat} {sz : Nat} (a0 a1 a1_rows a1_takes a2 a2_stack a2_letters a3 a3_lensSide a3_lensWidth a3_pairA a3_pairB a3_pairDelay n0 : Nat) (v0 : (Nat → Int32)) (v1 : BX2) (v2 : BX6) (v3 : BX1) (res : BX6) (hg : f_X6_run n0 v0 v1 v2 v3 = some res) : Met l yX6_run (Cond.code yX6_run cX6_run 7 none :: TB) rm_X6_run (PC D cI cJ cZ cY tX tY [.ref a2, .ref a0, .ref a1] (WS_X6_run cI cJ cZ cY a0 a1 a1_rows a1_takes a2 a2_stack a2_letters a3 a3_lensSide a3_lensWidth a3_pairA a3_pairB a3_pairDelay n0 v0 v1 v2 v3) sz) (va_Qv (fun (u : BX6) => u = res) (BC D (fun u : BX6 => WS_X6_run cI cJ cZ cY a0 a1 a1_rows a1_takes a2 a2_stack a2_letters a3 a3_lensSide a3_lensWidth a3_pairA a3_pairB a3_pairDelay n0 v0 v1 u v3) (va_A (WS_X6_run cI cJ cZ cY a0 a1 a1_rows a1_takes a2 a2_stack a2_letters a3 a3_lensSide a3_lensWidth a3_pairA a3_pairB a3_pairDelay n0 v0 v1 v2 v3) sz)) (va_A (WS_X6_run cI cJ cZ cY a0 a1 a1_rows a1_takes a2 a2_stack a2_letters a3 a3_lensSide a3_lensWidth a3_pairA a3_pairB a3_pairDelay n0 v0 v1 v2 v3) sz)) 0 0 (va_A (WS_X6_run cI cJ cZ cY a0 a1 a1_rows a1_takes a2 a2_stack a2_letters a3 a3_lensSide a3_lensWidth a3_pairA a3_pairB a3_pairDelay n0 v0 v1 v2 v3) sz) := by
  refine Met.ofW (cc := cX6_run) (maxL := 7) (ret := none) (by decide) rfl ?_
  intro p e s m args below meth c s₁ B hml hv
  obtain ⟨hargs, hsz, hP, hK, hD0, hT⟩ := hv
  have hx := B.exec
  have hb := B.bytes
  have hr := B.returns
  have htb : ∀ w ∈ TB, w.before args s = true := fun w h => atoms_spec (ws := Cond.code yX6_run cX6_run 7 none :: TB) B.pre w (List.mem_cons_of_mem _ h)
  have hown : s.vm.findClass "ManyEyes$Runner" = some m.cls := findClass_of_methodNamed B.named
  have hlocks := B.notSynchronized
  subst hsz
  have hD := hD0.self (sz := s.heap.size)
  generalize hAe : va_A (WS_X6_run cI cJ cZ cY a0 a1 a1_rows a1_takes a2 a2_stack a2_letters a3 a3_lensSide a3_lensWidth a3_pairA a3_pairB a3_pairDelay n0 v0 v1 v2 v3) s.heap.size = A at hD hT ⊢
  have hA : ∀ q : Nat, s.heap.size ≤ q → A q := fun q h => by rw [← hAe]; exact Or.inr h
  have hS : va_S A s.heap s.heap [] := va_S.rf
  have hl := lv_entry ([.ref a2, .ref a0, .ref a1]) (n := 7) (Nat.le_of_ble_eq_true rfl)
  have he : entryFrame m args 7 = F0 m 0 (lg_sl ([.ref a2, .ref a0, .ref a1]) ++ List.replicate (7 - (lg_sl ([.ref a2, .ref a0, .ref a1])).length) Slot.unset).toArray [] := by rw [hargs, lg_entry_eq]
  rw [he]
  generalize (lg_sl ([.ref a2, .ref a0, .ref a1]) ++ List.replicate (7 - (lg_sl ([.ref a2, .ref a0, .ref a1])).length) Slot.unset).toArray = ls at hl ⊢
  have hl : lv_has ls 7 [(0, .ref a2), (1, .ref a0), (2, .ref a1)] := hl
  show W p l e rm_X6_run s m args below meth c s.heap [] 0 0 _ _
  refine W.genQ (fun Q hQ => ?_)
  have b_152 : ∀ (J27 : (Int32 × BX6) → Option (BX6)) (hJ27 : ∀ (x3 : Int32) (v2 : BX6) (H : Heap) (locs : List Loc) (ls : Array Slot), va_P D vwCl (WS_X6_run cI cJ cZ cY a0 a1 a1_rows a1_takes a2 a2_stack a2_letters a3 a3_lensSide a3_lensWidth a3_pairA a3_pairB a3_pairDelay n0 v0 v1 v2 v3) H → va_D A (WS_X6_run cI cJ cZ cY a0 a1 a1_rows a1_takes a2 a2_stack a2_letters a3 a3_lensSide a3_lensWidth a3_pairA a3_pairB a3_pairDelay n0 v0 v1 v2 v3) → va_S A s.heap H locs → lv_has ls 7 [(0, .ref a2), (1, .ref a0), (2, .ref a1), (3, .int x3)] → J27 (x3, v2) = some res → W p l e rm_X6_run s m args below meth c H locs 0 0 Q (F0 m 27 ls [])), ∀ (x3 : Int32) (v2 : BX6) (H : Heap) (locs : List Loc) (ls : Array Slot), va_P D vwCl (WS_X6_run cI cJ cZ cY a0 a1 a1_rows a1_takes a2 a2_stack a2_letters a3 a3_lensSide a3_lensWidth a3_pairA a3_pairB a3_pairDelay n0 v0 v1 v2 v3) H → va_D A (WS_X6_run cI cJ cZ cY a0 a1 a1_rows a1_takes a2 a2_stack a2_letters a3 a3_lensSide a3_lensWidth a3_pairA a3_pairB a3_pairDelay n0 v0 v1 v2 v3) → va_S A s.heap H locs → lv_has ls 7 [(0, .ref a2), (1, .ref a0), (2, .ref a1), (3, .int x3)] → f_X6_run_b152 n0 v0 v1 v3 J27 x3 v2 = some res → W p l e rm_X6_run s m args below meth c H locs 0 0 Q (F0 m 152 ls []) := by
    intro J27 hJ27 x3 v2 H locs ls hP hD hS hl hg
    unfold f_X6_run_b152 at hg
    obtain ⟨x3_1, ex3_1⟩ : ∃ z : Int32, z = x3 + 1 := ⟨_, rfl⟩
    have hg := g_lte hg x3_1 ex3_1
    refine lv_iinc (v := x3_1) (lv' := [(3, .int x3_1), (0, .ref a2), (1, .ref a0), (2, .ref a1)]) hx hb dX6_run_152 hl (k := 3) rfl (by rw [ex3_1]; rfl) (by decide) rfl (fun ls hl => ?_)
    refine lv_goto (tgt := 27) hx hb dX6_run_155 (by decide) ?_
    exact hJ27 x3_1 v2 H locs ls hP hD hS (lv_sub hl [1, 2, 3, 0] rfl) hg
  have b_103 : ∀ (J27 : (Int32 × BX6) → Option (BX6)) (hJ27 : ∀ (x3 : Int32) (v2 : BX6) (H : Heap) (locs : List Loc) (ls : Array Slot), va_P D vwCl (WS_X6_run cI cJ cZ cY a0 a1 a1_rows a1_takes a2 a2_stack a2_letters a3 a3_lensSide a3_lensWidth a3_pairA a3_pairB a3_pairDelay n0 v0 v1 v2 v3) H → va_D A (WS_X6_run cI cJ cZ cY a0 a1 a1_rows a1_takes a2 a2_stack a2_letters a3 a3_lensSide a3_lensWidth a3_pairA a3_pairB a3_pairDelay n0 v0 v1 v2 v3) → va_S A s.heap H locs → lv_has ls 7 [(0, .ref a2), (1, .ref a0), (2, .ref a1), (3, .int x3)] → J27 (x3, v2) = some res → W p l e rm_X6_run s m args below meth c H locs 0 0 Q (F0 m 27 ls [])), ∀ (x3 : Int32) (t1 : Int64) (v2 : BX6) (H : Heap) (locs : List Loc) (ls : Array Slot), va_P D vwCl (WS_X6_run cI cJ cZ cY a0 a1 a1_rows a1_takes a2 a2_stack a2_letters a3 a3_lensSide a3_lensWidth a3_pairA a3_pairB a3_pairDelay n0 v0 v1 v2 v3) H → va_D A (WS_X6_run cI cJ cZ cY a0 a1 a1_rows a1_takes a2 a2_stack a2_letters a3 a3_lensSide a3_lensWidth a3_pairA a3_pairB a3_pairDelay n0 v0 v1 v2 v3) → va_S A s.heap H locs → lv_has ls 7 [(0, .ref a2), (1, .ref a0), (2, .ref a1), (3, .int x3)] → f_X6_run_b103 n0 v0 v1 v3 J27 x3 t1 v2 = some res → W p l e rm_X6_run s m args below meth c H locs 0 0 Q (F0 m 103 ls [.long t1, .ref a2]) := by
    intro J27 hJ27 x3 t1 v2 H locs ls hP hD hS hl hg
    unfold f_X6_run_b103 at hg
    obtain ⟨r_2, hr_2, hg⟩ := g_bd hg
    refine cc_v (va_runV (C := RX6) (As := [.long t1]) (rest := []) ⟨hx, hb, hml, hown, htb⟩ (k_X6_push a2 a2_stack a2_letters a3 v2 t1 r_2 hr_2) (cw_V 1 htb tg_789 tg_10 tg_786 tg_788 ts_24 rfl rfl (by decide +kernel) ⟨Nat.le_of_ble_eq_true rfl, Nat.le_of_ble_eq_true rfl⟩) ⟨PC.blind, va_recv hK.1 hP (ci := 5) (q0 := 4) rfl rfl, PC.pre hK hT hP hD hS hA [4, 5, 6] rfl (by decide)⟩ rfl rfl hl.1 rfl (lv_room (Nat.le_of_ble_eq_true rfl)) dX6_run_103 ⟨Nat.le_of_ble_eq_true rfl, Nat.le_of_ble_eq_true rfl⟩) hP hD hS hA [4, 5, 6] [0, 1, 2, 3, 7, 8, 9, 10, 11, 12] rfl rfl (by decide) (by decide) (fun u9 H locs hw hP hD hS => ?_)
    have hw := hw.symm
    subst hw
    have hP : va_P D vwCl (WS_X6_run cI cJ cZ cY a0 a1 a1_rows a1_takes a2 a2_stack a2_letters a3 a3_lensSide a3_lensWidth a3_pairA a3_pairB a3_pairDelay n0 v0 v1 r_2 v3) H := hP.sub [0, 1, 2, 3, 10, 11, 12, 4, 5, 6, 7, 8, 9] rfl
    have hD : va_D A (WS_X6_run cI cJ cZ cY a0 a1 a1_rows a1_takes a2 a2_stack a2_letters a3 a3_lensSide a3_lensWidth a3_pairA a3_pairB a3_pairDelay n0 v0 v1 r_2 v3) := hD.sub [0, 1, 2, 3, 10, 11, 12, 4, 5, 6, 7, 8, 9] (by decide) rfl
    refine lv_goto (tgt := 152) hx hb dX6_run_106 (by decide) ?_
    exact b_152 J27 hJ27 x3 r_2 H locs ls hP hD hS (lv_sub hl [0, 1, 2, 3] rfl) hg
  have b_27 : ∀ (n : Nat), ∀ (x3 : Int32) (v2 : BX6) (H : Heap) (locs : List Loc) (ls : Array Slot), va_P D vwCl (WS_X6_run cI cJ cZ cY a0 a1 a1_rows a1_takes a2 a2_stack a2_letters a3 a3_lensSide a3_lensWidth a3_pairA a3_pairB a3_pairDelay n0 v0 v1 v2 v3) H → va_D A (WS_X6_run cI cJ cZ cY a0 a1 a1_rows a1_takes a2 a2_stack a2_letters a3 a3_lensSide a3_lensWidth a3_pairA a3_pairB a3_pairDelay n0 v0 v1 v2 v3) → va_S A s.heap H locs → lv_has ls 7 [(0, .ref a2), (1, .ref a0), (2, .ref a1), (3, .int x3)] → f_X6_run_b27 n0 v0 v1 v3 n (x3, v2) = some res → W p l e rm_X6_run s m args below meth c H locs 0 0 Q (F0 m 27 ls []) := by
    intro n
    induction n with
    | zero =>
      intro x3 v2 H locs ls hP hD hS hl hg
      exact (g_lp0 hg).elim
    | succ n ih =>
      intro x3 v2 H locs ls hP hD hS hl hg
      have hg : f_X6_run_b27B n0 v0 v1 v3 (f_X6_run_b27 n0 v0 v1 v3 n) x3 v2 = some res := hg
      unfold f_X6_run_b27B at hg
      refine lv_iload_n hx hb dX6_run_27 rfl (lv_at hl 3 rfl) ?_
      refine lv_aload_n hx hb dX6_run_28 rfl (lv_at hl 1 rfl) ?_
      refine va_alen (v := (Int32.ofNat n0)) hx hb hK.1 hP 0 0 rfl rfl rfl dX6_run_29 ?_
      refine lv_icmp_ge (tgt := 158) hx hb dX6_run_30 (by decide) (fun c_3 => ?_) (fun c_3 => ?_)
      · have hg := g_it hg c_3
        have hg := Option.some.inj hg
        rw [hQ]
        exact W.vret hx hb hr (fun t ht hW => ⟨⟨(v2), rfl, hg, by rw [ht]; exact hP, hD⟩, hS.F ht⟩) hS.2.2 dX6_run_158
      · have hg := g_if hg c_3
        refine lv_aload_n hx hb dX6_run_33 rfl (lv_at hl 1 rfl) ?_
        refine lv_iload_n hx hb dX6_run_34 rfl (lv_at hl 3 rfl) ?_
        obtain ⟨h_4, hg⟩ := g_gde hg
        refine va_iald hx hb hK.1 hP 0 0 rfl rfl (inB_vp h_4) dX6_run_35 ?_
        refine lv_bipush (v := 31) hx hb dX6_run_36 (by decide) ?_
        refine lv_iand hx hb dX6_run_38 ?_
        refine lv_topi (fun x4_5 ex4_5 => ?_)
        have hg := g_lte hg x4_5 ex4_5
        refine lv_istore (lv' := [(4, .int x4_5), (0, .ref a2), (1, .ref a0), (2, .ref a1), (3, .int x3)]) hx hb dX6_run_39 hl (by decide) rfl (fun ls hl => ?_)
        refine lv_aload_n hx hb dX6_run_41 rfl (lv_at hl 2 rfl) ?_
        refine lv_iload_n hx hb dX6_run_42 rfl (lv_at hl 4 rfl) ?_
        obtain ⟨h_6, hg⟩ := g_gde hg
        refine va_iald hx hb hK.1 hP 0 0 rfl rfl (inB_vp h_6) dX6_run_43 ?_
        refine lv_iconst (v := 5) hx hb dX6_run_44 (by decide) ?_
        refine lv_ishr hx hb dX6_run_45 ?_
        refine lv_topi (fun x5_7 ex5_7 => ?_)
        have hg := g_lte hg x5_7 ex5_7
        refine lv_istore (lv' := [(5, .int x5_7), (4, .int x4_5), (0, .ref a2), (1, .ref a0), (2, .ref a1), (3, .int x3)]) hx hb dX6_run_46 hl (by decide) rfl (fun ls hl => ?_)
        refine lv_iload hx hb dX6_run_48 (lv_at hl 1 rfl) ?_
        refine lv_iconst (v := 4) hx hb dX6_run_50 (by decide) ?_
        refine lv_icmp_gt (tgt := 71) hx hb dX6_run_51 (by decide) (fun c_8 => ?_) (fun c_8 => ?_)
        · have hg := g_it hg c_8
          refine lv_iload hx hb dX6_run_71 (lv_at hl 1 rfl) ?_
          refine lv_bipush (v := 6) hx hb dX6_run_73 (by decide) ?_
          refine lv_icmp_gt (tgt := 109) hx hb dX6_run_75 (by decide) (fun c_9 => ?_) (fun c_9 => ?_)
          · have hg := g_it hg c_9
            refine lv_iload hx hb dX6_run_109 (lv_at hl 1 rfl) ?_
            refine lv_bipush (v := 20) hx hb dX6_run_111 (by decide) ?_
            refine lv_icmp_gt (tgt := 140) hx hb dX6_run_113 (by decide) (fun c_10 => ?_) (fun c_10 => ?_)
            · have hg := g_it hg c_10
              refine lv_aload_n hx hb dX6_run_140 rfl (lv_at hl 2 rfl) ?_
              refine lv_iload hx hb dX6_run_141 (lv_at hl 1 rfl) ?_
              refine lv_iload hx hb dX6_run_143 (lv_at hl 0 rfl) ?_
              refine lv_aload_n hx hb dX6_run_145 rfl (lv_at hl 2 rfl) ?_
              obtain ⟨r_11, hr_11, hg⟩ := g_bd hg
              refine cc_i (va_runV (C := RX6) (As := []) (rest := [.int x5_7, .int x4_5, .ref a2]) ⟨hx, hb, hml, hown, htb⟩ (k_X6_pop a2 a2_stack a2_letters a3 v2 r_11 hr_11) (cw_V 0 htb tg_797 tg_10 tg_794 tg_796 ts_26 rfl rfl (by decide +kernel) ⟨Nat.le_of_ble_eq_true rfl, Nat.le_of_ble_eq_true rfl⟩) ⟨PC.blind, va_recv hK.1 hP (ci := 5) (q0 := 4) rfl rfl, PC.pre hK hT hP hD hS hA [4, 5, 6] rfl (by decide)⟩ rfl rfl hl.1 rfl (lv_room (Nat.le_of_ble_eq_true rfl)) dX6_run_146 ⟨Nat.le_of_ble_eq_true rfl, Nat.le_of_ble_eq_true rfl⟩) hP hD hS hA [4, 5, 6] [0, 1, 2, 3, 7, 8, 9, 10, 11, 12] rfl rfl (by decide) (by decide) (fun r9 u9 H locs hw hP hD hS => ?_)
              obtain ⟨rfl, rfl⟩ := hw
              have hP : va_P D vwCl (WS_X6_run cI cJ cZ cY a0 a1 a1_rows a1_takes a2 a2_stack a2_letters a3 a3_lensSide a3_lensWidth a3_pairA a3_pairB a3_pairDelay n0 v0 v1 r_11.2 v3) H := hP.sub [0, 1, 2, 3, 10, 11, 12, 4, 5, 6, 7, 8, 9] rfl
              have hD : va_D A (WS_X6_run cI cJ cZ cY a0 a1 a1_rows a1_takes a2 a2_stack a2_letters a3 a3_lensSide a3_lensWidth a3_pairA a3_pairB a3_pairDelay n0 v0 v1 r_11.2 v3) := hD.sub [0, 1, 2, 3, 10, 11, 12, 4, 5, 6, 7, 8, 9] (by decide) rfl
              obtain ⟨r_12, hr_12, hg⟩ := g_bd hg
              refine cc_v (va_runV (C := RX6) (As := [.int x4_5, .int x5_7, .int r_11.1]) (rest := []) ⟨hx, hb, hml, hown, htb⟩ (k_X6_finish a2 a2_stack a2_letters a3 r_11.2 x4_5 x5_7 r_11.1 r_12 hr_12) (cw_V 3 htb tg_809 tg_10 tg_806 tg_808 ts_27 rfl rfl (by decide +kernel) ⟨Nat.le_of_ble_eq_true rfl, Nat.le_of_ble_eq_true rfl⟩) ⟨PC.blind, va_recv hK.1 hP (ci := 5) (q0 := 4) rfl rfl, PC.pre hK hT hP hD hS hA [4, 5, 6] rfl (by decide)⟩ rfl rfl hl.1 rfl (lv_room (Nat.le_of_ble_eq_true rfl)) dX6_run_149 ⟨Nat.le_of_ble_eq_true rfl, Nat.le_of_ble_eq_true rfl⟩) hP hD hS hA [4, 5, 6] [0, 1, 2, 3, 7, 8, 9, 10, 11, 12] rfl rfl (by decide) (by decide) (fun u9 H locs hw hP hD hS => ?_)
              have hw := hw.symm
              subst hw
              have hP : va_P D vwCl (WS_X6_run cI cJ cZ cY a0 a1 a1_rows a1_takes a2 a2_stack a2_letters a3 a3_lensSide a3_lensWidth a3_pairA a3_pairB a3_pairDelay n0 v0 v1 r_12 v3) H := hP.sub [0, 1, 2, 3, 10, 11, 12, 4, 5, 6, 7, 8, 9] rfl
              have hD : va_D A (WS_X6_run cI cJ cZ cY a0 a1 a1_rows a1_takes a2 a2_stack a2_letters a3 a3_lensSide a3_lensWidth a3_pairA a3_pairB a3_pairDelay n0 v0 v1 r_12 v3) := hD.sub [0, 1, 2, 3, 10, 11, 12, 4, 5, 6, 7, 8, 9] (by decide) rfl
              exact b_152 (f_X6_run_b27 n0 v0 v1 v3 n) ih x3 r_12 H locs ls hP hD hS (lv_sub hl [2, 3, 4, 5] rfl) hg
            · have hg := g_if hg c_10
              refine lv_aload_n hx hb dX6_run_116 rfl (lv_at hl 2 rfl) ?_
              obtain ⟨r_13, hr_13, hg⟩ := g_bd hg
              refine cc_i (va_runV (C := RX6) (As := []) (rest := []) ⟨hx, hb, hml, hown, htb⟩ (k_X6_pop a2 a2_stack a2_letters a3 v2 r_13 hr_13) (cw_V 0 htb tg_797 tg_10 tg_794 tg_796 ts_26 rfl rfl (by decide +kernel) ⟨Nat.le_of_ble_eq_true rfl, Nat.le_of_ble_eq_true rfl⟩) ⟨PC.blind, va_recv hK.1 hP (ci := 5) (q0 := 4) rfl rfl, PC.pre hK hT hP hD hS hA [4, 5, 6] rfl (by decide)⟩ rfl rfl hl.1 rfl (lv_room (Nat.le_of_ble_eq_true rfl)) dX6_run_117 ⟨Nat.le_of_ble_eq_true rfl, Nat.le_of_ble_eq_true rfl⟩) hP hD hS hA [4, 5, 6] [0, 1, 2, 3, 7, 8, 9, 10, 11, 12] rfl rfl (by decide) (by decide) (fun r9 u9 H locs hw hP hD hS => ?_)
              obtain ⟨rfl, rfl⟩ := hw
              have hP : va_P D vwCl (WS_X6_run cI cJ cZ cY a0 a1 a1_rows a1_takes a2 a2_stack a2_letters a3 a3_lensSide a3_lensWidth a3_pairA a3_pairB a3_pairDelay n0 v0 v1 r_13.2 v3) H := hP.sub [0, 1, 2, 3, 10, 11, 12, 4, 5, 6, 7, 8, 9] rfl
              have hD : va_D A (WS_X6_run cI cJ cZ cY a0 a1 a1_rows a1_takes a2 a2_stack a2_letters a3 a3_lensSide a3_lensWidth a3_pairA a3_pairB a3_pairDelay n0 v0 v1 r_13.2 v3) := hD.sub [0, 1, 2, 3, 10, 11, 12, 4, 5, 6, 7, 8, 9] (by decide) rfl
              refine lv_istore (lv' := [(6, .int r_13.1), (5, .int x5_7), (4, .int x4_5), (0, .ref a2), (1, .ref a0), (2, .ref a1), (3, .int x3)]) hx hb dX6_run_120 hl (by decide) rfl (fun ls hl => ?_)
              refine lv_aload_n hx hb dX6_run_122 rfl (lv_at hl 3 rfl) ?_
              refine lv_iload hx hb dX6_run_123 (lv_at hl 2 rfl) ?_
              refine lv_aload_n hx hb dX6_run_125 rfl (lv_at hl 3 rfl) ?_
              obtain ⟨r_14, hr_14, hg⟩ := g_bd hg
              refine cc_i (va_runV (C := RX6) (As := []) (rest := [.int x4_5, .ref a2]) ⟨hx, hb, hml, hown, htb⟩ (k_X6_pop a2 a2_stack a2_letters a3 r_13.2 r_14 hr_14) (cw_V 0 htb tg_797 tg_10 tg_794 tg_796 ts_26 rfl rfl (by decide +kernel) ⟨Nat.le_of_ble_eq_true rfl, Nat.le_of_ble_eq_true rfl⟩) ⟨PC.blind, va_recv hK.1 hP (ci := 5) (q0 := 4) rfl rfl, PC.pre hK hT hP hD hS hA [4, 5, 6] rfl (by decide)⟩ rfl rfl hl.1 rfl (lv_room (Nat.le_of_ble_eq_true rfl)) dX6_run_126 ⟨Nat.le_of_ble_eq_true rfl, Nat.le_of_ble_eq_true rfl⟩) hP hD hS hA [4, 5, 6] [0, 1, 2, 3, 7, 8, 9, 10, 11, 12] rfl rfl (by decide) (by decide) (fun r9 u9 H locs hw hP hD hS => ?_)
              obtain ⟨rfl, rfl⟩ := hw
              have hP : va_P D vwCl (WS_X6_run cI cJ cZ cY a0 a1 a1_rows a1_takes a2 a2_stack a2_letters a3 a3_lensSide a3_lensWidth a3_pairA a3_pairB a3_pairDelay n0 v0 v1 r_14.2 v3) H := hP.sub [0, 1, 2, 3, 10, 11, 12, 4, 5, 6, 7, 8, 9] rfl
              have hD : va_D A (WS_X6_run cI cJ cZ cY a0 a1 a1_rows a1_takes a2 a2_stack a2_letters a3 a3_lensSide a3_lensWidth a3_pairA a3_pairB a3_pairDelay n0 v0 v1 r_14.2 v3) := hD.sub [0, 1, 2, 3, 10, 11, 12, 4, 5, 6, 7, 8, 9] (by decide) rfl
              refine lv_iload hx hb dX6_run_129 (lv_at hl 0 rfl) ?_
              obtain ⟨r_15, hr_15, hg⟩ := g_bd hg
              refine cc_l (va_runS (As := [.int x4_5, .int r_14.1, .int r_13.1]) (rest := [.ref a2]) ⟨hx, hb, hml, hown, htb⟩ (k_X6_joined x4_5 r_14.1 r_13.1 r_15 hr_15) (cw_S 3 htb tg_800 tg_10 tg_798 tg_799 rfl rfl (by decide +kernel) ⟨Nat.le_of_ble_eq_true rfl, Nat.le_of_ble_eq_true rfl⟩) ⟨PC.blind, PC.pre hK hT hP hD hS hA [] rfl (by decide)⟩ rfl rfl hl.1 rfl (lv_room (Nat.le_of_ble_eq_true rfl)) dX6_run_131 ⟨Nat.le_of_ble_eq_true rfl, Nat.le_of_ble_eq_true rfl⟩) hP hD hS hA [] [0, 1, 2, 3, 4, 5, 6, 7, 8, 9, 10, 11, 12] rfl rfl (by decide) (by decide) (fun r9 u9 H locs hw hP hD hS => ?_)
              have hw := hw.symm
              subst hw
              have hP : va_P D vwCl (WS_X6_run cI cJ cZ cY a0 a1 a1_rows a1_takes a2 a2_stack a2_letters a3 a3_lensSide a3_lensWidth a3_pairA a3_pairB a3_pairDelay n0 v0 v1 r_14.2 v3) H := hP.sub [0, 1, 2, 3, 4, 5, 6, 7, 8, 9, 10, 11, 12] rfl
              have hD : va_D A (WS_X6_run cI cJ cZ cY a0 a1 a1_rows a1_takes a2 a2_stack a2_letters a3 a3_lensSide a3_lensWidth a3_pairA a3_pairB a3_pairDelay n0 v0 v1 r_14.2 v3) := hD.sub [0, 1, 2, 3, 4, 5, 6, 7, 8, 9, 10, 11, 12] (by decide) rfl
              obtain ⟨r_16, hr_16, hg⟩ := g_bd hg
              refine cc_v (va_runV (C := RX6) (As := [.long r_15]) (rest := []) ⟨hx, hb, hml, hown, htb⟩ (k_X6_push a2 a2_stack a2_letters a3 r_14.2 r_15 r_16 hr_16) (cw_V 1 htb tg_789 tg_10 tg_786 tg_788 ts_24 rfl rfl (by decide +kernel) ⟨Nat.le_of_ble_eq_true rfl, Nat.le_of_ble_eq_true rfl⟩) ⟨PC.blind, va_recv hK.1 hP (ci := 5) (q0 := 4) rfl rfl, PC.pre hK hT hP hD hS hA [4, 5, 6] rfl (by decide)⟩ rfl rfl hl.1 rfl (lv_room (Nat.le_of_ble_eq_true rfl)) dX6_run_134 ⟨Nat.le_of_ble_eq_true rfl, Nat.le_of_ble_eq_true rfl⟩) hP hD hS hA [4, 5, 6] [0, 1, 2, 3, 7, 8, 9, 10, 11, 12] rfl rfl (by decide) (by decide) (fun u9 H locs hw hP hD hS => ?_)
              have hw := hw.symm
              subst hw
              have hP : va_P D vwCl (WS_X6_run cI cJ cZ cY a0 a1 a1_rows a1_takes a2 a2_stack a2_letters a3 a3_lensSide a3_lensWidth a3_pairA a3_pairB a3_pairDelay n0 v0 v1 r_16 v3) H := hP.sub [0, 1, 2, 3, 10, 11, 12, 4, 5, 6, 7, 8, 9] rfl
              have hD : va_D A (WS_X6_run cI cJ cZ cY a0 a1 a1_rows a1_takes a2 a2_stack a2_letters a3 a3_lensSide a3_lensWidth a3_pairA a3_pairB a3_pairDelay n0 v0 v1 r_16 v3) := hD.sub [0, 1, 2, 3, 10, 11, 12, 4, 5, 6, 7, 8, 9] (by decide) rfl
              refine lv_goto (tgt := 152) hx hb dX6_run_137 (by decide) ?_
              exact b_152 (f_X6_run_b27 n0 v0 v1 v3 n) ih x3 r_16 H locs ls hP hD hS (lv_sub hl [3, 4, 5, 6] rfl) hg
          · have hg := g_if hg c_9
            refine lv_aload_n hx hb dX6_run_78 rfl (lv_at hl 2 rfl) ?_
            obtain ⟨r_17, hr_17, hg⟩ := g_bd hg
            refine cc_i (va_runV (C := RX6) (As := []) (rest := []) ⟨hx, hb, hml, hown, htb⟩ (k_X6_pop a2 a2_stack a2_letters a3 v2 r_17 hr_17) (cw_V 0 htb tg_797 tg_10 tg_794 tg_796 ts_26 rfl rfl (by decide +kernel) ⟨Nat.le_of_ble_eq_true rfl, Nat.le_of_ble_eq_true rfl⟩) ⟨PC.blind, va_recv hK.1 hP (ci := 5) (q0 := 4) rfl rfl, PC.pre hK hT hP hD hS hA [4, 5, 6] rfl (by decide)⟩ rfl rfl hl.1 rfl (lv_room (Nat.le_of_ble_eq_true rfl)) dX6_run_79 ⟨Nat.le_of_ble_eq_true rfl, Nat.le_of_ble_eq_true rfl⟩) hP hD hS hA [4, 5, 6] [0, 1, 2, 3, 7, 8, 9, 10, 11, 12] rfl rfl (by decide) (by decide) (fun r9 u9 H locs hw hP hD hS => ?_)
            obtain ⟨rfl, rfl⟩ := hw
            have hP : va_P D vwCl (WS_X6_run cI cJ cZ cY a0 a1 a1_rows a1_takes a2 a2_stack a2_letters a3 a3_lensSide a3_lensWidth a3_pairA a3_pairB a3_pairDelay n0 v0 v1 r_17.2 v3) H := hP.sub [0, 1, 2, 3, 10, 11, 12, 4, 5, 6, 7, 8, 9] rfl
            have hD : va_D A (WS_X6_run cI cJ cZ cY a0 a1 a1_rows a1_takes a2 a2_stack a2_letters a3 a3_lensSide a3_lensWidth a3_pairA a3_pairB a3_pairDelay n0 v0 v1 r_17.2 v3) := hD.sub [0, 1, 2, 3, 10, 11, 12, 4, 5, 6, 7, 8, 9] (by decide) rfl
            refine lv_istore (lv' := [(6, .int r_17.1), (5, .int x5_7), (4, .int x4_5), (0, .ref a2), (1, .ref a0), (2, .ref a1), (3, .int x3)]) hx hb dX6_run_82 hl (by decide) rfl (fun ls hl => ?_)
            refine lv_aload_n hx hb dX6_run_84 rfl (lv_at hl 3 rfl) ?_
            refine lv_iload hx hb dX6_run_85 (lv_at hl 2 rfl) ?_
            refine lv_iconst (v := 5) hx hb dX6_run_87 (by decide) ?_
            refine lv_icmp_ne (tgt := 98) hx hb dX6_run_88 (by decide) (fun c_18 => ?_) (fun c_18 => ?_)
            · have hg := g_if hg c_18
              refine lv_iconst (v := 1) hx hb dX6_run_98 (by decide) ?_
              refine lv_iload hx hb dX6_run_99 (lv_at hl 0 rfl) ?_
              refine lv_isub hx hb dX6_run_101 ?_
              refine lv_i2l (v := (((1 : Int32) - r_17.1) : Int32).toInt64) hx hb dX6_run_102 rfl ?_
              exact b_103 (f_X6_run_b27 n0 v0 v1 v3 n) ih x3 ((((1 : Int32) - r_17.1) : Int32).toInt64) r_17.2 H locs ls hP hD hS (lv_sub hl [3, 4, 5, 6] rfl) hg
            · have hg := g_it hg c_18
              refine lv_iload hx hb dX6_run_91 (lv_at hl 0 rfl) ?_
              refine lv_i2l (v := (r_17.1 : Int32).toInt64) hx hb dX6_run_93 rfl ?_
              refine lv_lneg hx hb dX6_run_94 ?_
              refine lv_goto (tgt := 103) hx hb dX6_run_95 (by decide) ?_
              exact b_103 (f_X6_run_b27 n0 v0 v1 v3 n) ih x3 (-((r_17.1 : Int32).toInt64)) r_17.2 H locs ls hP hD hS (lv_sub hl [3, 4, 5, 6] rfl) hg
        · have hg := g_if hg c_8
          refine lv_aload_n hx hb dX6_run_54 rfl (lv_at hl 2 rfl) ?_
          refine lv_aload_n hx hb dX6_run_55 rfl (lv_at hl 2 rfl) ?_
          refine lv_iload hx hb dX6_run_56 (lv_at hl 1 rfl) ?_
          refine lv_iload hx hb dX6_run_58 (lv_at hl 0 rfl) ?_
          refine lv_aload_n hx hb dX6_run_60 rfl (lv_at hl 4 rfl) ?_
          obtain ⟨r_19, hr_19, hg⟩ := g_bd hg
          refine cc_i (va_runV (C := RX6) (As := [.int x4_5, .int x5_7, .ref a1]) (rest := [.ref a2]) ⟨hx, hb, hml, hown, htb⟩ (k_X6_brought a1 a1_rows a1_takes a2 a2_stack a2_letters a3 a3_lensSide a3_lensWidth a3_pairA a3_pairB a3_pairDelay v1 v2 v3 x4_5 x5_7 r_19 hr_19) (cw_V 3 htb tg_774 tg_10 tg_771 tg_773 ts_23 rfl rfl (by decide +kernel) ⟨Nat.le_of_ble_eq_true rfl, Nat.le_of_ble_eq_true rfl⟩) ⟨PC.blind, va_recv hK.1 hP (ci := 5) (q0 := 4) rfl rfl, PC.pre hK hT hP hD hS hA [1, 2, 3, 4, 5, 6, 7, 8, 9, 10, 11, 12] rfl (by decide)⟩ rfl rfl hl.1 rfl (lv_room (Nat.le_of_ble_eq_true rfl)) dX6_run_61 ⟨Nat.le_of_ble_eq_true rfl, Nat.le_of_ble_eq_true rfl⟩) hP hD hS hA [1, 2, 3, 4, 5, 6, 7, 8, 9, 10, 11, 12] [0] rfl rfl (by decide) (by decide) (fun r9 u9 H locs hw hP hD hS => ?_)
          have hw := hw.symm
          subst hw
          have hP : va_P D vwCl (WS_X6_run cI cJ cZ cY a0 a1 a1_rows a1_takes a2 a2_stack a2_letters a3 a3_lensSide a3_lensWidth a3_pairA a3_pairB a3_pairDelay n0 v0 v1 v2 v3) H := hP.sub [0, 1, 2, 3, 4, 5, 6, 7, 8, 9, 10, 11, 12] rfl
          have hD : va_D A (WS_X6_run cI cJ cZ cY a0 a1 a1_rows a1_takes a2 a2_stack a2_letters a3 a3_lensSide a3_lensWidth a3_pairA a3_pairB a3_pairDelay n0 v0 v1 v2 v3) := hD.sub [0, 1, 2, 3, 4, 5, 6, 7, 8, 9, 10, 11, 12] (by decide) rfl
          refine lv_i2l (v := (r_19 : Int32).toInt64) hx hb dX6_run_64 rfl ?_
          obtain ⟨r_20, hr_20, hg⟩ := g_bd hg
          refine cc_v (va_runV (C := RX6) (As := [.long ((r_19 : Int32).toInt64)]) (rest := []) ⟨hx, hb, hml, hown, htb⟩ (k_X6_push a2 a2_stack a2_letters a3 v2 ((r_19 : Int32).toInt64) r_20 hr_20) (cw_V 1 htb tg_789 tg_10 tg_786 tg_788 ts_24 rfl rfl (by decide +kernel) ⟨Nat.le_of_ble_eq_true rfl, Nat.le_of_ble_eq_true rfl⟩) ⟨PC.blind, va_recv hK.1 hP (ci := 5) (q0 := 4) rfl rfl, PC.pre hK hT hP hD hS hA [4, 5, 6] rfl (by decide)⟩ rfl rfl hl.1 rfl (lv_room (Nat.le_of_ble_eq_true rfl)) dX6_run_65 ⟨Nat.le_of_ble_eq_true rfl, Nat.le_of_ble_eq_true rfl⟩) hP hD hS hA [4, 5, 6] [0, 1, 2, 3, 7, 8, 9, 10, 11, 12] rfl rfl (by decide) (by decide) (fun u9 H locs hw hP hD hS => ?_)
          have hw := hw.symm
          subst hw
          have hP : va_P D vwCl (WS_X6_run cI cJ cZ cY a0 a1 a1_rows a1_takes a2 a2_stack a2_letters a3 a3_lensSide a3_lensWidth a3_pairA a3_pairB a3_pairDelay n0 v0 v1 r_20 v3) H := hP.sub [0, 1, 2, 3, 10, 11, 12, 4, 5, 6, 7, 8, 9] rfl
          have hD : va_D A (WS_X6_run cI cJ cZ cY a0 a1 a1_rows a1_takes a2 a2_stack a2_letters a3 a3_lensSide a3_lensWidth a3_pairA a3_pairB a3_pairDelay n0 v0 v1 r_20 v3) := hD.sub [0, 1, 2, 3, 10, 11, 12, 4, 5, 6, 7, 8, 9] (by decide) rfl
          refine lv_goto (tgt := 152) hx hb dX6_run_68 (by decide) ?_
          exact b_152 (f_X6_run_b27 n0 v0 v1 v3 n) ih x3 r_20 H locs ls hP hD hS (lv_sub hl [2, 3, 4, 5] rfl) hg
  generalize hHe : s.heap = H at hP ⊢
  have hS : va_S A s.heap H [] := by rw [← hHe]; exact va_S.rf
  generalize ([] : List Loc) = locs at hS ⊢
  unfold f_X6_run at hg
  refine lv_aload_n hx hb dX6_run_0 rfl (lv_at hl 0 rfl) ?_
  refine lv_iconst (v := 0) hx hb dX6_run_1 (by decide) ?_
  refine va_put (ci := 5) (v := .int 0) (ty := .int) (C := RX6) (T := TX6) (N := 9) hx hb htb uX6 tyX6 tyX6_ok nmX6 hown hK.1 hP hD hS 4 rfl rfl 3 (by decide) (htb _ tg_300) (fun _ h9 => h9) rfl (by decide +kernel) rfl rfl (Nat.le_of_ble_eq_true rfl) dX6_run_2 (fun H locs hP hD hS => ?_)
  obtain ⟨v2_21, ev2_21⟩ : ∃ z, z = sX6_top v2 0 := ⟨_, rfl⟩
  have hP : va_P D vwCl (WS_X6_run cI cJ cZ cY a0 a1 a1_rows a1_takes a2 a2_stack a2_letters a3 a3_lensSide a3_lensWidth a3_pairA a3_pairB a3_pairDelay n0 v0 v1 v2_21 v3) H := by rw [ev2_21]; exact hP
  have hD : va_D A (WS_X6_run cI cJ cZ cY a0 a1 a1_rows a1_takes a2 a2_stack a2_letters a3 a3_lensSide a3_lensWidth a3_pairA a3_pairB a3_pairDelay n0 v0 v1 v2_21 v3) := by rw [ev2_21]; exact hD
  have hg := g_lte hg v2_21 ev2_21
  refine lv_aload_n hx hb dX6_run_5 rfl (lv_at hl 0 rfl) ?_
  refine lv_iconst (v := 0) hx hb dX6_run_6 (by decide) ?_
  refine va_put (ci := 5) (v := .int 0) (ty := .int) (C := RX6) (T := TX6) (N := 9) hx hb htb uX6 tyX6 tyX6_ok nmX6 hown hK.1 hP hD hS 4 rfl rfl 5 (by decide) (htb _ tg_303) (fun _ h9 => h9) rfl (by decide +kernel) rfl rfl (Nat.le_of_ble_eq_true rfl) dX6_run_7 (fun H locs hP hD hS => ?_)
  obtain ⟨v2_22, ev2_22⟩ : ∃ z, z = sX6_over v2_21 0 := ⟨_, rfl⟩
  have hP : va_P D vwCl (WS_X6_run cI cJ cZ cY a0 a1 a1_rows a1_takes a2 a2_stack a2_letters a3 a3_lensSide a3_lensWidth a3_pairA a3_pairB a3_pairDelay n0 v0 v1 v2_22 v3) H := by rw [ev2_22]; exact hP
  have hD : va_D A (WS_X6_run cI cJ cZ cY a0 a1 a1_rows a1_takes a2 a2_stack a2_letters a3 a3_lensSide a3_lensWidth a3_pairA a3_pairB a3_pairDelay n0 v0 v1 v2_22 v3) := by rw [ev2_22]; exact hD
  have hg := g_lte hg v2_22 ev2_22
  refine lv_aload_n hx hb dX6_run_10 rfl (lv_at hl 0 rfl) ?_
  refine lv_iconst (v := 0) hx hb dX6_run_11 (by decide) ?_
  refine va_put (ci := 5) (v := .int 0) (ty := .int) (C := RX6) (T := TX6) (N := 9) hx hb htb uX6 tyX6 tyX6_ok nmX6 hown hK.1 hP hD hS 4 rfl rfl 6 (by decide) (htb _ tg_305) (fun _ h9 => h9) rfl (by decide +kernel) rfl rfl (Nat.le_of_ble_eq_true rfl) dX6_run_12 (fun H locs hP hD hS => ?_)
  obtain ⟨v2_23, ev2_23⟩ : ∃ z, z = sX6_turn v2_22 0 := ⟨_, rfl⟩
  have hP : va_P D vwCl (WS_X6_run cI cJ cZ cY a0 a1 a1_rows a1_takes a2 a2_stack a2_letters a3 a3_lensSide a3_lensWidth a3_pairA a3_pairB a3_pairDelay n0 v0 v1 v2_23 v3) H := by rw [ev2_23]; exact hP
  have hD : va_D A (WS_X6_run cI cJ cZ cY a0 a1 a1_rows a1_takes a2 a2_stack a2_letters a3 a3_lensSide a3_lensWidth a3_pairA a3_pairB a3_pairDelay n0 v0 v1 v2_23 v3) := by rw [ev2_23]; exact hD
  have hg := g_lte hg v2_23 ev2_23
  refine lv_aload_n hx hb dX6_run_15 rfl (lv_at hl 0 rfl) ?_
  refine lv_iconst (v := 0) hx hb dX6_run_16 (by decide) ?_
  refine va_put (ci := 5) (v := .int 0) (ty := .int) (C := RX6) (T := TX6) (N := 9) hx hb htb uX6 tyX6 tyX6_ok nmX6 hown hK.1 hP hD hS 4 rfl rfl 7 (by decide) (htb _ tg_307) (fun _ h9 => h9) rfl (by decide +kernel) rfl rfl (Nat.le_of_ble_eq_true rfl) dX6_run_17 (fun H locs hP hD hS => ?_)
  obtain ⟨v2_24, ev2_24⟩ : ∃ z, z = sX6_go v2_23 0 := ⟨_, rfl⟩
  have hP : va_P D vwCl (WS_X6_run cI cJ cZ cY a0 a1 a1_rows a1_takes a2 a2_stack a2_letters a3 a3_lensSide a3_lensWidth a3_pairA a3_pairB a3_pairDelay n0 v0 v1 v2_24 v3) H := by rw [ev2_24]; exact hP
  have hD : va_D A (WS_X6_run cI cJ cZ cY a0 a1 a1_rows a1_takes a2 a2_stack a2_letters a3 a3_lensSide a3_lensWidth a3_pairA a3_pairB a3_pairDelay n0 v0 v1 v2_24 v3) := by rw [ev2_24]; exact hD
  have hg := g_lte hg v2_24 ev2_24
  refine lv_aload_n hx hb dX6_run_20 rfl (lv_at hl 0 rfl) ?_
  refine lv_iconst (v := 0) hx hb dX6_run_21 (by decide) ?_
  refine va_put (ci := 5) (v := .int 0) (ty := .boolean) (C := RX6) (T := TX6) (N := 9) hx hb htb uX6 tyX6 tyX6_ok nmX6 hown hK.1 hP hD hS 4 rfl rfl 8 (by decide) (htb _ tg_309) (fun _ h9 => h9) rfl (by decide +kernel) rfl rfl (Nat.le_of_ble_eq_true rfl) dX6_run_22 (fun H locs hP hD hS => ?_)
  obtain ⟨v2_25, ev2_25⟩ : ∃ z, z = sX6_rests v2_24 0 := ⟨_, rfl⟩
  have hP : va_P D vwCl (WS_X6_run cI cJ cZ cY a0 a1 a1_rows a1_takes a2 a2_stack a2_letters a3 a3_lensSide a3_lensWidth a3_pairA a3_pairB a3_pairDelay n0 v0 v1 v2_25 v3) H := by rw [ev2_25]; exact hP
  have hD : va_D A (WS_X6_run cI cJ cZ cY a0 a1 a1_rows a1_takes a2 a2_stack a2_letters a3 a3_lensSide a3_lensWidth a3_pairA a3_pairB a3_pairDelay n0 v0 v1 v2_25 v3) := by rw [ev2_25]; exact hD
  have hg := g_lte hg v2_25 ev2_25
  refine lv_iconst (v := 0) hx hb dX6_run_25 (by decide) ?_
  refine lv_istore_n (lv' := [(3, .int 0), (0, .ref a2), (1, .ref a0), (2, .ref a1)]) hx hb dX6_run_26 rfl hl (by decide) rfl (fun ls hl => ?_)
  exact b_27 fU 0 v2_25 H locs ls hP hD hS (lv_sub hl [1, 2, 3, 0] rfl) hg
