/-! ManyEyesModel.ray(IIIIZ)I -/
def WS_X12_ray (cI cJ cZ cY : ClassId) (a0 a0_a a0_image a0_texts a0_board a0_taken a0_fars a0_before a0_tape a0_pile a0_rows a0_told a0_values a0_truth a0_keeps : Nat) (v0 : BX12) : va_W := (GX12 cI cJ cZ cY a0 a0_a a0_image a0_texts a0_board a0_taken a0_fars a0_before a0_tape a0_pile a0_rows a0_told a0_values a0_truth a0_keeps v0)
def f_X12_ray (v0 : BX12) (p0 : Int32) (p1 : Int32) (p2 : Int32) (p3 : Int32) (p4 : Int32) : Option (Int32 × BX12) := (f_X12_isPlace v0 p0 p1).bind (fun r_1 => if (r_1 : Int32) = 0 then (some ((-1), v0)) else ((f_X12_isSide p2).bind (fun r_3 => if (r_3 : Int32) = 0 then (some ((-1), v0)) else ((f_X12_isTick p3).bind (fun r_5 => if (r_5 : Int32) = 0 then (some ((-1), v0)) else ((f_X12_lay v0 p3).bind (fun r_7 => (f_X12_shoot r_7 p0 p1 p2).bind (fun r_8 => if (p4 : Int32) = 0 then (g_gd (inB p2 64) (some (((pX12_taken r_8) (p2 : Int32).toNatClampNeg), r_8))) else (g_gd (inB p2 64) (some (((pX12_fars r_8) (p2 : Int32).toNatClampNeg), r_8)))))))))))
abbrev rm_X12_ray : Room := { frames := 3, cells := 0, slots := 0, locals := 68 }
set_option maxHeartbeats 4000000 in
set_option maxRecDepth 100000 in
theorem k_X12_ray {l : Launch} {D : va_G} {cI cJ cZ cY : ClassId} {tX tY : Nat} {sz : Nat} (a0 a0_a a0_image a0_texts a0_board a0_taken a0_fars a0_before a0_tape a0_pile a0_rows a0_told a0_values a0_truth a0_keeps : Nat) (v0 : BX12) (p0 : Int32) (p1 : Int32) (p2 : Int32) (p3 : Int32) (p4 : Int32) (res : Int32 × BX12) (hg : f_X12_ray v0 p0 p1 p2 p3 p4 = some res) : Met l yX12_ray (Cond.code yX12_ray cX12_ray 6 (some .int) :: TB) rm_X12_ray (PC D cI cJ cZ cY tX tY [.ref a0, .int p0, .int p1, .int p2, .int p3, .int p4] (WS_X12_ray cI cJ cZ cY a0 a0_a a0_image a0_texts a0_board a0_taken a0_fars a0_before a0_tape a0_pile a0_rows a0_told a0_values a0_truth a0_keeps v0) sz) (va_Qi (fun (r : Int32) (u : BX12) => r = res.1 ∧ u = res.2) (BC D (fun u : BX12 => WS_X12_ray cI cJ cZ cY a0 a0_a a0_image a0_texts a0_board a0_taken a0_fars a0_before a0_tape a0_pile a0_rows a0_told a0_values a0_truth a0_keeps u) (va_A (WS_X12_ray cI cJ cZ cY a0 a0_a a0_image a0_texts a0_board a0_taken a0_fars a0_before a0_tape a0_pile a0_rows a0_told a0_values a0_truth a0_keeps v0) sz)) (va_A (WS_X12_ray cI cJ cZ cY a0 a0_a a0_image a0_texts a0_board a0_taken a0_fars a0_before a0_tape a0_pile a0_rows a0_told a0_values a0_truth a0_keeps v0) sz)) 0 0 (va_A (WS_X12_ray cI cJ cZ cY a0 a0_a a0_image a0_texts a0_board a0_taken a0_fars a0_before a0_tape a0_pile a0_rows a0_told a0_values a0_truth a0_keeps v0) sz) := by
  refine Met.ofW (cc := cX12_ray) (maxL := 6) (ret := (some .int)) (by decide) rfl ?_
  intro p e s m args below meth c s₁ B hml hv
  obtain ⟨hargs, hsz, hP, hK, hD0, hT⟩ := hv
  have hx := B.exec
  have hb := B.bytes
  have hr := B.returns
  have htb : ∀ w ∈ TB, w.before args s = true := fun w h => atoms_spec (ws := Cond.code yX12_ray cX12_ray 6 (some .int) :: TB) B.pre w (List.mem_cons_of_mem _ h)
  have hown : s.vm.findClass "ManyEyesModel" = some m.cls := findClass_of_methodNamed B.named
  have hlocks := B.notSynchronized
  subst hsz
  have hD := hD0.self (sz := s.heap.size)
  generalize hAe : va_A (WS_X12_ray cI cJ cZ cY a0 a0_a a0_image a0_texts a0_board a0_taken a0_fars a0_before a0_tape a0_pile a0_rows a0_told a0_values a0_truth a0_keeps v0) s.heap.size = A at hD hT ⊢
  have hA : ∀ q : Nat, s.heap.size ≤ q → A q := fun q h => by rw [← hAe]; exact Or.inr h
  have hS : va_S A s.heap s.heap [] := va_S.rf
  have hl := lv_entry ([.ref a0, .int p0, .int p1, .int p2, .int p3, .int p4]) (n := 6) (Nat.le_of_ble_eq_true rfl)
  have he : entryFrame m args 6 = F0 m 0 (lg_sl ([.ref a0, .int p0, .int p1, .int p2, .int p3, .int p4]) ++ List.replicate (6 - (lg_sl ([.ref a0, .int p0, .int p1, .int p2, .int p3, .int p4])).length) Slot.unset).toArray [] := by rw [hargs, lg_entry_eq]
  rw [he]
  generalize (lg_sl ([.ref a0, .int p0, .int p1, .int p2, .int p3, .int p4]) ++ List.replicate (6 - (lg_sl ([.ref a0, .int p0, .int p1, .int p2, .int p3, .int p4])).length) Slot.unset).toArray = ls at hl ⊢
  have hl : lv_has ls 6 [(0, .ref a0), (1, .int p0), (2, .int p1), (3, .int p2), (4, .int p3), (5, .int p4)] := hl
  show W p l e rm_X12_ray s m args below meth c s.heap [] 0 0 _ _
  refine W.genQ (fun Q hQ => ?_)
  generalize hHe : s.heap = H at hP ⊢
  have hS : va_S A s.heap H [] := by rw [← hHe]; exact va_S.rf
  generalize ([] : List Loc) = locs at hS ⊢
  unfold f_X12_ray at hg
  refine lv_aload_n hx hb dX12_ray_0 rfl (lv_at hl 0 rfl) ?_
  refine lv_iload_n hx hb dX12_ray_1 rfl (lv_at hl 1 rfl) ?_
  refine lv_iload_n hx hb dX12_ray_2 rfl (lv_at hl 2 rfl) ?_
  obtain ⟨r_1, hr_1, hg⟩ := g_bd hg
  refine cc_i (va_runV (C := RX12) (As := [.int p0, .int p1]) (rest := []) ⟨hx, hb, hml, hown, htb⟩ (k_X12_isPlace a0 a0_a a0_image a0_texts a0_board a0_taken a0_fars a0_before a0_tape a0_pile a0_rows a0_told a0_values a0_truth a0_keeps v0 p0 p1 r_1 hr_1) (cw_V 2 htb tg_1105 tg_13 tg_1102 tg_1104 ts_31 rfl rfl (by decide +kernel) ⟨Nat.le_of_ble_eq_true rfl, Nat.le_of_ble_eq_true rfl⟩) ⟨PC.blind, va_recv hK.1 hP (ci := 11) (q0 := 0) rfl rfl, PC.pre hK hT hP hD hS hA [0, 1, 2, 3, 4, 5, 6, 7, 8, 9, 10, 11, 12, 13, 14] rfl (by decide)⟩ rfl rfl hl.1 rfl (lv_room (Nat.le_of_ble_eq_true rfl)) dX12_ray_3 ⟨Nat.le_of_ble_eq_true rfl, Nat.le_of_ble_eq_true rfl⟩) hP hD hS hA [0, 1, 2, 3, 4, 5, 6, 7, 8, 9, 10, 11, 12, 13, 14] [] rfl rfl (by decide) (by decide) (fun r9 u9 H locs hw hP hD hS => ?_)
  have hw := hw.symm
  subst hw
  have hP : va_P D vwCl (WS_X12_ray cI cJ cZ cY a0 a0_a a0_image a0_texts a0_board a0_taken a0_fars a0_before a0_tape a0_pile a0_rows a0_told a0_values a0_truth a0_keeps v0) H := hP.sub [0, 1, 2, 3, 4, 5, 6, 7, 8, 9, 10, 11, 12, 13, 14] rfl
  have hD : va_D A (WS_X12_ray cI cJ cZ cY a0 a0_a a0_image a0_texts a0_board a0_taken a0_fars a0_before a0_tape a0_pile a0_rows a0_told a0_values a0_truth a0_keeps v0) := hD.sub [0, 1, 2, 3, 4, 5, 6, 7, 8, 9, 10, 11, 12, 13, 14] (by decide) rfl
  refine lv_if_eq (tgt := 24) hx hb dX12_ray_6 (by decide) (fun c_2 => ?_) (fun c_2 => ?_)
  · have hg := g_it hg c_2
    refine lv_iconst (v := (-1)) hx hb dX12_ray_24 (by decide) ?_
    have hg := Option.some.inj hg
    rw [hQ]
    exact W.iret (v := (-1)) hx hb hr (fun t ht hW => ⟨⟨(-1), (v0), rfl, ⟨by rw [← hg], by rw [← hg]⟩, by rw [ht]; exact hP, hD⟩, hS.F ht⟩) hS.2.2 dX12_ray_25
  · have hg := g_if hg c_2
    refine lv_iload_n hx hb dX12_ray_9 rfl (lv_at hl 3 rfl) ?_
    obtain ⟨r_3, hr_3, hg⟩ := g_bd hg
    refine cc_i (va_runS (As := [.int p2]) (rest := []) ⟨hx, hb, hml, hown, htb⟩ (k_X12_isSide p2 r_3 hr_3) (cw_S 1 htb tg_1108 tg_13 tg_1106 tg_1107 rfl rfl (by decide +kernel) ⟨Nat.le_of_ble_eq_true rfl, Nat.le_of_ble_eq_true rfl⟩) ⟨PC.blind, PC.pre hK hT hP hD hS hA [] rfl (by decide)⟩ rfl rfl hl.1 rfl (lv_room (Nat.le_of_ble_eq_true rfl)) dX12_ray_10 ⟨Nat.le_of_ble_eq_true rfl, Nat.le_of_ble_eq_true rfl⟩) hP hD hS hA [] [0, 1, 2, 3, 4, 5, 6, 7, 8, 9, 10, 11, 12, 13, 14] rfl rfl (by decide) (by decide) (fun r9 u9 H locs hw hP hD hS => ?_)
    have hw := hw.symm
    subst hw
    have hP : va_P D vwCl (WS_X12_ray cI cJ cZ cY a0 a0_a a0_image a0_texts a0_board a0_taken a0_fars a0_before a0_tape a0_pile a0_rows a0_told a0_values a0_truth a0_keeps v0) H := hP.sub [0, 1, 2, 3, 4, 5, 6, 7, 8, 9, 10, 11, 12, 13, 14] rfl
    have hD : va_D A (WS_X12_ray cI cJ cZ cY a0 a0_a a0_image a0_texts a0_board a0_taken a0_fars a0_before a0_tape a0_pile a0_rows a0_told a0_values a0_truth a0_keeps v0) := hD.sub [0, 1, 2, 3, 4, 5, 6, 7, 8, 9, 10, 11, 12, 13, 14] (by decide) rfl
    refine lv_if_eq (tgt := 24) hx hb dX12_ray_13 (by decide) (fun c_4 => ?_) (fun c_4 => ?_)
    · have hg := g_it hg c_4
      refine lv_iconst (v := (-1)) hx hb dX12_ray_24 (by decide) ?_
      have hg := Option.some.inj hg
      rw [hQ]
      exact W.iret (v := (-1)) hx hb hr (fun t ht hW => ⟨⟨(-1), (v0), rfl, ⟨by rw [← hg], by rw [← hg]⟩, by rw [ht]; exact hP, hD⟩, hS.F ht⟩) hS.2.2 dX12_ray_25
    · have hg := g_if hg c_4
      refine lv_iload hx hb dX12_ray_16 (lv_at hl 4 rfl) ?_
      obtain ⟨r_5, hr_5, hg⟩ := g_bd hg
      refine cc_i (va_runS (As := [.int p3]) (rest := []) ⟨hx, hb, hml, hown, htb⟩ (k_X12_isTick p3 r_5 hr_5) (cw_S 1 htb tg_1089 tg_13 tg_1087 tg_1088 rfl rfl (by decide +kernel) ⟨Nat.le_of_ble_eq_true rfl, Nat.le_of_ble_eq_true rfl⟩) ⟨PC.blind, PC.pre hK hT hP hD hS hA [] rfl (by decide)⟩ rfl rfl hl.1 rfl (lv_room (Nat.le_of_ble_eq_true rfl)) dX12_ray_18 ⟨Nat.le_of_ble_eq_true rfl, Nat.le_of_ble_eq_true rfl⟩) hP hD hS hA [] [0, 1, 2, 3, 4, 5, 6, 7, 8, 9, 10, 11, 12, 13, 14] rfl rfl (by decide) (by decide) (fun r9 u9 H locs hw hP hD hS => ?_)
      have hw := hw.symm
      subst hw
      have hP : va_P D vwCl (WS_X12_ray cI cJ cZ cY a0 a0_a a0_image a0_texts a0_board a0_taken a0_fars a0_before a0_tape a0_pile a0_rows a0_told a0_values a0_truth a0_keeps v0) H := hP.sub [0, 1, 2, 3, 4, 5, 6, 7, 8, 9, 10, 11, 12, 13, 14] rfl
      have hD : va_D A (WS_X12_ray cI cJ cZ cY a0 a0_a a0_image a0_texts a0_board a0_taken a0_fars a0_before a0_tape a0_pile a0_rows a0_told a0_values a0_truth a0_keeps v0) := hD.sub [0, 1, 2, 3, 4, 5, 6, 7, 8, 9, 10, 11, 12, 13, 14] (by decide) rfl
      refine lv_if_ne (tgt := 26) hx hb dX12_ray_21 (by decide) (fun c_6 => ?_) (fun c_6 => ?_)
      · have hg := g_if hg c_6
        refine lv_aload_n hx hb dX12_ray_26 rfl (lv_at hl 0 rfl) ?_
        refine lv_iload hx hb dX12_ray_27 (lv_at hl 4 rfl) ?_
        obtain ⟨r_7, hr_7, hg⟩ := g_bd hg
        refine cc_v (va_runV (C := RX12) (As := [.int p3]) (rest := []) ⟨hx, hb, hml, hown, htb⟩ (k_X12_lay a0 a0_a a0_image a0_texts a0_board a0_taken a0_fars a0_before a0_tape a0_pile a0_rows a0_told a0_values a0_truth a0_keeps v0 p3 r_7 hr_7) (cw_V 1 htb tg_1112 tg_13 tg_1109 tg_1111 ts_32 rfl rfl (by decide +kernel) ⟨Nat.le_of_ble_eq_true rfl, Nat.le_of_ble_eq_true rfl⟩) ⟨PC.blind, va_recv hK.1 hP (ci := 11) (q0 := 0) rfl rfl, PC.pre hK hT hP hD hS hA [0, 1, 2, 3, 4, 5, 6, 7, 8, 9, 10, 11, 12, 13, 14] rfl (by decide)⟩ rfl rfl hl.1 rfl (lv_room (Nat.le_of_ble_eq_true rfl)) dX12_ray_29 ⟨Nat.le_of_ble_eq_true rfl, Nat.le_of_ble_eq_true rfl⟩) hP hD hS hA [0, 1, 2, 3, 4, 5, 6, 7, 8, 9, 10, 11, 12, 13, 14] [] rfl rfl (by decide) (by decide) (fun u9 H locs hw hP hD hS => ?_)
        have hw := hw.symm
        subst hw
        have hP : va_P D vwCl (WS_X12_ray cI cJ cZ cY a0 a0_a a0_image a0_texts a0_board a0_taken a0_fars a0_before a0_tape a0_pile a0_rows a0_told a0_values a0_truth a0_keeps r_7) H := hP.sub [0, 1, 2, 3, 4, 5, 6, 7, 8, 9, 10, 11, 12, 13, 14] rfl
        have hD : va_D A (WS_X12_ray cI cJ cZ cY a0 a0_a a0_image a0_texts a0_board a0_taken a0_fars a0_before a0_tape a0_pile a0_rows a0_told a0_values a0_truth a0_keeps r_7) := hD.sub [0, 1, 2, 3, 4, 5, 6, 7, 8, 9, 10, 11, 12, 13, 14] (by decide) rfl
        refine lv_aload_n hx hb dX12_ray_32 rfl (lv_at hl 0 rfl) ?_
        refine lv_iload_n hx hb dX12_ray_33 rfl (lv_at hl 1 rfl) ?_
        refine lv_iload_n hx hb dX12_ray_34 rfl (lv_at hl 2 rfl) ?_
        refine lv_iload_n hx hb dX12_ray_35 rfl (lv_at hl 3 rfl) ?_
        obtain ⟨r_8, hr_8, hg⟩ := g_bd hg
        refine cc_v (va_runV (C := RX12) (As := [.int p0, .int p1, .int p2]) (rest := []) ⟨hx, hb, hml, hown, htb⟩ (k_X12_shoot a0 a0_a a0_image a0_texts a0_board a0_taken a0_fars a0_before a0_tape a0_pile a0_rows a0_told a0_values a0_truth a0_keeps r_7 p0 p1 p2 r_8 hr_8) (cw_V 3 htb tg_1116 tg_13 tg_1113 tg_1115 ts_33 rfl rfl (by decide +kernel) ⟨Nat.le_of_ble_eq_true rfl, Nat.le_of_ble_eq_true rfl⟩) ⟨PC.blind, va_recv hK.1 hP (ci := 11) (q0 := 0) rfl rfl, PC.pre hK hT hP hD hS hA [0, 1, 2, 3, 4, 5, 6, 7, 8, 9, 10, 11, 12, 13, 14] rfl (by decide)⟩ rfl rfl hl.1 rfl (lv_room (Nat.le_of_ble_eq_true rfl)) dX12_ray_36 ⟨Nat.le_of_ble_eq_true rfl, Nat.le_of_ble_eq_true rfl⟩) hP hD hS hA [0, 1, 2, 3, 4, 5, 6, 7, 8, 9, 10, 11, 12, 13, 14] [] rfl rfl (by decide) (by decide) (fun u9 H locs hw hP hD hS => ?_)
        have hw := hw.symm
        subst hw
        have hP : va_P D vwCl (WS_X12_ray cI cJ cZ cY a0 a0_a a0_image a0_texts a0_board a0_taken a0_fars a0_before a0_tape a0_pile a0_rows a0_told a0_values a0_truth a0_keeps r_8) H := hP.sub [0, 1, 2, 3, 4, 5, 6, 7, 8, 9, 10, 11, 12, 13, 14] rfl
        have hD : va_D A (WS_X12_ray cI cJ cZ cY a0 a0_a a0_image a0_texts a0_board a0_taken a0_fars a0_before a0_tape a0_pile a0_rows a0_told a0_values a0_truth a0_keeps r_8) := hD.sub [0, 1, 2, 3, 4, 5, 6, 7, 8, 9, 10, 11, 12, 13, 14] (by decide) rfl
        refine lv_iload hx hb dX12_ray_39 (lv_at hl 5 rfl) ?_
        refine lv_if_eq (tgt := 53) hx hb dX12_ray_41 (by decide) (fun c_9 => ?_) (fun c_9 => ?_)
        · have hg := g_it hg c_9
          refine lv_aload_n hx hb dX12_ray_53 rfl (lv_at hl 0 rfl) ?_
          refine va_get (ci := 11) (v := .ref a0_taken) (C := RX12) (T := TX12) (N := 43) hx hb htb uX12 hown hK.1 hP 0 rfl rfl 6 (by decide) (htb _ tg_942) (fun _ h9 => h9) rfl dX12_ray_54 ?_
          refine lv_iload_n hx hb dX12_ray_57 rfl (lv_at hl 3 rfl) ?_
          obtain ⟨h_10, hg⟩ := g_gde hg
          refine va_iald hx hb hK.1 hP 5 0 rfl rfl (inB_vp h_10) dX12_ray_58 ?_
          have hg := Option.some.inj hg
          rw [hQ]
          exact W.iret (v := ((pX12_taken r_8) (p2 : Int32).toNatClampNeg)) hx hb hr (fun t ht hW => ⟨⟨((pX12_taken r_8) (p2 : Int32).toNatClampNeg), (r_8), rfl, ⟨by rw [← hg], by rw [← hg]⟩, by rw [ht]; exact hP, hD⟩, hS.F ht⟩) hS.2.2 dX12_ray_59
        · have hg := g_if hg c_9
          refine lv_aload_n hx hb dX12_ray_44 rfl (lv_at hl 0 rfl) ?_
          refine va_get (ci := 11) (v := .ref a0_fars) (C := RX12) (T := TX12) (N := 43) hx hb htb uX12 hown hK.1 hP 0 rfl rfl 7 (by decide) (htb _ tg_943) (fun _ h9 => h9) rfl dX12_ray_45 ?_
          refine lv_iload_n hx hb dX12_ray_48 rfl (lv_at hl 3 rfl) ?_
          obtain ⟨h_11, hg⟩ := g_gde hg
          refine va_iald hx hb hK.1 hP 6 0 rfl rfl (inB_vp h_11) dX12_ray_49 ?_
          refine lv_goto (tgt := 59) hx hb dX12_ray_50 (by decide) ?_
          have hg := Option.some.inj hg
          rw [hQ]
          exact W.iret (v := ((pX12_fars r_8) (p2 : Int32).toNatClampNeg)) hx hb hr (fun t ht hW => ⟨⟨((pX12_fars r_8) (p2 : Int32).toNatClampNeg), (r_8), rfl, ⟨by rw [← hg], by rw [← hg]⟩, by rw [ht]; exact hP, hD⟩, hS.F ht⟩) hS.2.2 dX12_ray_59
      · have hg := g_it hg c_6
        refine lv_iconst (v := (-1)) hx hb dX12_ray_24 (by decide) ?_
        have hg := Option.some.inj hg
        rw [hQ]
        exact W.iret (v := (-1)) hx hb hr (fun t ht hW => ⟨⟨(-1), (v0), rfl, ⟨by rw [← hg], by rw [← hg]⟩, by rw [ht]; exact hP, hD⟩, hS.F ht⟩) hS.2.2 dX12_ray_25

/-! ManyEyesModel.lens(II)I -/
def WS_X12_lens (cI cJ cZ cY : ClassId) (a0 a0_a a0_image a0_texts a0_board a0_taken a0_fars a0_before a0_tape a0_pile a0_rows a0_told a0_values a0_truth a0_keeps : Nat) (v0 : BX12) : va_W := (GX12 cI cJ cZ cY a0 a0_a a0_image a0_texts a0_board a0_taken a0_fars a0_before a0_tape a0_pile a0_rows a0_told a0_values a0_truth a0_keeps v0)
def f_X12_lens (v0 : BX12) (p0 : Int32) (p1 : Int32) : Option (Int32 × BX12) := (f_X12_isSide p0).bind (fun r_1 => if (r_1 : Int32) = 0 then (some ((-1), v0)) else ((f_X12_isIn p1 0 7).bind (fun r_3 => if (r_3 : Int32) = 0 then (some ((-1), v0)) else (g_gd (inB 1 3170) (if (((pX12_a v0) (1 : Int32).toNatClampNeg) : Int32) = 16 then (some ((-1), v0)) else (g_gd (inB 1 3170) (g_gd (inB ((620 : Int32) + ((2 : Int32) * ((pX12_a v0) (1 : Int32).toNatClampNeg))) 3170) (g_lt (sX12_a v0 (upd (pX12_a v0) (((620 : Int32) + ((2 : Int32) * ((pX12_a v0) (1 : Int32).toNatClampNeg))) : Int32).toNatClampNeg p0)) (fun v0_9 => g_gd (inB 1 3170) (g_gd (inB (((620 : Int32) + ((2 : Int32) * ((pX12_a v0_9) (1 : Int32).toNatClampNeg))) + 1) 3170) (g_lt (sX12_a v0_9 (upd (pX12_a v0_9) ((((620 : Int32) + ((2 : Int32) * ((pX12_a v0_9) (1 : Int32).toNatClampNeg))) + 1) : Int32).toNatClampNeg p1)) (fun v0_12 => g_gd (inB 1 3170) (g_lt ((((pX12_a v0_12) (1 : Int32).toNatClampNeg) + 1) : Int32) (fun x_14 => g_gd (inB 1 3170) (g_lt (sX12_a v0_12 (upd (pX12_a v0_12) (1 : Int32).toNatClampNeg x_14)) (fun v0_16 => g_gd (inB 1 3170) (some ((((pX12_a v0_16) (1 : Int32).toNatClampNeg) - 1), v0_16))))))))))))))))))
abbrev rm_X12_lens : Room := { frames := 2, cells := 0, slots := 0, locals := 42 }
set_option maxHeartbeats 4000000 in
set_option maxRecDepth 100000 in
theorem k_X12_lens {l : Launch} {D : va_G} {cI cJ cZ cY : ClassId} {tX tY : Nat} {sz : Nat} (a0 a0_a a0_image a0_texts a0_board a0_taken a0_fars a0_before a0_tape a0_pile a0_rows a0_told a0_values a0_truth a0_keeps : Nat) (v0 : BX12) (p0 : Int32) (p1 : Int32) (res : Int32 × BX12) (hg : f_X12_lens v0 p0 p1 = some res) : Met l yX12_lens (Cond.code yX12_lens cX12_lens 3 (some .int) :: TB) rm_X12_lens (PC D cI cJ cZ cY tX tY [.ref a0, .int p0, .int p1] (WS_X12_lens cI cJ cZ cY a0 a0_a a0_image a0_texts a0_board a0_taken a0_fars a0_before a0_tape a0_pile a0_rows a0_told a0_values a0_truth a0_keeps v0) sz) (va_Qi (fun (r : Int32) (u : BX12) => r = res.1 ∧ u = res.2) (BC D (fun u : BX12 => WS_X12_lens cI cJ cZ cY a0 a0_a a0_image a0_texts a0_board a0_taken a0_fars a0_before a0_tape a0_pile a0_rows a0_told a0_values a0_truth a0_keeps u) (va_A (WS_X12_lens cI cJ cZ cY a0 a0_a a0_image a0_texts a0_board a0_taken a0_fars a0_before a0_tape a0_pile a0_rows a0_told a0_values a0_truth a0_keeps v0) sz)) (va_A (WS_X12_lens cI cJ cZ cY a0 a0_a a0_image a0_texts a0_board a0_taken a0_fars a0_before a0_tape a0_pile a0_rows a0_told a0_values a0_truth a0_keeps v0) sz)) 0 0 (va_A (WS_X12_lens cI cJ cZ cY a0 a0_a a0_image a0_texts a0_board a0_taken a0_fars a0_before a0_tape a0_pile a0_rows a0_told a0_values a0_truth a0_keeps v0) sz) := by
  refine Met.ofW (cc := cX12_lens) (maxL := 3) (ret := (some .int)) (by decide) rfl ?_
  intro p e s m args below meth c s₁ B hml hv
  obtain ⟨hargs, hsz, hP, hK, hD0, hT⟩ := hv
  have hx := B.exec
  have hb := B.bytes
  have hr := B.returns
  have htb : ∀ w ∈ TB, w.before args s = true := fun w h => atoms_spec (ws := Cond.code yX12_lens cX12_lens 3 (some .int) :: TB) B.pre w (List.mem_cons_of_mem _ h)
  have hown : s.vm.findClass "ManyEyesModel" = some m.cls := findClass_of_methodNamed B.named
  have hlocks := B.notSynchronized
  subst hsz
  have hD := hD0.self (sz := s.heap.size)
  generalize hAe : va_A (WS_X12_lens cI cJ cZ cY a0 a0_a a0_image a0_texts a0_board a0_taken a0_fars a0_before a0_tape a0_pile a0_rows a0_told a0_values a0_truth a0_keeps v0) s.heap.size = A at hD hT ⊢
  have hA : ∀ q : Nat, s.heap.size ≤ q → A q := fun q h => by rw [← hAe]; exact Or.inr h
  have hS : va_S A s.heap s.heap [] := va_S.rf
  have hl := lv_entry ([.ref a0, .int p0, .int p1]) (n := 3) (Nat.le_of_ble_eq_true rfl)
  have he : entryFrame m args 3 = F0 m 0 (lg_sl ([.ref a0, .int p0, .int p1]) ++ List.replicate (3 - (lg_sl ([.ref a0, .int p0, .int p1])).length) Slot.unset).toArray [] := by rw [hargs, lg_entry_eq]
  rw [he]
  generalize (lg_sl ([.ref a0, .int p0, .int p1]) ++ List.replicate (3 - (lg_sl ([.ref a0, .int p0, .int p1])).length) Slot.unset).toArray = ls at hl ⊢
  have hl : lv_has ls 3 [(0, .ref a0), (1, .int p0), (2, .int p1)] := hl
  show W p l e rm_X12_lens s m args below meth c s.heap [] 0 0 _ _
  refine W.genQ (fun Q hQ => ?_)
  generalize hHe : s.heap = H at hP ⊢
  have hS : va_S A s.heap H [] := by rw [← hHe]; exact va_S.rf
  generalize ([] : List Loc) = locs at hS ⊢
  unfold f_X12_lens at hg
  refine lv_iload_n hx hb dX12_lens_0 rfl (lv_at hl 1 rfl) ?_
  obtain ⟨r_1, hr_1, hg⟩ := g_bd hg
  refine cc_i (va_runS (As := [.int p0]) (rest := []) ⟨hx, hb, hml, hown, htb⟩ (k_X12_isSide p0 r_1 hr_1) (cw_S 1 htb tg_1108 tg_13 tg_1106 tg_1107 rfl rfl (by decide +kernel) ⟨Nat.le_of_ble_eq_true rfl, Nat.le_of_ble_eq_true rfl⟩) ⟨PC.blind, PC.pre hK hT hP hD hS hA [] rfl (by decide)⟩ rfl rfl hl.1 rfl (lv_room (Nat.le_of_ble_eq_true rfl)) dX12_lens_1 ⟨Nat.le_of_ble_eq_true rfl, Nat.le_of_ble_eq_true rfl⟩) hP hD hS hA [] [0, 1, 2, 3, 4, 5, 6, 7, 8, 9, 10, 11, 12, 13, 14] rfl rfl (by decide) (by decide) (fun r9 u9 H locs hw hP hD hS => ?_)
  have hw := hw.symm
  subst hw
  have hP : va_P D vwCl (WS_X12_lens cI cJ cZ cY a0 a0_a a0_image a0_texts a0_board a0_taken a0_fars a0_before a0_tape a0_pile a0_rows a0_told a0_values a0_truth a0_keeps v0) H := hP.sub [0, 1, 2, 3, 4, 5, 6, 7, 8, 9, 10, 11, 12, 13, 14] rfl
  have hD : va_D A (WS_X12_lens cI cJ cZ cY a0 a0_a a0_image a0_texts a0_board a0_taken a0_fars a0_before a0_tape a0_pile a0_rows a0_told a0_values a0_truth a0_keeps v0) := hD.sub [0, 1, 2, 3, 4, 5, 6, 7, 8, 9, 10, 11, 12, 13, 14] (by decide) rfl
  refine lv_if_eq (tgt := 28) hx hb dX12_lens_4 (by decide) (fun c_2 => ?_) (fun c_2 => ?_)
  · have hg := g_it hg c_2
    refine lv_iconst (v := (-1)) hx hb dX12_lens_28 (by decide) ?_
    have hg := Option.some.inj hg
    rw [hQ]
    exact W.iret (v := (-1)) hx hb hr (fun t ht hW => ⟨⟨(-1), (v0), rfl, ⟨by rw [← hg], by rw [← hg]⟩, by rw [ht]; exact hP, hD⟩, hS.F ht⟩) hS.2.2 dX12_lens_29
  · have hg := g_if hg c_2
    refine lv_iload_n hx hb dX12_lens_7 rfl (lv_at hl 2 rfl) ?_
    refine lv_iconst (v := 0) hx hb dX12_lens_8 (by decide) ?_
    refine lv_bipush (v := 7) hx hb dX12_lens_9 (by decide) ?_
    obtain ⟨r_3, hr_3, hg⟩ := g_bd hg
    refine cc_i (va_runS (As := [.int p1, .int 0, .int 7]) (rest := []) ⟨hx, hb, hml, hown, htb⟩ (k_X12_isIn p1 0 7 r_3 hr_3) (cw_S 3 htb tg_1078 tg_13 tg_1076 tg_1077 rfl rfl (by decide +kernel) ⟨Nat.le_of_ble_eq_true rfl, Nat.le_of_ble_eq_true rfl⟩) ⟨PC.blind, PC.pre hK hT hP hD hS hA [] rfl (by decide)⟩ rfl rfl hl.1 rfl (lv_room (Nat.le_of_ble_eq_true rfl)) dX12_lens_11 ⟨Nat.le_of_ble_eq_true rfl, Nat.le_of_ble_eq_true rfl⟩) hP hD hS hA [] [0, 1, 2, 3, 4, 5, 6, 7, 8, 9, 10, 11, 12, 13, 14] rfl rfl (by decide) (by decide) (fun r9 u9 H locs hw hP hD hS => ?_)
    have hw := hw.symm
    subst hw
    have hP : va_P D vwCl (WS_X12_lens cI cJ cZ cY a0 a0_a a0_image a0_texts a0_board a0_taken a0_fars a0_before a0_tape a0_pile a0_rows a0_told a0_values a0_truth a0_keeps v0) H := hP.sub [0, 1, 2, 3, 4, 5, 6, 7, 8, 9, 10, 11, 12, 13, 14] rfl
    have hD : va_D A (WS_X12_lens cI cJ cZ cY a0 a0_a a0_image a0_texts a0_board a0_taken a0_fars a0_before a0_tape a0_pile a0_rows a0_told a0_values a0_truth a0_keeps v0) := hD.sub [0, 1, 2, 3, 4, 5, 6, 7, 8, 9, 10, 11, 12, 13, 14] (by decide) rfl
    refine lv_if_eq (tgt := 28) hx hb dX12_lens_14 (by decide) (fun c_4 => ?_) (fun c_4 => ?_)
    · have hg := g_it hg c_4
      refine lv_iconst (v := (-1)) hx hb dX12_lens_28 (by decide) ?_
      have hg := Option.some.inj hg
      rw [hQ]
      exact W.iret (v := (-1)) hx hb hr (fun t ht hW => ⟨⟨(-1), (v0), rfl, ⟨by rw [← hg], by rw [← hg]⟩, by rw [ht]; exact hP, hD⟩, hS.F ht⟩) hS.2.2 dX12_lens_29
    · have hg := g_if hg c_4
      refine lv_aload_n hx hb dX12_lens_17 rfl (lv_at hl 0 rfl) ?_
      refine va_get (ci := 11) (v := .ref a0_a) (C := RX12) (T := TX12) (N := 43) hx hb htb uX12 hown hK.1 hP 0 rfl rfl 2 (by decide) (htb _ tg_938) (fun _ h9 => h9) rfl dX12_lens_18 ?_
      refine lv_iconst (v := 1) hx hb dX12_lens_21 (by decide) ?_
      obtain ⟨h_5, hg⟩ := g_gde hg
      refine va_iald hx hb hK.1 hP 1 0 rfl rfl (inB_vp h_5) dX12_lens_22 ?_
      refine lv_bipush (v := 16) hx hb dX12_lens_23 (by decide) ?_
      refine lv_icmp_ne (tgt := 30) hx hb dX12_lens_25 (by decide) (fun c_6 => ?_) (fun c_6 => ?_)
      · have hg := g_if hg c_6
        refine lv_aload_n hx hb dX12_lens_30 rfl (lv_at hl 0 rfl) ?_
        refine va_get (ci := 11) (v := .ref a0_a) (C := RX12) (T := TX12) (N := 43) hx hb htb uX12 hown hK.1 hP 0 rfl rfl 2 (by decide) (htb _ tg_938) (fun _ h9 => h9) rfl dX12_lens_31 ?_
        refine lv_sipush (v := 620) hx hb dX12_lens_34 (by decide) ?_
        refine lv_iconst (v := 2) hx hb dX12_lens_37 (by decide) ?_
        refine lv_aload_n hx hb dX12_lens_38 rfl (lv_at hl 0 rfl) ?_
        refine va_get (ci := 11) (v := .ref a0_a) (C := RX12) (T := TX12) (N := 43) hx hb htb uX12 hown hK.1 hP 0 rfl rfl 2 (by decide) (htb _ tg_938) (fun _ h9 => h9) rfl dX12_lens_39 ?_
        refine lv_iconst (v := 1) hx hb dX12_lens_42 (by decide) ?_
        obtain ⟨h_7, hg⟩ := g_gde hg
        refine va_iald hx hb hK.1 hP 1 0 rfl rfl (inB_vp h_7) dX12_lens_43 ?_
        refine lv_imul hx hb dX12_lens_44 ?_
        refine lv_iadd hx hb dX12_lens_45 ?_
        refine lv_iload_n hx hb dX12_lens_46 rfl (lv_at hl 1 rfl) ?_
        obtain ⟨h_8, hg⟩ := g_gde hg
        refine va_iast hx hb hK.1 hP hD hS 1 0 rfl rfl (inB_vp h_8) dX12_lens_47 (fun H locs hP hD hS => ?_)
        obtain ⟨v0_9, ev0_9⟩ : ∃ z, z = sX12_a v0 (upd (pX12_a v0) (((620 : Int32) + ((2 : Int32) * ((pX12_a v0) (1 : Int32).toNatClampNeg))) : Int32).toNatClampNeg p0) := ⟨_, rfl⟩
        have hP : va_P D vwCl (WS_X12_lens cI cJ cZ cY a0 a0_a a0_image a0_texts a0_board a0_taken a0_fars a0_before a0_tape a0_pile a0_rows a0_told a0_values a0_truth a0_keeps v0_9) H := by rw [ev0_9]; exact hP
        have hD : va_D A (WS_X12_lens cI cJ cZ cY a0 a0_a a0_image a0_texts a0_board a0_taken a0_fars a0_before a0_tape a0_pile a0_rows a0_told a0_values a0_truth a0_keeps v0_9) := by rw [ev0_9]; exact hD
        have hg := g_lte hg v0_9 ev0_9
        refine lv_aload_n hx hb dX12_lens_48 rfl (lv_at hl 0 rfl) ?_
        refine va_get (ci := 11) (v := .ref a0_a) (C := RX12) (T := TX12) (N := 43) hx hb htb uX12 hown hK.1 hP 0 rfl rfl 2 (by decide) (htb _ tg_938) (fun _ h9 => h9) rfl dX12_lens_49 ?_
        refine lv_sipush (v := 620) hx hb dX12_lens_52 (by decide) ?_
        refine lv_iconst (v := 2) hx hb dX12_lens_55 (by decide) ?_
        refine lv_aload_n hx hb dX12_lens_56 rfl (lv_at hl 0 rfl) ?_
        refine va_get (ci := 11) (v := .ref a0_a) (C := RX12) (T := TX12) (N := 43) hx hb htb uX12 hown hK.1 hP 0 rfl rfl 2 (by decide) (htb _ tg_938) (fun _ h9 => h9) rfl dX12_lens_57 ?_
        refine lv_iconst (v := 1) hx hb dX12_lens_60 (by decide) ?_
        obtain ⟨h_10, hg⟩ := g_gde hg
        refine va_iald hx hb hK.1 hP 1 0 rfl rfl (inB_vp h_10) dX12_lens_61 ?_
        refine lv_imul hx hb dX12_lens_62 ?_
        refine lv_iadd hx hb dX12_lens_63 ?_
        refine lv_iconst (v := 1) hx hb dX12_lens_64 (by decide) ?_
        refine lv_iadd hx hb dX12_lens_65 ?_
        refine lv_iload_n hx hb dX12_lens_66 rfl (lv_at hl 2 rfl) ?_
        obtain ⟨h_11, hg⟩ := g_gde hg
        refine va_iast hx hb hK.1 hP hD hS 1 0 rfl rfl (inB_vp h_11) dX12_lens_67 (fun H locs hP hD hS => ?_)
        obtain ⟨v0_12, ev0_12⟩ : ∃ z, z = sX12_a v0_9 (upd (pX12_a v0_9) ((((620 : Int32) + ((2 : Int32) * ((pX12_a v0_9) (1 : Int32).toNatClampNeg))) + 1) : Int32).toNatClampNeg p1) := ⟨_, rfl⟩
        have hP : va_P D vwCl (WS_X12_lens cI cJ cZ cY a0 a0_a a0_image a0_texts a0_board a0_taken a0_fars a0_before a0_tape a0_pile a0_rows a0_told a0_values a0_truth a0_keeps v0_12) H := by rw [ev0_12]; exact hP
        have hD : va_D A (WS_X12_lens cI cJ cZ cY a0 a0_a a0_image a0_texts a0_board a0_taken a0_fars a0_before a0_tape a0_pile a0_rows a0_told a0_values a0_truth a0_keeps v0_12) := by rw [ev0_12]; exact hD
        have hg := g_lte hg v0_12 ev0_12
        refine lv_aload_n hx hb dX12_lens_68 rfl (lv_at hl 0 rfl) ?_
        refine va_get (ci := 11) (v := .ref a0_a) (C := RX12) (T := TX12) (N := 43) hx hb htb uX12 hown hK.1 hP 0 rfl rfl 2 (by decide) (htb _ tg_938) (fun _ h9 => h9) rfl dX12_lens_69 ?_
        refine lv_iconst (v := 1) hx hb dX12_lens_72 (by decide) ?_
        refine lv_dup2_11 hx hb dX12_lens_73 rfl rfl ?_
        obtain ⟨h_13, hg⟩ := g_gde hg
        refine va_iald hx hb hK.1 hP 1 0 rfl rfl (inB_vp h_13) dX12_lens_74 ?_
        refine lv_iconst (v := 1) hx hb dX12_lens_75 (by decide) ?_
        refine lv_iadd hx hb dX12_lens_76 ?_
        refine lv_topi (fun x_14 ex_14 => ?_)
        have hg := g_lte hg x_14 ex_14
        obtain ⟨h_15, hg⟩ := g_gde hg
        refine va_iast hx hb hK.1 hP hD hS 1 0 rfl rfl (inB_vp h_15) dX12_lens_77 (fun H locs hP hD hS => ?_)
        obtain ⟨v0_16, ev0_16⟩ : ∃ z, z = sX12_a v0_12 (upd (pX12_a v0_12) (1 : Int32).toNatClampNeg x_14) := ⟨_, rfl⟩
        have hP : va_P D vwCl (WS_X12_lens cI cJ cZ cY a0 a0_a a0_image a0_texts a0_board a0_taken a0_fars a0_before a0_tape a0_pile a0_rows a0_told a0_values a0_truth a0_keeps v0_16) H := by rw [ev0_16]; exact hP
        have hD : va_D A (WS_X12_lens cI cJ cZ cY a0 a0_a a0_image a0_texts a0_board a0_taken a0_fars a0_before a0_tape a0_pile a0_rows a0_told a0_values a0_truth a0_keeps v0_16) := by rw [ev0_16]; exact hD
        have hg := g_lte hg v0_16 ev0_16
        refine lv_aload_n hx hb dX12_lens_78 rfl (lv_at hl 0 rfl) ?_
        refine va_get (ci := 11) (v := .ref a0_a) (C := RX12) (T := TX12) (N := 43) hx hb htb uX12 hown hK.1 hP 0 rfl rfl 2 (by decide) (htb _ tg_938) (fun _ h9 => h9) rfl dX12_lens_79 ?_
        refine lv_iconst (v := 1) hx hb dX12_lens_82 (by decide) ?_
        obtain ⟨h_17, hg⟩ := g_gde hg
        refine va_iald hx hb hK.1 hP 1 0 rfl rfl (inB_vp h_17) dX12_lens_83 ?_
        refine lv_iconst (v := 1) hx hb dX12_lens_84 (by decide) ?_
        refine lv_isub hx hb dX12_lens_85 ?_
        have hg := Option.some.inj hg
        rw [hQ]
        exact W.iret (v := (((pX12_a v0_16) (1 : Int32).toNatClampNeg) - 1)) hx hb hr (fun t ht hW => ⟨⟨(((pX12_a v0_16) (1 : Int32).toNatClampNeg) - 1), (v0_16), rfl, ⟨by rw [← hg], by rw [← hg]⟩, by rw [ht]; exact hP, hD⟩, hS.F ht⟩) hS.2.2 dX12_lens_86
      · have hg := g_it hg c_6
        refine lv_iconst (v := (-1)) hx hb dX12_lens_28 (by decide) ?_
        have hg := Option.some.inj hg
        rw [hQ]
        exact W.iret (v := (-1)) hx hb hr (fun t ht hW => ⟨⟨(-1), (v0), rfl, ⟨by rw [← hg], by rw [← hg]⟩, by rw [ht]; exact hP, hD⟩, hS.F ht⟩) hS.2.2 dX12_lens_29

/-! ManyEyesModel.isLens(I)Z -/
def WS_X12_isLens (cI cJ cZ cY : ClassId) (a0 a0_a a0_image a0_texts a0_board a0_taken a0_fars a0_before a0_tape a0_pile a0_rows a0_told a0_values a0_truth a0_keeps : Nat) (v0 : BX12) : va_W := (GX12 cI cJ cZ cY a0 a0_a a0_image a0_texts a0_board a0_taken a0_fars a0_before a0_tape a0_pile a0_rows a0_told a0_values a0_truth a0_keeps v0)
def f_X12_isLens (v0 : BX12) (p0 : Int32) : Option (Int32) := g_gd (inB 1 3170) ((f_X12_isIn p0 0 (((pX12_a v0) (1 : Int32).toNatClampNeg) - 1)).bind (fun r_2 => g_gd (r_2 = 0 ∨ r_2 = 1) (some r_2)))
abbrev rm_X12_isLens : Room := { frames := 1, cells := 0, slots := 0, locals := 22 }
set_option maxHeartbeats 4000000 in
set_option maxRecDepth 100000 in
theorem k_X12_isLens {l : Launch} {D : va_G} {cI cJ cZ cY : ClassId} {tX tY : Nat} {sz : Nat} (a0 a0_a a0_image a0_texts a0_board a0_taken a0_fars a0_before a0_tape a0_pile a0_rows a0_told a0_values a0_truth a0_keeps : Nat) (v0 : BX12) (p0 : Int32) (res : Int32) (hg : f_X12_isLens v0 p0 = some res) : Met l yX12_isLens (Cond.code yX12_isLens cX12_isLens 2 (some .boolean) :: TB) rm_X12_isLens (PC D cI cJ cZ cY tX tY [.ref a0, .int p0] (WS_X12_isLens cI cJ cZ cY a0 a0_a a0_image a0_texts a0_board a0_taken a0_fars a0_before a0_tape a0_pile a0_rows a0_told a0_values a0_truth a0_keeps v0) sz) (va_Qi (fun (r : Int32) (_ : Unit) => r = res) (BC D (fun _ : Unit => WS_X12_isLens cI cJ cZ cY a0 a0_a a0_image a0_texts a0_board a0_taken a0_fars a0_before a0_tape a0_pile a0_rows a0_told a0_values a0_truth a0_keeps v0) (va_A (WS_X12_isLens cI cJ cZ cY a0 a0_a a0_image a0_texts a0_board a0_taken a0_fars a0_before a0_tape a0_pile a0_rows a0_told a0_values a0_truth a0_keeps v0) sz)) (va_A (WS_X12_isLens cI cJ cZ cY a0 a0_a a0_image a0_texts a0_board a0_taken a0_fars a0_before a0_tape a0_pile a0_rows a0_told a0_values a0_truth a0_keeps v0) sz)) 0 0 (va_A (WS_X12_isLens cI cJ cZ cY a0 a0_a a0_image a0_texts a0_board a0_taken a0_fars a0_before a0_tape a0_pile a0_rows a0_told a0_values a0_truth a0_keeps v0) sz) := by
  refine Met.ofW (cc := cX12_isLens) (maxL := 2) (ret := (some .boolean)) (by decide) rfl ?_
  intro p e s m args below meth c s₁ B hml hv
  obtain ⟨hargs, hsz, hP, hK, hD0, hT⟩ := hv
  have hx := B.exec
  have hb := B.bytes
  have hr := B.returns
  have htb : ∀ w ∈ TB, w.before args s = true := fun w h => atoms_spec (ws := Cond.code yX12_isLens cX12_isLens 2 (some .boolean) :: TB) B.pre w (List.mem_cons_of_mem _ h)
  have hown : s.vm.findClass "ManyEyesModel" = some m.cls := findClass_of_methodNamed B.named
  have hlocks := B.notSynchronized
  subst hsz
  have hD := hD0.self (sz := s.heap.size)
  generalize hAe : va_A (WS_X12_isLens cI cJ cZ cY a0 a0_a a0_image a0_texts a0_board a0_taken a0_fars a0_before a0_tape a0_pile a0_rows a0_told a0_values a0_truth a0_keeps v0) s.heap.size = A at hD hT ⊢
  have hA : ∀ q : Nat, s.heap.size ≤ q → A q := fun q h => by rw [← hAe]; exact Or.inr h
  have hS : va_S A s.heap s.heap [] := va_S.rf
  have hl := lv_entry ([.ref a0, .int p0]) (n := 2) (Nat.le_of_ble_eq_true rfl)
  have he : entryFrame m args 2 = F0 m 0 (lg_sl ([.ref a0, .int p0]) ++ List.replicate (2 - (lg_sl ([.ref a0, .int p0])).length) Slot.unset).toArray [] := by rw [hargs, lg_entry_eq]
  rw [he]
  generalize (lg_sl ([.ref a0, .int p0]) ++ List.replicate (2 - (lg_sl ([.ref a0, .int p0])).length) Slot.unset).toArray = ls at hl ⊢
  have hl : lv_has ls 2 [(0, .ref a0), (1, .int p0)] := hl
  show W p l e rm_X12_isLens s m args below meth c s.heap [] 0 0 _ _
  refine W.genQ (fun Q hQ => ?_)
  generalize hHe : s.heap = H at hP ⊢
  have hS : va_S A s.heap H [] := by rw [← hHe]; exact va_S.rf
  generalize ([] : List Loc) = locs at hS ⊢
  unfold f_X12_isLens at hg
  refine lv_iload_n hx hb dX12_isLens_0 rfl (lv_at hl 1 rfl) ?_
  refine lv_iconst (v := 0) hx hb dX12_isLens_1 (by decide) ?_
  refine lv_aload_n hx hb dX12_isLens_2 rfl (lv_at hl 0 rfl) ?_
  refine va_get (ci := 11) (v := .ref a0_a) (C := RX12) (T := TX12) (N := 43) hx hb htb uX12 hown hK.1 hP 0 rfl rfl 2 (by decide) (htb _ tg_938) (fun _ h9 => h9) rfl dX12_isLens_3 ?_
  refine lv_iconst (v := 1) hx hb dX12_isLens_6 (by decide) ?_
  obtain ⟨h_1, hg⟩ := g_gde hg
  refine va_iald hx hb hK.1 hP 1 0 rfl rfl (inB_vp h_1) dX12_isLens_7 ?_
  refine lv_iconst (v := 1) hx hb dX12_isLens_8 (by decide) ?_
  refine lv_isub hx hb dX12_isLens_9 ?_
  obtain ⟨r_2, hr_2, hg⟩ := g_bd hg
  refine cc_i (va_runS (As := [.int p0, .int 0, .int (((pX12_a v0) (1 : Int32).toNatClampNeg) - 1)]) (rest := []) ⟨hx, hb, hml, hown, htb⟩ (k_X12_isIn p0 0 (((pX12_a v0) (1 : Int32).toNatClampNeg) - 1) r_2 hr_2) (cw_S 3 htb tg_1078 tg_13 tg_1076 tg_1077 rfl rfl (by decide +kernel) ⟨Nat.le_of_ble_eq_true rfl, Nat.le_of_ble_eq_true rfl⟩) ⟨PC.blind, PC.pre hK hT hP hD hS hA [] rfl (by decide)⟩ rfl rfl hl.1 rfl (lv_room (Nat.le_of_ble_eq_true rfl)) dX12_isLens_10 ⟨Nat.le_of_ble_eq_true rfl, Nat.le_of_ble_eq_true rfl⟩) hP hD hS hA [] [0, 1, 2, 3, 4, 5, 6, 7, 8, 9, 10, 11, 12, 13, 14] rfl rfl (by decide) (by decide) (fun r9 u9 H locs hw hP hD hS => ?_)
  have hw := hw.symm
  subst hw
  have hP : va_P D vwCl (WS_X12_isLens cI cJ cZ cY a0 a0_a a0_image a0_texts a0_board a0_taken a0_fars a0_before a0_tape a0_pile a0_rows a0_told a0_values a0_truth a0_keeps v0) H := hP.sub [0, 1, 2, 3, 4, 5, 6, 7, 8, 9, 10, 11, 12, 13, 14] rfl
  have hD : va_D A (WS_X12_isLens cI cJ cZ cY a0 a0_a a0_image a0_texts a0_board a0_taken a0_fars a0_before a0_tape a0_pile a0_rows a0_told a0_values a0_truth a0_keeps v0) := hD.sub [0, 1, 2, 3, 4, 5, 6, 7, 8, 9, 10, 11, 12, 13, 14] (by decide) rfl
  obtain ⟨h_3, hg⟩ := g_gde hg
  have hg := Option.some.inj hg
  rw [hQ]
  exact W.zret (v := r_2) (ty := .boolean) hx hb hr (bool_nar h_3) (fun t ht hW => ⟨⟨r_2, (), rfl, hg, by rw [ht]; exact hP, hD⟩, hS.F ht⟩) hS.2.2 dX12_isLens_13

/-! ManyEyesModel.pair(III)I -/
def WS_X12_pair (cI cJ cZ cY : ClassId) (a0 a0_a a0_image a0_texts a0_board a0_taken a0_fars a0_before a0_tape a0_pile a0_rows a0_told a0_values a0_truth a0_keeps : Nat) (v0 : BX12) : va_W := (GX12 cI cJ cZ cY a0 a0_a a0_image a0_texts a0_board a0_taken a0_fars a0_before a0_tape a0_pile a0_rows a0_told a0_values a0_truth a0_keeps v0)
def f_X12_pair (v0 : BX12) (p0 : Int32) (p1 : Int32) (p2 : Int32) : Option (Int32 × BX12) := (f_X12_isLens v0 p0).bind (fun r_1 => if (r_1 : Int32) = 0 then (some ((-1), v0)) else ((f_X12_isLens v0 p1).bind (fun r_3 => if (r_3 : Int32) = 0 then (some ((-1), v0)) else (if (p0 : Int32) = p1 then (some ((-1), v0)) else ((f_X12_isIn p2 1 8).bind (fun r_6 => if (r_6 : Int32) = 0 then (some ((-1), v0)) else (g_gd (inB 2 3170) (if (((pX12_a v0) (2 : Int32).toNatClampNeg) : Int32) = 16 then (some ((-1), v0)) else (g_gd (inB 2 3170) (g_lt (((660 : Int32) + ((3 : Int32) * ((pX12_a v0) (2 : Int32).toNatClampNeg))) : Int32) (fun x4_11 => g_gd (inB x4_11 3170) (g_lt (sX12_a v0 (upd (pX12_a v0) (x4_11 : Int32).toNatClampNeg p0)) (fun v0_13 => g_gd (inB (x4_11 + 1) 3170) (g_lt (sX12_a v0_13 (upd (pX12_a v0_13) ((x4_11 + 1) : Int32).toNatClampNeg p1)) (fun v0_15 => g_gd (inB (x4_11 + 2) 3170) (g_lt (sX12_a v0_15 (upd (pX12_a v0_15) ((x4_11 + 2) : Int32).toNatClampNeg p2)) (fun v0_17 => g_gd (inB 2 3170) (g_lt ((((pX12_a v0_17) (2 : Int32).toNatClampNeg) + 1) : Int32) (fun x_19 => g_gd (inB 2 3170) (g_lt (sX12_a v0_17 (upd (pX12_a v0_17) (2 : Int32).toNatClampNeg x_19)) (fun v0_21 => g_gd (inB 2 3170) (some ((((pX12_a v0_21) (2 : Int32).toNatClampNeg) - 1), v0_21)))))))))))))))))))))))
abbrev rm_X12_pair : Room := { frames := 2, cells := 0, slots := 0, locals := 43 }
set_option maxHeartbeats 4000000 in
set_option maxRecDepth 100000 in
theorem k_X12_pair {l : Launch} {D : va_G} {cI cJ cZ cY : ClassId} {tX tY : Nat} {sz : Nat} (a0 a0_a a0_image a0_texts a0_board a0_taken a0_fars a0_before a0_tape a0_pile a0_rows a0_told a0_values a0_truth a0_keeps : Nat) (v0 : BX12) (p0 : Int32) (p1 : Int32) (p2 : Int32) (res : Int32 × BX12) (hg : f_X12_pair v0 p0 p1 p2 = some res) : Met l yX12_pair (Cond.code yX12_pair cX12_pair 5 (some .int) :: TB) rm_X12_pair (PC D cI cJ cZ cY tX tY [.ref a0, .int p0, .int p1, .int p2] (WS_X12_pair cI cJ cZ cY a0 a0_a a0_image a0_texts a0_board a0_taken a0_fars a0_before a0_tape a0_pile a0_rows a0_told a0_values a0_truth a0_keeps v0) sz) (va_Qi (fun (r : Int32) (u : BX12) => r = res.1 ∧ u = res.2) (BC D (fun u : BX12 => WS_X12_pair cI cJ cZ cY a0 a0_a a0_image a0_texts a0_board a0_taken a0_fars a0_before a0_tape a0_pile a0_rows a0_told a0_values a0_truth a0_keeps u) (va_A (WS_X12_pair cI cJ cZ cY a0 a0_a a0_image a0_texts a0_board a0_taken a0_fars a0_before a0_tape a0_pile a0_rows a0_told a0_values a0_truth a0_keeps v0) sz)) (va_A (WS_X12_pair cI cJ cZ cY a0 a0_a a0_image a0_texts a0_board a0_taken a0_fars a0_before a0_tape a0_pile a0_rows a0_told a0_values a0_truth a0_keeps v0) sz)) 0 0 (va_A (WS_X12_pair cI cJ cZ cY a0 a0_a a0_image a0_texts a0_board a0_taken a0_fars a0_before a0_tape a0_pile a0_rows a0_told a0_values a0_truth a0_keeps v0) sz) := by
  refine Met.ofW (cc := cX12_pair) (maxL := 5) (ret := (some .int)) (by decide) rfl ?_
  intro p e s m args below meth c s₁ B hml hv
  obtain ⟨hargs, hsz, hP, hK, hD0, hT⟩ := hv
  have hx := B.exec
  have hb := B.bytes
  have hr := B.returns
  have htb : ∀ w ∈ TB, w.before args s = true := fun w h => atoms_spec (ws := Cond.code yX12_pair cX12_pair 5 (some .int) :: TB) B.pre w (List.mem_cons_of_mem _ h)
  have hown : s.vm.findClass "ManyEyesModel" = some m.cls := findClass_of_methodNamed B.named
  have hlocks := B.notSynchronized
  subst hsz
  have hD := hD0.self (sz := s.heap.size)
  generalize hAe : va_A (WS_X12_pair cI cJ cZ cY a0 a0_a a0_image a0_texts a0_board a0_taken a0_fars a0_before a0_tape a0_pile a0_rows a0_told a0_values a0_truth a0_keeps v0) s.heap.size = A at hD hT ⊢
  have hA : ∀ q : Nat, s.heap.size ≤ q → A q := fun q h => by rw [← hAe]; exact Or.inr h
  have hS : va_S A s.heap s.heap [] := va_S.rf
  have hl := lv_entry ([.ref a0, .int p0, .int p1, .int p2]) (n := 5) (Nat.le_of_ble_eq_true rfl)
  have he : entryFrame m args 5 = F0 m 0 (lg_sl ([.ref a0, .int p0, .int p1, .int p2]) ++ List.replicate (5 - (lg_sl ([.ref a0, .int p0, .int p1, .int p2])).length) Slot.unset).toArray [] := by rw [hargs, lg_entry_eq]
  rw [he]
  generalize (lg_sl ([.ref a0, .int p0, .int p1, .int p2]) ++ List.replicate (5 - (lg_sl ([.ref a0, .int p0, .int p1, .int p2])).length) Slot.unset).toArray = ls at hl ⊢
  have hl : lv_has ls 5 [(0, .ref a0), (1, .int p0), (2, .int p1), (3, .int p2)] := hl
  show W p l e rm_X12_pair s m args below meth c s.heap [] 0 0 _ _
  refine W.genQ (fun Q hQ => ?_)
  generalize hHe : s.heap = H at hP ⊢
  have hS : va_S A s.heap H [] := by rw [← hHe]; exact va_S.rf
  generalize ([] : List Loc) = locs at hS ⊢
  unfold f_X12_pair at hg
  refine lv_aload_n hx hb dX12_pair_0 rfl (lv_at hl 0 rfl) ?_
  refine lv_iload_n hx hb dX12_pair_1 rfl (lv_at hl 1 rfl) ?_
  obtain ⟨r_1, hr_1, hg⟩ := g_bd hg
  refine cc_i (va_runV (C := RX12) (As := [.int p0]) (rest := []) ⟨hx, hb, hml, hown, htb⟩ (k_X12_isLens a0 a0_a a0_image a0_texts a0_board a0_taken a0_fars a0_before a0_tape a0_pile a0_rows a0_told a0_values a0_truth a0_keeps v0 p0 r_1 hr_1) (cw_V 1 htb tg_1137 tg_13 tg_1134 tg_1136 ts_34 rfl rfl (by decide +kernel) ⟨Nat.le_of_ble_eq_true rfl, Nat.le_of_ble_eq_true rfl⟩) ⟨PC.blind, va_recv hK.1 hP (ci := 11) (q0 := 0) rfl rfl, PC.pre hK hT hP hD hS hA [0, 1, 2, 3, 4, 5, 6, 7, 8, 9, 10, 11, 12, 13, 14] rfl (by decide)⟩ rfl rfl hl.1 rfl (lv_room (Nat.le_of_ble_eq_true rfl)) dX12_pair_2 ⟨Nat.le_of_ble_eq_true rfl, Nat.le_of_ble_eq_true rfl⟩) hP hD hS hA [0, 1, 2, 3, 4, 5, 6, 7, 8, 9, 10, 11, 12, 13, 14] [] rfl rfl (by decide) (by decide) (fun r9 u9 H locs hw hP hD hS => ?_)
  have hw := hw.symm
  subst hw
  have hP : va_P D vwCl (WS_X12_pair cI cJ cZ cY a0 a0_a a0_image a0_texts a0_board a0_taken a0_fars a0_before a0_tape a0_pile a0_rows a0_told a0_values a0_truth a0_keeps v0) H := hP.sub [0, 1, 2, 3, 4, 5, 6, 7, 8, 9, 10, 11, 12, 13, 14] rfl
  have hD : va_D A (WS_X12_pair cI cJ cZ cY a0 a0_a a0_image a0_texts a0_board a0_taken a0_fars a0_before a0_tape a0_pile a0_rows a0_told a0_values a0_truth a0_keeps v0) := hD.sub [0, 1, 2, 3, 4, 5, 6, 7, 8, 9, 10, 11, 12, 13, 14] (by decide) rfl
  refine lv_if_eq (tgt := 42) hx hb dX12_pair_5 (by decide) (fun c_2 => ?_) (fun c_2 => ?_)
  · have hg := g_it hg c_2
    refine lv_iconst (v := (-1)) hx hb dX12_pair_42 (by decide) ?_
    have hg := Option.some.inj hg
    rw [hQ]
    exact W.iret (v := (-1)) hx hb hr (fun t ht hW => ⟨⟨(-1), (v0), rfl, ⟨by rw [← hg], by rw [← hg]⟩, by rw [ht]; exact hP, hD⟩, hS.F ht⟩) hS.2.2 dX12_pair_43
  · have hg := g_if hg c_2
    refine lv_aload_n hx hb dX12_pair_8 rfl (lv_at hl 0 rfl) ?_
    refine lv_iload_n hx hb dX12_pair_9 rfl (lv_at hl 2 rfl) ?_
    obtain ⟨r_3, hr_3, hg⟩ := g_bd hg
    refine cc_i (va_runV (C := RX12) (As := [.int p1]) (rest := []) ⟨hx, hb, hml, hown, htb⟩ (k_X12_isLens a0 a0_a a0_image a0_texts a0_board a0_taken a0_fars a0_before a0_tape a0_pile a0_rows a0_told a0_values a0_truth a0_keeps v0 p1 r_3 hr_3) (cw_V 1 htb tg_1137 tg_13 tg_1134 tg_1136 ts_34 rfl rfl (by decide +kernel) ⟨Nat.le_of_ble_eq_true rfl, Nat.le_of_ble_eq_true rfl⟩) ⟨PC.blind, va_recv hK.1 hP (ci := 11) (q0 := 0) rfl rfl, PC.pre hK hT hP hD hS hA [0, 1, 2, 3, 4, 5, 6, 7, 8, 9, 10, 11, 12, 13, 14] rfl (by decide)⟩ rfl rfl hl.1 rfl (lv_room (Nat.le_of_ble_eq_true rfl)) dX12_pair_10 ⟨Nat.le_of_ble_eq_true rfl, Nat.le_of_ble_eq_true rfl⟩) hP hD hS hA [0, 1, 2, 3, 4, 5, 6, 7, 8, 9, 10, 11, 12, 13, 14] [] rfl rfl (by decide) (by decide) (fun r9 u9 H locs hw hP hD hS => ?_)
    have hw := hw.symm
    subst hw
    have hP : va_P D vwCl (WS_X12_pair cI cJ cZ cY a0 a0_a a0_image a0_texts a0_board a0_taken a0_fars a0_before a0_tape a0_pile a0_rows a0_told a0_values a0_truth a0_keeps v0) H := hP.sub [0, 1, 2, 3, 4, 5, 6, 7, 8, 9, 10, 11, 12, 13, 14] rfl
    have hD : va_D A (WS_X12_pair cI cJ cZ cY a0 a0_a a0_image a0_texts a0_board a0_taken a0_fars a0_before a0_tape a0_pile a0_rows a0_told a0_values a0_truth a0_keeps v0) := hD.sub [0, 1, 2, 3, 4, 5, 6, 7, 8, 9, 10, 11, 12, 13, 14] (by decide) rfl
    refine lv_if_eq (tgt := 42) hx hb dX12_pair_13 (by decide) (fun c_4 => ?_) (fun c_4 => ?_)
    · have hg := g_it hg c_4
      refine lv_iconst (v := (-1)) hx hb dX12_pair_42 (by decide) ?_
      have hg := Option.some.inj hg
      rw [hQ]
      exact W.iret (v := (-1)) hx hb hr (fun t ht hW => ⟨⟨(-1), (v0), rfl, ⟨by rw [← hg], by rw [← hg]⟩, by rw [ht]; exact hP, hD⟩, hS.F ht⟩) hS.2.2 dX12_pair_43
    · have hg := g_if hg c_4
      refine lv_iload_n hx hb dX12_pair_16 rfl (lv_at hl 1 rfl) ?_
      refine lv_iload_n hx hb dX12_pair_17 rfl (lv_at hl 2 rfl) ?_
      refine lv_icmp_eq (tgt := 42) hx hb dX12_pair_18 (by decide) (fun c_5 => ?_) (fun c_5 => ?_)
      · have hg := g_it hg c_5
        refine lv_iconst (v := (-1)) hx hb dX12_pair_42 (by decide) ?_
        have hg := Option.some.inj hg
        rw [hQ]
        exact W.iret (v := (-1)) hx hb hr (fun t ht hW => ⟨⟨(-1), (v0), rfl, ⟨by rw [← hg], by rw [← hg]⟩, by rw [ht]; exact hP, hD⟩, hS.F ht⟩) hS.2.2 dX12_pair_43
      · have hg := g_if hg c_5
        refine lv_iload_n hx hb dX12_pair_21 rfl (lv_at hl 3 rfl) ?_
        refine lv_iconst (v := 1) hx hb dX12_pair_22 (by decide) ?_
        refine lv_bipush (v := 8) hx hb dX12_pair_23 (by decide) ?_
        obtain ⟨r_6, hr_6, hg⟩ := g_bd hg
        refine cc_i (va_runS (As := [.int p2, .int 1, .int 8]) (rest := []) ⟨hx, hb, hml, hown, htb⟩ (k_X12_isIn p2 1 8 r_6 hr_6) (cw_S 3 htb tg_1078 tg_13 tg_1076 tg_1077 rfl rfl (by decide +kernel) ⟨Nat.le_of_ble_eq_true rfl, Nat.le_of_ble_eq_true rfl⟩) ⟨PC.blind, PC.pre hK hT hP hD hS hA [] rfl (by decide)⟩ rfl rfl hl.1 rfl (lv_room (Nat.le_of_ble_eq_true rfl)) dX12_pair_25 ⟨Nat.le_of_ble_eq_true rfl, Nat.le_of_ble_eq_true rfl⟩) hP hD hS hA [] [0, 1, 2, 3, 4, 5, 6, 7, 8, 9, 10, 11, 12, 13, 14] rfl rfl (by decide) (by decide) (fun r9 u9 H locs hw hP hD hS => ?_)
        have hw := hw.symm
        subst hw
        have hP : va_P D vwCl (WS_X12_pair cI cJ cZ cY a0 a0_a a0_image a0_texts a0_board a0_taken a0_fars a0_before a0_tape a0_pile a0_rows a0_told a0_values a0_truth a0_keeps v0) H := hP.sub [0, 1, 2, 3, 4, 5, 6, 7, 8, 9, 10, 11, 12, 13, 14] rfl
        have hD : va_D A (WS_X12_pair cI cJ cZ cY a0 a0_a a0_image a0_texts a0_board a0_taken a0_fars a0_before a0_tape a0_pile a0_rows a0_told a0_values a0_truth a0_keeps v0) := hD.sub [0, 1, 2, 3, 4, 5, 6, 7, 8, 9, 10, 11, 12, 13, 14] (by decide) rfl
        refine lv_if_eq (tgt := 42) hx hb dX12_pair_28 (by decide) (fun c_7 => ?_) (fun c_7 => ?_)
        · have hg := g_it hg c_7
          refine lv_iconst (v := (-1)) hx hb dX12_pair_42 (by decide) ?_
          have hg := Option.some.inj hg
          rw [hQ]
          exact W.iret (v := (-1)) hx hb hr (fun t ht hW => ⟨⟨(-1), (v0), rfl, ⟨by rw [← hg], by rw [← hg]⟩, by rw [ht]; exact hP, hD⟩, hS.F ht⟩) hS.2.2 dX12_pair_43
        · have hg := g_if hg c_7
          refine lv_aload_n hx hb dX12_pair_31 rfl (lv_at hl 0 rfl) ?_
          refine va_get (ci := 11) (v := .ref a0_a) (C := RX12) (T := TX12) (N := 43) hx hb htb uX12 hown hK.1 hP 0 rfl rfl 2 (by decide) (htb _ tg_938) (fun _ h9 => h9) rfl dX12_pair_32 ?_
          refine lv_iconst (v := 2) hx hb dX12_pair_35 (by decide) ?_
          obtain ⟨h_8, hg⟩ := g_gde hg
          refine va_iald hx hb hK.1 hP 1 0 rfl rfl (inB_vp h_8) dX12_pair_36 ?_
          refine lv_bipush (v := 16) hx hb dX12_pair_37 (by decide) ?_
          refine lv_icmp_ne (tgt := 44) hx hb dX12_pair_39 (by decide) (fun c_9 => ?_) (fun c_9 => ?_)
          · have hg := g_if hg c_9
            refine lv_sipush (v := 660) hx hb dX12_pair_44 (by decide) ?_
            refine lv_iconst (v := 3) hx hb dX12_pair_47 (by decide) ?_
            refine lv_aload_n hx hb dX12_pair_48 rfl (lv_at hl 0 rfl) ?_
            refine va_get (ci := 11) (v := .ref a0_a) (C := RX12) (T := TX12) (N := 43) hx hb htb uX12 hown hK.1 hP 0 rfl rfl 2 (by decide) (htb _ tg_938) (fun _ h9 => h9) rfl dX12_pair_49 ?_
            refine lv_iconst (v := 2) hx hb dX12_pair_52 (by decide) ?_
            obtain ⟨h_10, hg⟩ := g_gde hg
            refine va_iald hx hb hK.1 hP 1 0 rfl rfl (inB_vp h_10) dX12_pair_53 ?_
            refine lv_imul hx hb dX12_pair_54 ?_
            refine lv_iadd hx hb dX12_pair_55 ?_
            refine lv_topi (fun x4_11 ex4_11 => ?_)
            have hg := g_lte hg x4_11 ex4_11
            refine lv_istore (lv' := [(4, .int x4_11), (0, .ref a0), (1, .int p0), (2, .int p1), (3, .int p2)]) hx hb dX12_pair_56 hl (by decide) rfl (fun ls hl => ?_)
            refine lv_aload_n hx hb dX12_pair_58 rfl (lv_at hl 1 rfl) ?_
            refine va_get (ci := 11) (v := .ref a0_a) (C := RX12) (T := TX12) (N := 43) hx hb htb uX12 hown hK.1 hP 0 rfl rfl 2 (by decide) (htb _ tg_938) (fun _ h9 => h9) rfl dX12_pair_59 ?_
            refine lv_iload hx hb dX12_pair_62 (lv_at hl 0 rfl) ?_
            refine lv_iload_n hx hb dX12_pair_64 rfl (lv_at hl 2 rfl) ?_
            obtain ⟨h_12, hg⟩ := g_gde hg
            refine va_iast hx hb hK.1 hP hD hS 1 0 rfl rfl (inB_vp h_12) dX12_pair_65 (fun H locs hP hD hS => ?_)
            obtain ⟨v0_13, ev0_13⟩ : ∃ z, z = sX12_a v0 (upd (pX12_a v0) (x4_11 : Int32).toNatClampNeg p0) := ⟨_, rfl⟩
            have hP : va_P D vwCl (WS_X12_pair cI cJ cZ cY a0 a0_a a0_image a0_texts a0_board a0_taken a0_fars a0_before a0_tape a0_pile a0_rows a0_told a0_values a0_truth a0_keeps v0_13) H := by rw [ev0_13]; exact hP
            have hD : va_D A (WS_X12_pair cI cJ cZ cY a0 a0_a a0_image a0_texts a0_board a0_taken a0_fars a0_before a0_tape a0_pile a0_rows a0_told a0_values a0_truth a0_keeps v0_13) := by rw [ev0_13]; exact hD
            have hg := g_lte hg v0_13 ev0_13
            refine lv_aload_n hx hb dX12_pair_66 rfl (lv_at hl 1 rfl) ?_
            refine va_get (ci := 11) (v := .ref a0_a) (C := RX12) (T := TX12) (N := 43) hx hb htb uX12 hown hK.1 hP 0 rfl rfl 2 (by decide) (htb _ tg_938) (fun _ h9 => h9) rfl dX12_pair_67 ?_
            refine lv_iload hx hb dX12_pair_70 (lv_at hl 0 rfl) ?_
            refine lv_iconst (v := 1) hx hb dX12_pair_72 (by decide) ?_
            refine lv_iadd hx hb dX12_pair_73 ?_
            refine lv_iload_n hx hb dX12_pair_74 rfl (lv_at hl 3 rfl) ?_
            obtain ⟨h_14, hg⟩ := g_gde hg
            refine va_iast hx hb hK.1 hP hD hS 1 0 rfl rfl (inB_vp h_14) dX12_pair_75 (fun H locs hP hD hS => ?_)
            obtain ⟨v0_15, ev0_15⟩ : ∃ z, z = sX12_a v0_13 (upd (pX12_a v0_13) ((x4_11 + 1) : Int32).toNatClampNeg p1) := ⟨_, rfl⟩
            have hP : va_P D vwCl (WS_X12_pair cI cJ cZ cY a0 a0_a a0_image a0_texts a0_board a0_taken a0_fars a0_before a0_tape a0_pile a0_rows a0_told a0_values a0_truth a0_keeps v0_15) H := by rw [ev0_15]; exact hP
            have hD : va_D A (WS_X12_pair cI cJ cZ cY a0 a0_a a0_image a0_texts a0_board a0_taken a0_fars a0_before a0_tape a0_pile a0_rows a0_told a0_values a0_truth a0_keeps v0_15) := by rw [ev0_15]; exact hD
            have hg := g_lte hg v0_15 ev0_15
            refine lv_aload_n hx hb dX12_pair_76 rfl (lv_at hl 1 rfl) ?_
            refine va_get (ci := 11) (v := .ref a0_a) (C := RX12) (T := TX12) (N := 43) hx hb htb uX12 hown hK.1 hP 0 rfl rfl 2 (by decide) (htb _ tg_938) (fun _ h9 => h9) rfl dX12_pair_77 ?_
            refine lv_iload hx hb dX12_pair_80 (lv_at hl 0 rfl) ?_
            refine lv_iconst (v := 2) hx hb dX12_pair_82 (by decide) ?_
            refine lv_iadd hx hb dX12_pair_83 ?_
            refine lv_iload_n hx hb dX12_pair_84 rfl (lv_at hl 4 rfl) ?_
            obtain ⟨h_16, hg⟩ := g_gde hg
            refine va_iast hx hb hK.1 hP hD hS 1 0 rfl rfl (inB_vp h_16) dX12_pair_85 (fun H locs hP hD hS => ?_)
            obtain ⟨v0_17, ev0_17⟩ : ∃ z, z = sX12_a v0_15 (upd (pX12_a v0_15) ((x4_11 + 2) : Int32).toNatClampNeg p2) := ⟨_, rfl⟩
            have hP : va_P D vwCl (WS_X12_pair cI cJ cZ cY a0 a0_a a0_image a0_texts a0_board a0_taken a0_fars a0_before a0_tape a0_pile a0_rows a0_told a0_values a0_truth a0_keeps v0_17) H := by rw [ev0_17]; exact hP
            have hD : va_D A (WS_X12_pair cI cJ cZ cY a0 a0_a a0_image a0_texts a0_board a0_taken a0_fars a0_before a0_tape a0_pile a0_rows a0_told a0_values a0_truth a0_keeps v0_17) := by rw [ev0_17]; exact hD
            have hg := g_lte hg v0_17 ev0_17
            refine lv_aload_n hx hb dX12_pair_86 rfl (lv_at hl 1 rfl) ?_
            refine va_get (ci := 11) (v := .ref a0_a) (C := RX12) (T := TX12) (N := 43) hx hb htb uX12 hown hK.1 hP 0 rfl rfl 2 (by decide) (htb _ tg_938) (fun _ h9 => h9) rfl dX12_pair_87 ?_
            refine lv_iconst (v := 2) hx hb dX12_pair_90 (by decide) ?_
            refine lv_dup2_11 hx hb dX12_pair_91 rfl rfl ?_
            obtain ⟨h_18, hg⟩ := g_gde hg
            refine va_iald hx hb hK.1 hP 1 0 rfl rfl (inB_vp h_18) dX12_pair_92 ?_
            refine lv_iconst (v := 1) hx hb dX12_pair_93 (by decide) ?_
            refine lv_iadd hx hb dX12_pair_94 ?_
            refine lv_topi (fun x_19 ex_19 => ?_)
            have hg := g_lte hg x_19 ex_19
            obtain ⟨h_20, hg⟩ := g_gde hg
            refine va_iast hx hb hK.1 hP hD hS 1 0 rfl rfl (inB_vp h_20) dX12_pair_95 (fun H locs hP hD hS => ?_)
            obtain ⟨v0_21, ev0_21⟩ : ∃ z, z = sX12_a v0_17 (upd (pX12_a v0_17) (2 : Int32).toNatClampNeg x_19) := ⟨_, rfl⟩
            have hP : va_P D vwCl (WS_X12_pair cI cJ cZ cY a0 a0_a a0_image a0_texts a0_board a0_taken a0_fars a0_before a0_tape a0_pile a0_rows a0_told a0_values a0_truth a0_keeps v0_21) H := by rw [ev0_21]; exact hP
            have hD : va_D A (WS_X12_pair cI cJ cZ cY a0 a0_a a0_image a0_texts a0_board a0_taken a0_fars a0_before a0_tape a0_pile a0_rows a0_told a0_values a0_truth a0_keeps v0_21) := by rw [ev0_21]; exact hD
            have hg := g_lte hg v0_21 ev0_21
            refine lv_aload_n hx hb dX12_pair_96 rfl (lv_at hl 1 rfl) ?_
            refine va_get (ci := 11) (v := .ref a0_a) (C := RX12) (T := TX12) (N := 43) hx hb htb uX12 hown hK.1 hP 0 rfl rfl 2 (by decide) (htb _ tg_938) (fun _ h9 => h9) rfl dX12_pair_97 ?_
            refine lv_iconst (v := 2) hx hb dX12_pair_100 (by decide) ?_
            obtain ⟨h_22, hg⟩ := g_gde hg
            refine va_iald hx hb hK.1 hP 1 0 rfl rfl (inB_vp h_22) dX12_pair_101 ?_
            refine lv_iconst (v := 1) hx hb dX12_pair_102 (by decide) ?_
            refine lv_isub hx hb dX12_pair_103 ?_
            have hg := Option.some.inj hg
            rw [hQ]
            exact W.iret (v := (((pX12_a v0_21) (2 : Int32).toNatClampNeg) - 1)) hx hb hr (fun t ht hW => ⟨⟨(((pX12_a v0_21) (2 : Int32).toNatClampNeg) - 1), (v0_21), rfl, ⟨by rw [← hg], by rw [← hg]⟩, by rw [ht]; exact hP, hD⟩, hS.F ht⟩) hS.2.2 dX12_pair_104
          · have hg := g_it hg c_9
            refine lv_iconst (v := (-1)) hx hb dX12_pair_42 (by decide) ?_
            have hg := Option.some.inj hg
            rw [hQ]
            exact W.iret (v := (-1)) hx hb hr (fun t ht hW => ⟨⟨(-1), (v0), rfl, ⟨by rw [← hg], by rw [← hg]⟩, by rw [ht]; exact hP, hD⟩, hS.F ht⟩) hS.2.2 dX12_pair_43

/-! ManyEyesModel.takeOf(III)I -/
def WS_X12_takeOf (cI cJ cZ cY : ClassId) (a0 a0_a a0_image a0_texts a0_board a0_taken a0_fars a0_before a0_tape a0_pile a0_rows a0_told a0_values a0_truth a0_keeps : Nat) (v0 : BX12) : va_W := (GX12 cI cJ cZ cY a0 a0_a a0_image a0_texts a0_board a0_taken a0_fars a0_before a0_tape a0_pile a0_rows a0_told a0_values a0_truth a0_keeps v0)
def f_X12_takeOf_b7B (v0 : BX12) (J7 : Int32 × Int32 × Int32 × Int32 × Int32 → Option (Int32)) (x1 : Int32) (x2 : Int32) (x3 : Int32) (x4 : Int32) (x5 : Int32) : Option (Int32) := if (x2 : Int32) < x5 then (g_gd (¬ (((x2 + 1) * (x2 + 1)) : Int32) = 0) (some (x4 / ((x2 + 1) * (x2 + 1))))) else ((f_X12_abs x5).bind (fun r_3 => g_gd (inB ((((x3 + x1) + x5) + 64) - (((x3 + x1) + x5) + 64) / 64 * 64) 64) (g_lt ((x4 + (((x2 + 1) - r_3) * ((pX12_taken v0) (((((x3 + x1) + x5) + 64) - (((x3 + x1) + x5) + 64) / 64 * 64) : Int32).toNatClampNeg))) : Int32) (fun x4_6 => g_lt (x5 + 1 : Int32) (fun x5_7 => J7 (x1, x2, x3, x4_6, x5_7))))))
def f_X12_takeOf_b7 (v0 : BX12) : Nat → (Int32 × Int32 × Int32 × Int32 × Int32) → Option (Int32) := g_lp (fun J z => f_X12_takeOf_b7B v0 J z.1 z.2.1 z.2.2.1 z.2.2.2.1 z.2.2.2.2)
def f_X12_takeOf (v0 : BX12) (p0 : Int32) (p1 : Int32) (p2 : Int32) : Option (Int32) := g_lt ((-p1) : Int32) (fun x5_8 => f_X12_takeOf_b7 v0 fU (p0, p1, p2, 0, x5_8))
abbrev rm_X12_takeOf : Room := { frames := 1, cells := 0, slots := 0, locals := 20 }
set_option maxHeartbeats 4000000 in
set_option maxRecDepth 100000 in
theorem k_X12_takeOf {l : Launch} {D : va_G} {cI cJ cZ cY : ClassId} {tX tY : Nat} {sz : Nat} (a0 a0_a a0_image a0_texts a0_board a0_taken a0_fars a0_before a0_tape a0_pile a0_rows a0_told a0_values a0_truth a0_keeps : Nat) (v0 : BX12) (p0 : Int32) (p1 : Int32) (p2 : Int32) (res : Int32) (hg : f_X12_takeOf v0 p0 p1 p2 = some res) : Met l yX12_takeOf (Cond.code yX12_takeOf cX12_takeOf 6 (some .int) :: TB) rm_X12_takeOf (PC D cI cJ cZ cY tX tY [.ref a0, .int p0, .int p1, .int p2] (WS_X12_takeOf cI cJ cZ cY a0 a0_a a0_image a0_texts a0_board a0_taken a0_fars a0_before a0_tape a0_pile a0_rows a0_told a0_values a0_truth a0_keeps v0) sz) (va_Qi (fun (r : Int32) (_ : Unit) => r = res) (BC D (fun _ : Unit => WS_X12_takeOf cI cJ cZ cY a0 a0_a a0_image a0_texts a0_board a0_taken a0_fars a0_before a0_tape a0_pile a0_rows a0_told a0_values a0_truth a0_keeps v0) (va_A (WS_X12_takeOf cI cJ cZ cY a0 a0_a a0_image a0_texts a0_board a0_taken a0_fars a0_before a0_tape a0_pile a0_rows a0_told a0_values a0_truth a0_keeps v0) sz)) (va_A (WS_X12_takeOf cI cJ cZ cY a0 a0_a a0_image a0_texts a0_board a0_taken a0_fars a0_before a0_tape a0_pile a0_rows a0_told a0_values a0_truth a0_keeps v0) sz)) 0 0 (va_A (WS_X12_takeOf cI cJ cZ cY a0 a0_a a0_image a0_texts a0_board a0_taken a0_fars a0_before a0_tape a0_pile a0_rows a0_told a0_values a0_truth a0_keeps v0) sz) := by
  refine Met.ofW (cc := cX12_takeOf) (maxL := 6) (ret := (some .int)) (by decide) rfl ?_
  intro p e s m args below meth c s₁ B hml hv
  obtain ⟨hargs, hsz, hP, hK, hD0, hT⟩ := hv
  have hx := B.exec
  have hb := B.bytes
  have hr := B.returns
  have htb : ∀ w ∈ TB, w.before args s = true := fun w h => atoms_spec (ws := Cond.code yX12_takeOf cX12_takeOf 6 (some .int) :: TB) B.pre w (List.mem_cons_of_mem _ h)
  have hown : s.vm.findClass "ManyEyesModel" = some m.cls := findClass_of_methodNamed B.named
  have hlocks := B.notSynchronized
  subst hsz
  have hD := hD0.self (sz := s.heap.size)
  generalize hAe : va_A (WS_X12_takeOf cI cJ cZ cY a0 a0_a a0_image a0_texts a0_board a0_taken a0_fars a0_before a0_tape a0_pile a0_rows a0_told a0_values a0_truth a0_keeps v0) s.heap.size = A at hD hT ⊢
  have hA : ∀ q : Nat, s.heap.size ≤ q → A q := fun q h => by rw [← hAe]; exact Or.inr h
  have hS : va_S A s.heap s.heap [] := va_S.rf
  have hl := lv_entry ([.ref a0, .int p0, .int p1, .int p2]) (n := 6) (Nat.le_of_ble_eq_true rfl)
  have he : entryFrame m args 6 = F0 m 0 (lg_sl ([.ref a0, .int p0, .int p1, .int p2]) ++ List.replicate (6 - (lg_sl ([.ref a0, .int p0, .int p1, .int p2])).length) Slot.unset).toArray [] := by rw [hargs, lg_entry_eq]
  rw [he]
  generalize (lg_sl ([.ref a0, .int p0, .int p1, .int p2]) ++ List.replicate (6 - (lg_sl ([.ref a0, .int p0, .int p1, .int p2])).length) Slot.unset).toArray = ls at hl ⊢
  have hl : lv_has ls 6 [(0, .ref a0), (1, .int p0), (2, .int p1), (3, .int p2)] := hl
  show W p l e rm_X12_takeOf s m args below meth c s.heap [] 0 0 _ _
  refine W.genQ (fun Q hQ => ?_)
  have b_7 : ∀ (n : Nat), ∀ (x1 : Int32) (x2 : Int32) (x3 : Int32) (x4 : Int32) (x5 : Int32) (H : Heap) (locs : List Loc) (ls : Array Slot), va_P D vwCl (WS_X12_takeOf cI cJ cZ cY a0 a0_a a0_image a0_texts a0_board a0_taken a0_fars a0_before a0_tape a0_pile a0_rows a0_told a0_values a0_truth a0_keeps v0) H → va_D A (WS_X12_takeOf cI cJ cZ cY a0 a0_a a0_image a0_texts a0_board a0_taken a0_fars a0_before a0_tape a0_pile a0_rows a0_told a0_values a0_truth a0_keeps v0) → va_S A s.heap H locs → lv_has ls 6 [(0, .ref a0), (1, .int x1), (2, .int x2), (3, .int x3), (4, .int x4), (5, .int x5)] → f_X12_takeOf_b7 v0 n (x1, x2, x3, x4, x5) = some res → W p l e rm_X12_takeOf s m args below meth c H locs 0 0 Q (F0 m 7 ls []) := by
    intro n
    induction n with
    | zero =>
      intro x1 x2 x3 x4 x5 H locs ls hP hD hS hl hg
      exact (g_lp0 hg).elim
    | succ n ih =>
      intro x1 x2 x3 x4 x5 H locs ls hP hD hS hl hg
      have hg : f_X12_takeOf_b7B v0 (f_X12_takeOf_b7 v0 n) x1 x2 x3 x4 x5 = some res := hg
      unfold f_X12_takeOf_b7B at hg
      refine lv_iload hx hb dX12_takeOf_7 (lv_at hl 5 rfl) ?_
      refine lv_iload_n hx hb dX12_takeOf_9 rfl (lv_at hl 2 rfl) ?_
      refine lv_icmp_gt (tgt := 51) hx hb dX12_takeOf_10 (by decide) (fun c_1 => ?_) (fun c_1 => ?_)
      · have hg := g_it hg c_1
        refine lv_iload hx hb dX12_takeOf_51 (lv_at hl 4 rfl) ?_
        refine lv_iload_n hx hb dX12_takeOf_53 rfl (lv_at hl 2 rfl) ?_
        refine lv_iconst (v := 1) hx hb dX12_takeOf_54 (by decide) ?_
        refine lv_iadd hx hb dX12_takeOf_55 ?_
        refine lv_iload_n hx hb dX12_takeOf_56 rfl (lv_at hl 2 rfl) ?_
        refine lv_iconst (v := 1) hx hb dX12_takeOf_57 (by decide) ?_
        refine lv_iadd hx hb dX12_takeOf_58 ?_
        refine lv_imul hx hb dX12_takeOf_59 ?_
        obtain ⟨h_2, hg⟩ := g_gde hg
        refine lv_idiv hx hb dX12_takeOf_60 h_2 ?_
        have hg := Option.some.inj hg
        rw [hQ]
        exact W.iret (v := (x4 / ((x2 + 1) * (x2 + 1)))) hx hb hr (fun t ht hW => ⟨⟨(x4 / ((x2 + 1) * (x2 + 1))), (), rfl, hg, by rw [ht]; exact hP, hD⟩, hS.F ht⟩) hS.2.2 dX12_takeOf_61
      · have hg := g_if hg c_1
        refine lv_iload hx hb dX12_takeOf_13 (lv_at hl 4 rfl) ?_
        refine lv_iload_n hx hb dX12_takeOf_15 rfl (lv_at hl 2 rfl) ?_
        refine lv_iconst (v := 1) hx hb dX12_takeOf_16 (by decide) ?_
        refine lv_iadd hx hb dX12_takeOf_17 ?_
        refine lv_iload hx hb dX12_takeOf_18 (lv_at hl 5 rfl) ?_
        obtain ⟨r_3, hr_3, hg⟩ := g_bd hg
        refine cc_i (va_runS (As := [.int x5]) (rest := [.int (x2 + 1), .int x4]) ⟨hx, hb, hml, hown, htb⟩ (k_X12_abs x5 r_3 hr_3) (cw_S 1 htb tg_1156 tg_13 tg_1154 tg_1155 rfl rfl (by decide +kernel) ⟨Nat.le_of_ble_eq_true rfl, Nat.le_of_ble_eq_true rfl⟩) ⟨PC.blind, PC.pre hK hT hP hD hS hA [] rfl (by decide)⟩ rfl rfl hl.1 rfl (lv_room (Nat.le_of_ble_eq_true rfl)) dX12_takeOf_20 ⟨Nat.le_of_ble_eq_true rfl, Nat.le_of_ble_eq_true rfl⟩) hP hD hS hA [] [0, 1, 2, 3, 4, 5, 6, 7, 8, 9, 10, 11, 12, 13, 14] rfl rfl (by decide) (by decide) (fun r9 u9 H locs hw hP hD hS => ?_)
        have hw := hw.symm
        subst hw
        have hP : va_P D vwCl (WS_X12_takeOf cI cJ cZ cY a0 a0_a a0_image a0_texts a0_board a0_taken a0_fars a0_before a0_tape a0_pile a0_rows a0_told a0_values a0_truth a0_keeps v0) H := hP.sub [0, 1, 2, 3, 4, 5, 6, 7, 8, 9, 10, 11, 12, 13, 14] rfl
        have hD : va_D A (WS_X12_takeOf cI cJ cZ cY a0 a0_a a0_image a0_texts a0_board a0_taken a0_fars a0_before a0_tape a0_pile a0_rows a0_told a0_values a0_truth a0_keeps v0) := hD.sub [0, 1, 2, 3, 4, 5, 6, 7, 8, 9, 10, 11, 12, 13, 14] (by decide) rfl
        refine lv_isub hx hb dX12_takeOf_23 ?_
        refine lv_aload_n hx hb dX12_takeOf_24 rfl (lv_at hl 0 rfl) ?_
        refine va_get (ci := 11) (v := .ref a0_taken) (C := RX12) (T := TX12) (N := 43) hx hb htb uX12 hown hK.1 hP 0 rfl rfl 6 (by decide) (htb _ tg_942) (fun _ h9 => h9) rfl dX12_takeOf_25 ?_
        refine lv_iload_n hx hb dX12_takeOf_28 rfl (lv_at hl 3 rfl) ?_
        refine lv_iload_n hx hb dX12_takeOf_29 rfl (lv_at hl 1 rfl) ?_
        refine lv_iadd hx hb dX12_takeOf_30 ?_
        refine lv_iload hx hb dX12_takeOf_31 (lv_at hl 5 rfl) ?_
        refine lv_iadd hx hb dX12_takeOf_33 ?_
        refine lv_bipush (v := 64) hx hb dX12_takeOf_34 (by decide) ?_
        refine lv_iadd hx hb dX12_takeOf_36 ?_
        refine lv_bipush (v := 64) hx hb dX12_takeOf_37 (by decide) ?_
        refine lv_irem hx hb dX12_takeOf_39 (by decide) ?_
        obtain ⟨h_5, hg⟩ := g_gde hg
        refine va_iald hx hb hK.1 hP 5 0 rfl rfl (inB_vp h_5) dX12_takeOf_40 ?_
        refine lv_imul hx hb dX12_takeOf_41 ?_
        refine lv_iadd hx hb dX12_takeOf_42 ?_
        refine lv_topi (fun x4_6 ex4_6 => ?_)
        have hg := g_lte hg x4_6 ex4_6
        refine lv_istore (lv' := [(4, .int x4_6), (0, .ref a0), (1, .int x1), (2, .int x2), (3, .int x3), (5, .int x5)]) hx hb dX12_takeOf_43 hl (by decide) rfl (fun ls hl => ?_)
        obtain ⟨x5_7, ex5_7⟩ : ∃ z : Int32, z = x5 + 1 := ⟨_, rfl⟩
        have hg := g_lte hg x5_7 ex5_7
        refine lv_iinc (v := x5_7) (lv' := [(5, .int x5_7), (4, .int x4_6), (0, .ref a0), (1, .int x1), (2, .int x2), (3, .int x3)]) hx hb dX12_takeOf_45 hl (k := 5) rfl (by rw [ex5_7]; rfl) (by decide) rfl (fun ls hl => ?_)
        refine lv_goto (tgt := 7) hx hb dX12_takeOf_48 (by decide) ?_
        exact ih x1 x2 x3 x4_6 x5_7 H locs ls hP hD hS (lv_sub hl [2, 3, 4, 5, 1, 0] rfl) hg
  generalize hHe : s.heap = H at hP ⊢
  have hS : va_S A s.heap H [] := by rw [← hHe]; exact va_S.rf
  generalize ([] : List Loc) = locs at hS ⊢
  unfold f_X12_takeOf at hg
  refine lv_iconst (v := 0) hx hb dX12_takeOf_0 (by decide) ?_
  refine lv_istore (lv' := [(4, .int 0), (0, .ref a0), (1, .int p0), (2, .int p1), (3, .int p2)]) hx hb dX12_takeOf_1 hl (by decide) rfl (fun ls hl => ?_)
  refine lv_iload_n hx hb dX12_takeOf_3 rfl (lv_at hl 3 rfl) ?_
  refine lv_ineg hx hb dX12_takeOf_4 ?_
  refine lv_topi (fun x5_8 ex5_8 => ?_)
  have hg := g_lte hg x5_8 ex5_8
  refine lv_istore (lv' := [(5, .int x5_8), (4, .int 0), (0, .ref a0), (1, .int p0), (2, .int p1), (3, .int p2)]) hx hb dX12_takeOf_5 hl (by decide) rfl (fun ls hl => ?_)
  exact b_7 fU p0 p1 p2 0 x5_8 H locs ls hP hD hS (lv_sub hl [2, 3, 4, 5, 1, 0] rfl) hg

/-! ManyEyesModel.lensTake(II)I -/
def WS_X12_lensTake (cI cJ cZ cY : ClassId) (a0 a0_a a0_image a0_texts a0_board a0_taken a0_fars a0_before a0_tape a0_pile a0_rows a0_told a0_values a0_truth a0_keeps : Nat) (v0 : BX12) : va_W := (GX12 cI cJ cZ cY a0 a0_a a0_image a0_texts a0_board a0_taken a0_fars a0_before a0_tape a0_pile a0_rows a0_told a0_values a0_truth a0_keeps v0)
def f_X12_lensTake (v0 : BX12) (p0 : Int32) (p1 : Int32) : Option (Int32) := g_gd (inB ((620 : Int32) + ((2 : Int32) * p0)) 3170) (g_gd (inB (((620 : Int32) + ((2 : Int32) * p0)) + 1) 3170) ((f_X12_takeOf v0 ((pX12_a v0) (((620 : Int32) + ((2 : Int32) * p0)) : Int32).toNatClampNeg) ((pX12_a v0) ((((620 : Int32) + ((2 : Int32) * p0)) + 1) : Int32).toNatClampNeg) p1).bind (fun r_3 => some r_3)))
abbrev rm_X12_lensTake : Room := { frames := 2, cells := 0, slots := 0, locals := 45 }
set_option maxHeartbeats 4000000 in
set_option maxRecDepth 100000 in
theorem k_X12_lensTake {l : Launch} {D : va_G} {cI cJ cZ cY : ClassId} {tX tY : Nat} {sz : Nat} (a0 a0_a a0_image a0_texts a0_board a0_taken a0_fars a0_before a0_tape a0_pile a0_rows a0_told a0_values a0_truth a0_keeps : Nat) (v0 : BX12) (p0 : Int32) (p1 : Int32) (res : Int32) (hg : f_X12_lensTake v0 p0 p1 = some res) : Met l yX12_lensTake (Cond.code yX12_lensTake cX12_lensTake 3 (some .int) :: TB) rm_X12_lensTake (PC D cI cJ cZ cY tX tY [.ref a0, .int p0, .int p1] (WS_X12_lensTake cI cJ cZ cY a0 a0_a a0_image a0_texts a0_board a0_taken a0_fars a0_before a0_tape a0_pile a0_rows a0_told a0_values a0_truth a0_keeps v0) sz) (va_Qi (fun (r : Int32) (_ : Unit) => r = res) (BC D (fun _ : Unit => WS_X12_lensTake cI cJ cZ cY a0 a0_a a0_image a0_texts a0_board a0_taken a0_fars a0_before a0_tape a0_pile a0_rows a0_told a0_values a0_truth a0_keeps v0) (va_A (WS_X12_lensTake cI cJ cZ cY a0 a0_a a0_image a0_texts a0_board a0_taken a0_fars a0_before a0_tape a0_pile a0_rows a0_told a0_values a0_truth a0_keeps v0) sz)) (va_A (WS_X12_lensTake cI cJ cZ cY a0 a0_a a0_image a0_texts a0_board a0_taken a0_fars a0_before a0_tape a0_pile a0_rows a0_told a0_values a0_truth a0_keeps v0) sz)) 0 0 (va_A (WS_X12_lensTake cI cJ cZ cY a0 a0_a a0_image a0_texts a0_board a0_taken a0_fars a0_before a0_tape a0_pile a0_rows a0_told a0_values a0_truth a0_keeps v0) sz) := by
  refine Met.ofW (cc := cX12_lensTake) (maxL := 3) (ret := (some .int)) (by decide) rfl ?_
  intro p e s m args below meth c s₁ B hml hv
  obtain ⟨hargs, hsz, hP, hK, hD0, hT⟩ := hv
  have hx := B.exec
  have hb := B.bytes
  have hr := B.returns
  have htb : ∀ w ∈ TB, w.before args s = true := fun w h => atoms_spec (ws := Cond.code yX12_lensTake cX12_lensTake 3 (some .int) :: TB) B.pre w (List.mem_cons_of_mem _ h)
  have hown : s.vm.findClass "ManyEyesModel" = some m.cls := findClass_of_methodNamed B.named
  have hlocks := B.notSynchronized
  subst hsz
  have hD := hD0.self (sz := s.heap.size)
  generalize hAe : va_A (WS_X12_lensTake cI cJ cZ cY a0 a0_a a0_image a0_texts a0_board a0_taken a0_fars a0_before a0_tape a0_pile a0_rows a0_told a0_values a0_truth a0_keeps v0) s.heap.size = A at hD hT ⊢
  have hA : ∀ q : Nat, s.heap.size ≤ q → A q := fun q h => by rw [← hAe]; exact Or.inr h
  have hS : va_S A s.heap s.heap [] := va_S.rf
  have hl := lv_entry ([.ref a0, .int p0, .int p1]) (n := 3) (Nat.le_of_ble_eq_true rfl)
  have he : entryFrame m args 3 = F0 m 0 (lg_sl ([.ref a0, .int p0, .int p1]) ++ List.replicate (3 - (lg_sl ([.ref a0, .int p0, .int p1])).length) Slot.unset).toArray [] := by rw [hargs, lg_entry_eq]
  rw [he]
  generalize (lg_sl ([.ref a0, .int p0, .int p1]) ++ List.replicate (3 - (lg_sl ([.ref a0, .int p0, .int p1])).length) Slot.unset).toArray = ls at hl ⊢
  have hl : lv_has ls 3 [(0, .ref a0), (1, .int p0), (2, .int p1)] := hl
  show W p l e rm_X12_lensTake s m args below meth c s.heap [] 0 0 _ _
  refine W.genQ (fun Q hQ => ?_)
  generalize hHe : s.heap = H at hP ⊢
  have hS : va_S A s.heap H [] := by rw [← hHe]; exact va_S.rf
  generalize ([] : List Loc) = locs at hS ⊢
  unfold f_X12_lensTake at hg
  refine lv_aload_n hx hb dX12_lensTake_0 rfl (lv_at hl 0 rfl) ?_
  refine lv_aload_n hx hb dX12_lensTake_1 rfl (lv_at hl 0 rfl) ?_
  refine va_get (ci := 11) (v := .ref a0_a) (C := RX12) (T := TX12) (N := 43) hx hb htb uX12 hown hK.1 hP 0 rfl rfl 2 (by decide) (htb _ tg_938) (fun _ h9 => h9) rfl dX12_lensTake_2 ?_
  refine lv_sipush (v := 620) hx hb dX12_lensTake_5 (by decide) ?_
  refine lv_iconst (v := 2) hx hb dX12_lensTake_8 (by decide) ?_
  refine lv_iload_n hx hb dX12_lensTake_9 rfl (lv_at hl 1 rfl) ?_
  refine lv_imul hx hb dX12_lensTake_10 ?_
  refine lv_iadd hx hb dX12_lensTake_11 ?_
  obtain ⟨h_1, hg⟩ := g_gde hg
  refine va_iald hx hb hK.1 hP 1 0 rfl rfl (inB_vp h_1) dX12_lensTake_12 ?_
  refine lv_aload_n hx hb dX12_lensTake_13 rfl (lv_at hl 0 rfl) ?_
  refine va_get (ci := 11) (v := .ref a0_a) (C := RX12) (T := TX12) (N := 43) hx hb htb uX12 hown hK.1 hP 0 rfl rfl 2 (by decide) (htb _ tg_938) (fun _ h9 => h9) rfl dX12_lensTake_14 ?_
  refine lv_sipush (v := 620) hx hb dX12_lensTake_17 (by decide) ?_
  refine lv_iconst (v := 2) hx hb dX12_lensTake_20 (by decide) ?_
  refine lv_iload_n hx hb dX12_lensTake_21 rfl (lv_at hl 1 rfl) ?_
  refine lv_imul hx hb dX12_lensTake_22 ?_
  refine lv_iadd hx hb dX12_lensTake_23 ?_
  refine lv_iconst (v := 1) hx hb dX12_lensTake_24 (by decide) ?_
  refine lv_iadd hx hb dX12_lensTake_25 ?_
  obtain ⟨h_2, hg⟩ := g_gde hg
  refine va_iald hx hb hK.1 hP 1 0 rfl rfl (inB_vp h_2) dX12_lensTake_26 ?_
  refine lv_iload_n hx hb dX12_lensTake_27 rfl (lv_at hl 2 rfl) ?_
  obtain ⟨r_3, hr_3, hg⟩ := g_bd hg
  refine cc_i (va_runV (C := RX12) (As := [.int ((pX12_a v0) (((620 : Int32) + ((2 : Int32) * p0)) : Int32).toNatClampNeg), .int ((pX12_a v0) ((((620 : Int32) + ((2 : Int32) * p0)) + 1) : Int32).toNatClampNeg), .int p1]) (rest := []) ⟨hx, hb, hml, hown, htb⟩ (k_X12_takeOf a0 a0_a a0_image a0_texts a0_board a0_taken a0_fars a0_before a0_tape a0_pile a0_rows a0_told a0_values a0_truth a0_keeps v0 ((pX12_a v0) (((620 : Int32) + ((2 : Int32) * p0)) : Int32).toNatClampNeg) ((pX12_a v0) ((((620 : Int32) + ((2 : Int32) * p0)) + 1) : Int32).toNatClampNeg) p1 r_3 hr_3) (cw_V 3 htb tg_1153 tg_13 tg_1150 tg_1152 ts_37 rfl rfl (by decide +kernel) ⟨Nat.le_of_ble_eq_true rfl, Nat.le_of_ble_eq_true rfl⟩) ⟨PC.blind, va_recv hK.1 hP (ci := 11) (q0 := 0) rfl rfl, PC.pre hK hT hP hD hS hA [0, 1, 2, 3, 4, 5, 6, 7, 8, 9, 10, 11, 12, 13, 14] rfl (by decide)⟩ rfl rfl hl.1 rfl (lv_room (Nat.le_of_ble_eq_true rfl)) dX12_lensTake_28 ⟨Nat.le_of_ble_eq_true rfl, Nat.le_of_ble_eq_true rfl⟩) hP hD hS hA [0, 1, 2, 3, 4, 5, 6, 7, 8, 9, 10, 11, 12, 13, 14] [] rfl rfl (by decide) (by decide) (fun r9 u9 H locs hw hP hD hS => ?_)
  have hw := hw.symm
  subst hw
  have hP : va_P D vwCl (WS_X12_lensTake cI cJ cZ cY a0 a0_a a0_image a0_texts a0_board a0_taken a0_fars a0_before a0_tape a0_pile a0_rows a0_told a0_values a0_truth a0_keeps v0) H := hP.sub [0, 1, 2, 3, 4, 5, 6, 7, 8, 9, 10, 11, 12, 13, 14] rfl
  have hD : va_D A (WS_X12_lensTake cI cJ cZ cY a0 a0_a a0_image a0_texts a0_board a0_taken a0_fars a0_before a0_tape a0_pile a0_rows a0_told a0_values a0_truth a0_keeps v0) := hD.sub [0, 1, 2, 3, 4, 5, 6, 7, 8, 9, 10, 11, 12, 13, 14] (by decide) rfl
  have hg := Option.some.inj hg
  rw [hQ]
  exact W.iret (v := r_3) hx hb hr (fun t ht hW => ⟨⟨r_3, (), rfl, hg, by rw [ht]; exact hP, hD⟩, hS.F ht⟩) hS.2.2 dX12_lensTake_31

/-! ManyEyesModel.take(IIIII)I -/
def WS_X12_take (cI cJ cZ cY : ClassId) (a0 a0_a a0_image a0_texts a0_board a0_taken a0_fars a0_before a0_tape a0_pile a0_rows a0_told a0_values a0_truth a0_keeps : Nat) (v0 : BX12) : va_W := (GX12 cI cJ cZ cY a0 a0_a a0_image a0_texts a0_board a0_taken a0_fars a0_before a0_tape a0_pile a0_rows a0_told a0_values a0_truth a0_keeps v0)
def f_X12_take (v0 : BX12) (p0 : Int32) (p1 : Int32) (p2 : Int32) (p3 : Int32) (p4 : Int32) : Option (Int32 × BX12) := (f_X12_isLens v0 p0).bind (fun r_1 => if (r_1 : Int32) = 0 then (some ((-1), v0)) else ((f_X12_isPlace v0 p1 p2).bind (fun r_3 => if (r_3 : Int32) = 0 then (some ((-1), v0)) else ((f_X12_isSide p3).bind (fun r_5 => if (r_5 : Int32) = 0 then (some ((-1), v0)) else ((f_X12_isTick p4).bind (fun r_7 => if (r_7 : Int32) = 0 then (some ((-1), v0)) else ((f_X12_look v0 p1 p2 p4).bind (fun r_9 => (f_X12_lensTake r_9 p0 p3).bind (fun r_10 => some (r_10, r_9)))))))))))
abbrev rm_X12_take : Room := { frames := 4, cells := 0, slots := 0, locals := 92 }
set_option maxHeartbeats 4000000 in
set_option maxRecDepth 100000 in
theorem k_X12_take {l : Launch} {D : va_G} {cI cJ cZ cY : ClassId} {tX tY : Nat} {sz : Nat} (a0 a0_a a0_image a0_texts a0_board a0_taken a0_fars a0_before a0_tape a0_pile a0_rows a0_told a0_values a0_truth a0_keeps : Nat) (v0 : BX12) (p0 : Int32) (p1 : Int32) (p2 : Int32) (p3 : Int32) (p4 : Int32) (res : Int32 × BX12) (hg : f_X12_take v0 p0 p1 p2 p3 p4 = some res) : Met l yX12_take (Cond.code yX12_take cX12_take 6 (some .int) :: TB) rm_X12_take (PC D cI cJ cZ cY tX tY [.ref a0, .int p0, .int p1, .int p2, .int p3, .int p4] (WS_X12_take cI cJ cZ cY a0 a0_a a0_image a0_texts a0_board a0_taken a0_fars a0_before a0_tape a0_pile a0_rows a0_told a0_values a0_truth a0_keeps v0) sz) (va_Qi (fun (r : Int32) (u : BX12) => r = res.1 ∧ u = res.2) (BC D (fun u : BX12 => WS_X12_take cI cJ cZ cY a0 a0_a a0_image a0_texts a0_board a0_taken a0_fars a0_before a0_tape a0_pile a0_rows a0_told a0_values a0_truth a0_keeps u) (va_A (WS_X12_take cI cJ cZ cY a0 a0_a a0_image a0_texts a0_board a0_taken a0_fars a0_before a0_tape a0_pile a0_rows a0_told a0_values a0_truth a0_keeps v0) sz)) (va_A (WS_X12_take cI cJ cZ cY a0 a0_a a0_image a0_texts a0_board a0_taken a0_fars a0_before a0_tape a0_pile a0_rows a0_told a0_values a0_truth a0_keeps v0) sz)) 0 0 (va_A (WS_X12_take cI cJ cZ cY a0 a0_a a0_image a0_texts a0_board a0_taken a0_fars a0_before a0_tape a0_pile a0_rows a0_told a0_values a0_truth a0_keeps v0) sz) := by
  refine Met.ofW (cc := cX12_take) (maxL := 6) (ret := (some .int)) (by decide) rfl ?_
  intro p e s m args below meth c s₁ B hml hv
  obtain ⟨hargs, hsz, hP, hK, hD0, hT⟩ := hv
  have hx := B.exec
  have hb := B.bytes
  have hr := B.returns
  have htb : ∀ w ∈ TB, w.before args s = true := fun w h => atoms_spec (ws := Cond.code yX12_take cX12_take 6 (some .int) :: TB) B.pre w (List.mem_cons_of_mem _ h)
  have hown : s.vm.findClass "ManyEyesModel" = some m.cls := findClass_of_methodNamed B.named
  have hlocks := B.notSynchronized
  subst hsz
  have hD := hD0.self (sz := s.heap.size)
  generalize hAe : va_A (WS_X12_take cI cJ cZ cY a0 a0_a a0_image a0_texts a0_board a0_taken a0_fars a0_before a0_tape a0_pile a0_rows a0_told a0_values a0_truth a0_keeps v0) s.heap.size = A at hD hT ⊢
  have hA : ∀ q : Nat, s.heap.size ≤ q → A q := fun q h => by rw [← hAe]; exact Or.inr h
  have hS : va_S A s.heap s.heap [] := va_S.rf
  have hl := lv_entry ([.ref a0, .int p0, .int p1, .int p2, .int p3, .int p4]) (n := 6) (Nat.le_of_ble_eq_true rfl)
  have he : entryFrame m args 6 = F0 m 0 (lg_sl ([.ref a0, .int p0, .int p1, .int p2, .int p3, .int p4]) ++ List.replicate (6 - (lg_sl ([.ref a0, .int p0, .int p1, .int p2, .int p3, .int p4])).length) Slot.unset).toArray [] := by rw [hargs, lg_entry_eq]
  rw [he]
  generalize (lg_sl ([.ref a0, .int p0, .int p1, .int p2, .int p3, .int p4]) ++ List.replicate (6 - (lg_sl ([.ref a0, .int p0, .int p1, .int p2, .int p3, .int p4])).length) Slot.unset).toArray = ls at hl ⊢
  have hl : lv_has ls 6 [(0, .ref a0), (1, .int p0), (2, .int p1), (3, .int p2), (4, .int p3), (5, .int p4)] := hl
  show W p l e rm_X12_take s m args below meth c s.heap [] 0 0 _ _
  refine W.genQ (fun Q hQ => ?_)
  generalize hHe : s.heap = H at hP ⊢
  have hS : va_S A s.heap H [] := by rw [← hHe]; exact va_S.rf
  generalize ([] : List Loc) = locs at hS ⊢
  unfold f_X12_take at hg
  refine lv_aload_n hx hb dX12_take_0 rfl (lv_at hl 0 rfl) ?_
  refine lv_iload_n hx hb dX12_take_1 rfl (lv_at hl 1 rfl) ?_
  obtain ⟨r_1, hr_1, hg⟩ := g_bd hg
  refine cc_i (va_runV (C := RX12) (As := [.int p0]) (rest := []) ⟨hx, hb, hml, hown, htb⟩ (k_X12_isLens a0 a0_a a0_image a0_texts a0_board a0_taken a0_fars a0_before a0_tape a0_pile a0_rows a0_told a0_values a0_truth a0_keeps v0 p0 r_1 hr_1) (cw_V 1 htb tg_1137 tg_13 tg_1134 tg_1136 ts_34 rfl rfl (by decide +kernel) ⟨Nat.le_of_ble_eq_true rfl, Nat.le_of_ble_eq_true rfl⟩) ⟨PC.blind, va_recv hK.1 hP (ci := 11) (q0 := 0) rfl rfl, PC.pre hK hT hP hD hS hA [0, 1, 2, 3, 4, 5, 6, 7, 8, 9, 10, 11, 12, 13, 14] rfl (by decide)⟩ rfl rfl hl.1 rfl (lv_room (Nat.le_of_ble_eq_true rfl)) dX12_take_2 ⟨Nat.le_of_ble_eq_true rfl, Nat.le_of_ble_eq_true rfl⟩) hP hD hS hA [0, 1, 2, 3, 4, 5, 6, 7, 8, 9, 10, 11, 12, 13, 14] [] rfl rfl (by decide) (by decide) (fun r9 u9 H locs hw hP hD hS => ?_)
  have hw := hw.symm
  subst hw
  have hP : va_P D vwCl (WS_X12_take cI cJ cZ cY a0 a0_a a0_image a0_texts a0_board a0_taken a0_fars a0_before a0_tape a0_pile a0_rows a0_told a0_values a0_truth a0_keeps v0) H := hP.sub [0, 1, 2, 3, 4, 5, 6, 7, 8, 9, 10, 11, 12, 13, 14] rfl
  have hD : va_D A (WS_X12_take cI cJ cZ cY a0 a0_a a0_image a0_texts a0_board a0_taken a0_fars a0_before a0_tape a0_pile a0_rows a0_told a0_values a0_truth a0_keeps v0) := hD.sub [0, 1, 2, 3, 4, 5, 6, 7, 8, 9, 10, 11, 12, 13, 14] (by decide) rfl
  refine lv_if_eq (tgt := 33) hx hb dX12_take_5 (by decide) (fun c_2 => ?_) (fun c_2 => ?_)
  · have hg := g_it hg c_2
    refine lv_iconst (v := (-1)) hx hb dX12_take_33 (by decide) ?_
    have hg := Option.some.inj hg
    rw [hQ]
    exact W.iret (v := (-1)) hx hb hr (fun t ht hW => ⟨⟨(-1), (v0), rfl, ⟨by rw [← hg], by rw [← hg]⟩, by rw [ht]; exact hP, hD⟩, hS.F ht⟩) hS.2.2 dX12_take_34
  · have hg := g_if hg c_2
    refine lv_aload_n hx hb dX12_take_8 rfl (lv_at hl 0 rfl) ?_
    refine lv_iload_n hx hb dX12_take_9 rfl (lv_at hl 2 rfl) ?_
    refine lv_iload_n hx hb dX12_take_10 rfl (lv_at hl 3 rfl) ?_
    obtain ⟨r_3, hr_3, hg⟩ := g_bd hg
    refine cc_i (va_runV (C := RX12) (As := [.int p1, .int p2]) (rest := []) ⟨hx, hb, hml, hown, htb⟩ (k_X12_isPlace a0 a0_a a0_image a0_texts a0_board a0_taken a0_fars a0_before a0_tape a0_pile a0_rows a0_told a0_values a0_truth a0_keeps v0 p1 p2 r_3 hr_3) (cw_V 2 htb tg_1105 tg_13 tg_1102 tg_1104 ts_31 rfl rfl (by decide +kernel) ⟨Nat.le_of_ble_eq_true rfl, Nat.le_of_ble_eq_true rfl⟩) ⟨PC.blind, va_recv hK.1 hP (ci := 11) (q0 := 0) rfl rfl, PC.pre hK hT hP hD hS hA [0, 1, 2, 3, 4, 5, 6, 7, 8, 9, 10, 11, 12, 13, 14] rfl (by decide)⟩ rfl rfl hl.1 rfl (lv_room (Nat.le_of_ble_eq_true rfl)) dX12_take_11 ⟨Nat.le_of_ble_eq_true rfl, Nat.le_of_ble_eq_true rfl⟩) hP hD hS hA [0, 1, 2, 3, 4, 5, 6, 7, 8, 9, 10, 11, 12, 13, 14] [] rfl rfl (by decide) (by decide) (fun r9 u9 H locs hw hP hD hS => ?_)
    have hw := hw.symm
    subst hw
    have hP : va_P D vwCl (WS_X12_take cI cJ cZ cY a0 a0_a a0_image a0_texts a0_board a0_taken a0_fars a0_before a0_tape a0_pile a0_rows a0_told a0_values a0_truth a0_keeps v0) H := hP.sub [0, 1, 2, 3, 4, 5, 6, 7, 8, 9, 10, 11, 12, 13, 14] rfl
    have hD : va_D A (WS_X12_take cI cJ cZ cY a0 a0_a a0_image a0_texts a0_board a0_taken a0_fars a0_before a0_tape a0_pile a0_rows a0_told a0_values a0_truth a0_keeps v0) := hD.sub [0, 1, 2, 3, 4, 5, 6, 7, 8, 9, 10, 11, 12, 13, 14] (by decide) rfl
    refine lv_if_eq (tgt := 33) hx hb dX12_take_14 (by decide) (fun c_4 => ?_) (fun c_4 => ?_)
    · have hg := g_it hg c_4
      refine lv_iconst (v := (-1)) hx hb dX12_take_33 (by decide) ?_
      have hg := Option.some.inj hg
      rw [hQ]
      exact W.iret (v := (-1)) hx hb hr (fun t ht hW => ⟨⟨(-1), (v0), rfl, ⟨by rw [← hg], by rw [← hg]⟩, by rw [ht]; exact hP, hD⟩, hS.F ht⟩) hS.2.2 dX12_take_34
    · have hg := g_if hg c_4
      refine lv_iload hx hb dX12_take_17 (lv_at hl 4 rfl) ?_
      obtain ⟨r_5, hr_5, hg⟩ := g_bd hg
      refine cc_i (va_runS (As := [.int p3]) (rest := []) ⟨hx, hb, hml, hown, htb⟩ (k_X12_isSide p3 r_5 hr_5) (cw_S 1 htb tg_1108 tg_13 tg_1106 tg_1107 rfl rfl (by decide +kernel) ⟨Nat.le_of_ble_eq_true rfl, Nat.le_of_ble_eq_true rfl⟩) ⟨PC.blind, PC.pre hK hT hP hD hS hA [] rfl (by decide)⟩ rfl rfl hl.1 rfl (lv_room (Nat.le_of_ble_eq_true rfl)) dX12_take_19 ⟨Nat.le_of_ble_eq_true rfl, Nat.le_of_ble_eq_true rfl⟩) hP hD hS hA [] [0, 1, 2, 3, 4, 5, 6, 7, 8, 9, 10, 11, 12, 13, 14] rfl rfl (by decide) (by decide) (fun r9 u9 H locs hw hP hD hS => ?_)
      have hw := hw.symm
      subst hw
      have hP : va_P D vwCl (WS_X12_take cI cJ cZ cY a0 a0_a a0_image a0_texts a0_board a0_taken a0_fars a0_before a0_tape a0_pile a0_rows a0_told a0_values a0_truth a0_keeps v0) H := hP.sub [0, 1, 2, 3, 4, 5, 6, 7, 8, 9, 10, 11, 12, 13, 14] rfl
      have hD : va_D A (WS_X12_take cI cJ cZ cY a0 a0_a a0_image a0_texts a0_board a0_taken a0_fars a0_before a0_tape a0_pile a0_rows a0_told a0_values a0_truth a0_keeps v0) := hD.sub [0, 1, 2, 3, 4, 5, 6, 7, 8, 9, 10, 11, 12, 13, 14] (by decide) rfl
      refine lv_if_eq (tgt := 33) hx hb dX12_take_22 (by decide) (fun c_6 => ?_) (fun c_6 => ?_)
      · have hg := g_it hg c_6
        refine lv_iconst (v := (-1)) hx hb dX12_take_33 (by decide) ?_
        have hg := Option.some.inj hg
        rw [hQ]
        exact W.iret (v := (-1)) hx hb hr (fun t ht hW => ⟨⟨(-1), (v0), rfl, ⟨by rw [← hg], by rw [← hg]⟩, by rw [ht]; exact hP, hD⟩, hS.F ht⟩) hS.2.2 dX12_take_34
      · have hg := g_if hg c_6
        refine lv_iload hx hb dX12_take_25 (lv_at hl 5 rfl) ?_
        obtain ⟨r_7, hr_7, hg⟩ := g_bd hg
        refine cc_i (va_runS (As := [.int p4]) (rest := []) ⟨hx, hb, hml, hown, htb⟩ (k_X12_isTick p4 r_7 hr_7) (cw_S 1 htb tg_1089 tg_13 tg_1087 tg_1088 rfl rfl (by decide +kernel) ⟨Nat.le_of_ble_eq_true rfl, Nat.le_of_ble_eq_true rfl⟩) ⟨PC.blind, PC.pre hK hT hP hD hS hA [] rfl (by decide)⟩ rfl rfl hl.1 rfl (lv_room (Nat.le_of_ble_eq_true rfl)) dX12_take_27 ⟨Nat.le_of_ble_eq_true rfl, Nat.le_of_ble_eq_true rfl⟩) hP hD hS hA [] [0, 1, 2, 3, 4, 5, 6, 7, 8, 9, 10, 11, 12, 13, 14] rfl rfl (by decide) (by decide) (fun r9 u9 H locs hw hP hD hS => ?_)
        have hw := hw.symm
        subst hw
        have hP : va_P D vwCl (WS_X12_take cI cJ cZ cY a0 a0_a a0_image a0_texts a0_board a0_taken a0_fars a0_before a0_tape a0_pile a0_rows a0_told a0_values a0_truth a0_keeps v0) H := hP.sub [0, 1, 2, 3, 4, 5, 6, 7, 8, 9, 10, 11, 12, 13, 14] rfl
        have hD : va_D A (WS_X12_take cI cJ cZ cY a0 a0_a a0_image a0_texts a0_board a0_taken a0_fars a0_before a0_tape a0_pile a0_rows a0_told a0_values a0_truth a0_keeps v0) := hD.sub [0, 1, 2, 3, 4, 5, 6, 7, 8, 9, 10, 11, 12, 13, 14] (by decide) rfl
        refine lv_if_ne (tgt := 35) hx hb dX12_take_30 (by decide) (fun c_8 => ?_) (fun c_8 => ?_)
        · have hg := g_if hg c_8
          refine lv_aload_n hx hb dX12_take_35 rfl (lv_at hl 0 rfl) ?_
          refine lv_iload_n hx hb dX12_take_36 rfl (lv_at hl 2 rfl) ?_
          refine lv_iload_n hx hb dX12_take_37 rfl (lv_at hl 3 rfl) ?_
          refine lv_iload hx hb dX12_take_38 (lv_at hl 5 rfl) ?_
          obtain ⟨r_9, hr_9, hg⟩ := g_bd hg
          refine cc_v (va_runV (C := RX12) (As := [.int p1, .int p2, .int p4]) (rest := []) ⟨hx, hb, hml, hown, htb⟩ (k_X12_look a0 a0_a a0_image a0_texts a0_board a0_taken a0_fars a0_before a0_tape a0_pile a0_rows a0_told a0_values a0_truth a0_keeps v0 p1 p2 p4 r_9 hr_9) (cw_V 3 htb tg_1145 tg_13 tg_1142 tg_1144 ts_35 rfl rfl (by decide +kernel) ⟨Nat.le_of_ble_eq_true rfl, Nat.le_of_ble_eq_true rfl⟩) ⟨PC.blind, va_recv hK.1 hP (ci := 11) (q0 := 0) rfl rfl, PC.pre hK hT hP hD hS hA [0, 1, 2, 3, 4, 5, 6, 7, 8, 9, 10, 11, 12, 13, 14] rfl (by decide)⟩ rfl rfl hl.1 rfl (lv_room (Nat.le_of_ble_eq_true rfl)) dX12_take_40 ⟨Nat.le_of_ble_eq_true rfl, Nat.le_of_ble_eq_true rfl⟩) hP hD hS hA [0, 1, 2, 3, 4, 5, 6, 7, 8, 9, 10, 11, 12, 13, 14] [] rfl rfl (by decide) (by decide) (fun u9 H locs hw hP hD hS => ?_)
          have hw := hw.symm
          subst hw
          have hP : va_P D vwCl (WS_X12_take cI cJ cZ cY a0 a0_a a0_image a0_texts a0_board a0_taken a0_fars a0_before a0_tape a0_pile a0_rows a0_told a0_values a0_truth a0_keeps r_9) H := hP.sub [0, 1, 2, 3, 4, 5, 6, 7, 8, 9, 10, 11, 12, 13, 14] rfl
          have hD : va_D A (WS_X12_take cI cJ cZ cY a0 a0_a a0_image a0_texts a0_board a0_taken a0_fars a0_before a0_tape a0_pile a0_rows a0_told a0_values a0_truth a0_keeps r_9) := hD.sub [0, 1, 2, 3, 4, 5, 6, 7, 8, 9, 10, 11, 12, 13, 14] (by decide) rfl
          refine lv_aload_n hx hb dX12_take_43 rfl (lv_at hl 0 rfl) ?_
          refine lv_iload_n hx hb dX12_take_44 rfl (lv_at hl 1 rfl) ?_
          refine lv_iload hx hb dX12_take_45 (lv_at hl 4 rfl) ?_
          obtain ⟨r_10, hr_10, hg⟩ := g_bd hg
          refine cc_i (va_runV (C := RX12) (As := [.int p0, .int p3]) (rest := []) ⟨hx, hb, hml, hown, htb⟩ (k_X12_lensTake a0 a0_a a0_image a0_texts a0_board a0_taken a0_fars a0_before a0_tape a0_pile a0_rows a0_told a0_values a0_truth a0_keeps r_9 p0 p3 r_10 hr_10) (cw_V 2 htb tg_1149 tg_13 tg_1146 tg_1148 ts_36 rfl rfl (by decide +kernel) ⟨Nat.le_of_ble_eq_true rfl, Nat.le_of_ble_eq_true rfl⟩) ⟨PC.blind, va_recv hK.1 hP (ci := 11) (q0 := 0) rfl rfl, PC.pre hK hT hP hD hS hA [0, 1, 2, 3, 4, 5, 6, 7, 8, 9, 10, 11, 12, 13, 14] rfl (by decide)⟩ rfl rfl hl.1 rfl (lv_room (Nat.le_of_ble_eq_true rfl)) dX12_take_47 ⟨Nat.le_of_ble_eq_true rfl, Nat.le_of_ble_eq_true rfl⟩) hP hD hS hA [0, 1, 2, 3, 4, 5, 6, 7, 8, 9, 10, 11, 12, 13, 14] [] rfl rfl (by decide) (by decide) (fun r9 u9 H locs hw hP hD hS => ?_)
          have hw := hw.symm
          subst hw
          have hP : va_P D vwCl (WS_X12_take cI cJ cZ cY a0 a0_a a0_image a0_texts a0_board a0_taken a0_fars a0_before a0_tape a0_pile a0_rows a0_told a0_values a0_truth a0_keeps r_9) H := hP.sub [0, 1, 2, 3, 4, 5, 6, 7, 8, 9, 10, 11, 12, 13, 14] rfl
          have hD : va_D A (WS_X12_take cI cJ cZ cY a0 a0_a a0_image a0_texts a0_board a0_taken a0_fars a0_before a0_tape a0_pile a0_rows a0_told a0_values a0_truth a0_keeps r_9) := hD.sub [0, 1, 2, 3, 4, 5, 6, 7, 8, 9, 10, 11, 12, 13, 14] (by decide) rfl
          have hg := Option.some.inj hg
          rw [hQ]
          exact W.iret (v := r_10) hx hb hr (fun t ht hW => ⟨⟨r_10, (r_9), rfl, ⟨by rw [← hg], by rw [← hg]⟩, by rw [ht]; exact hP, hD⟩, hS.F ht⟩) hS.2.2 dX12_take_50
        · have hg := g_it hg c_8
          refine lv_iconst (v := (-1)) hx hb dX12_take_33 (by decide) ?_
          have hg := Option.some.inj hg
          rw [hQ]
          exact W.iret (v := (-1)) hx hb hr (fun t ht hW => ⟨⟨(-1), (v0), rfl, ⟨by rw [← hg], by rw [← hg]⟩, by rw [ht]; exact hP, hD⟩, hS.F ht⟩) hS.2.2 dX12_take_34

/-! ManyEyesModel.apart(II)I -/
def WS_X12_apart (cI cJ cZ cY : ClassId) (a0 a0_a a0_image a0_texts a0_board a0_taken a0_fars a0_before a0_tape a0_pile a0_rows a0_told a0_values a0_truth a0_keeps : Nat) (v0 : BX12) : va_W := (GX12 cI cJ cZ cY a0 a0_a a0_image a0_texts a0_board a0_taken a0_fars a0_before a0_tape a0_pile a0_rows a0_told a0_values a0_truth a0_keeps v0)
def f_X12_apart (v0 : BX12) (p0 : Int32) (p1 : Int32) : Option (Int32) := g_gd (inB ((620 : Int32) + ((2 : Int32) * p0)) 3170) ((f_X12_abs (((pX12_a v0) (((620 : Int32) + ((2 : Int32) * p0)) : Int32).toNatClampNeg) - p1)).bind (fun r_2 => if (((64 : Int32) - r_2) : Int32) ≤ r_2 then (some ((64 : Int32) - r_2)) else (some r_2)))
abbrev rm_X12_apart : Room := { frames := 1, cells := 0, slots := 0, locals := 20 }
set_option maxHeartbeats 4000000 in
set_option maxRecDepth 100000 in
theorem k_X12_apart {l : Launch} {D : va_G} {cI cJ cZ cY : ClassId} {tX tY : Nat} {sz : Nat} (a0 a0_a a0_image a0_texts a0_board a0_taken a0_fars a0_before a0_tape a0_pile a0_rows a0_told a0_values a0_truth a0_keeps : Nat) (v0 : BX12) (p0 : Int32) (p1 : Int32) (res : Int32) (hg : f_X12_apart v0 p0 p1 = some res) : Met l yX12_apart (Cond.code yX12_apart cX12_apart 4 (some .int) :: TB) rm_X12_apart (PC D cI cJ cZ cY tX tY [.ref a0, .int p0, .int p1] (WS_X12_apart cI cJ cZ cY a0 a0_a a0_image a0_texts a0_board a0_taken a0_fars a0_before a0_tape a0_pile a0_rows a0_told a0_values a0_truth a0_keeps v0) sz) (va_Qi (fun (r : Int32) (_ : Unit) => r = res) (BC D (fun _ : Unit => WS_X12_apart cI cJ cZ cY a0 a0_a a0_image a0_texts a0_board a0_taken a0_fars a0_before a0_tape a0_pile a0_rows a0_told a0_values a0_truth a0_keeps v0) (va_A (WS_X12_apart cI cJ cZ cY a0 a0_a a0_image a0_texts a0_board a0_taken a0_fars a0_before a0_tape a0_pile a0_rows a0_told a0_values a0_truth a0_keeps v0) sz)) (va_A (WS_X12_apart cI cJ cZ cY a0 a0_a a0_image a0_texts a0_board a0_taken a0_fars a0_before a0_tape a0_pile a0_rows a0_told a0_values a0_truth a0_keeps v0) sz)) 0 0 (va_A (WS_X12_apart cI cJ cZ cY a0 a0_a a0_image a0_texts a0_board a0_taken a0_fars a0_before a0_tape a0_pile a0_rows a0_told a0_values a0_truth a0_keeps v0) sz) := by
  refine Met.ofW (cc := cX12_apart) (maxL := 4) (ret := (some .int)) (by decide) rfl ?_
  intro p e s m args below meth c s₁ B hml hv
  obtain ⟨hargs, hsz, hP, hK, hD0, hT⟩ := hv
  have hx := B.exec
  have hb := B.bytes
  have hr := B.returns
  have htb : ∀ w ∈ TB, w.before args s = true := fun w h => atoms_spec (ws := Cond.code yX12_apart cX12_apart 4 (some .int) :: TB) B.pre w (List.mem_cons_of_mem _ h)
  have hown : s.vm.findClass "ManyEyesModel" = some m.cls := findClass_of_methodNamed B.named
  have hlocks := B.notSynchronized
  subst hsz
  have hD := hD0.self (sz := s.heap.size)
  generalize hAe : va_A (WS_X12_apart cI cJ cZ cY a0 a0_a a0_image a0_texts a0_board a0_taken a0_fars a0_before a0_tape a0_pile a0_rows a0_told a0_values a0_truth a0_keeps v0) s.heap.size = A at hD hT ⊢
  have hA : ∀ q : Nat, s.heap.size ≤ q → A q := fun q h => by rw [← hAe]; exact Or.inr h
  have hS : va_S A s.heap s.heap [] := va_S.rf
  have hl := lv_entry ([.ref a0, .int p0, .int p1]) (n := 4) (Nat.le_of_ble_eq_true rfl)
  have he : entryFrame m args 4 = F0 m 0 (lg_sl ([.ref a0, .int p0, .int p1]) ++ List.replicate (4 - (lg_sl ([.ref a0, .int p0, .int p1])).length) Slot.unset).toArray [] := by rw [hargs, lg_entry_eq]
  rw [he]
  generalize (lg_sl ([.ref a0, .int p0, .int p1]) ++ List.replicate (4 - (lg_sl ([.ref a0, .int p0, .int p1])).length) Slot.unset).toArray = ls at hl ⊢
  have hl : lv_has ls 4 [(0, .ref a0), (1, .int p0), (2, .int p1)] := hl
  show W p l e rm_X12_apart s m args below meth c s.heap [] 0 0 _ _
  refine W.genQ (fun Q hQ => ?_)
  generalize hHe : s.heap = H at hP ⊢
  have hS : va_S A s.heap H [] := by rw [← hHe]; exact va_S.rf
  generalize ([] : List Loc) = locs at hS ⊢
  unfold f_X12_apart at hg
  refine lv_aload_n hx hb dX12_apart_0 rfl (lv_at hl 0 rfl) ?_
  refine va_get (ci := 11) (v := .ref a0_a) (C := RX12) (T := TX12) (N := 43) hx hb htb uX12 hown hK.1 hP 0 rfl rfl 2 (by decide) (htb _ tg_938) (fun _ h9 => h9) rfl dX12_apart_1 ?_
  refine lv_sipush (v := 620) hx hb dX12_apart_4 (by decide) ?_
  refine lv_iconst (v := 2) hx hb dX12_apart_7 (by decide) ?_
  refine lv_iload_n hx hb dX12_apart_8 rfl (lv_at hl 1 rfl) ?_
  refine lv_imul hx hb dX12_apart_9 ?_
  refine lv_iadd hx hb dX12_apart_10 ?_
  obtain ⟨h_1, hg⟩ := g_gde hg
  refine va_iald hx hb hK.1 hP 1 0 rfl rfl (inB_vp h_1) dX12_apart_11 ?_
  refine lv_iload_n hx hb dX12_apart_12 rfl (lv_at hl 2 rfl) ?_
  refine lv_isub hx hb dX12_apart_13 ?_
  obtain ⟨r_2, hr_2, hg⟩ := g_bd hg
  refine cc_i (va_runS (As := [.int (((pX12_a v0) (((620 : Int32) + ((2 : Int32) * p0)) : Int32).toNatClampNeg) - p1)]) (rest := []) ⟨hx, hb, hml, hown, htb⟩ (k_X12_abs (((pX12_a v0) (((620 : Int32) + ((2 : Int32) * p0)) : Int32).toNatClampNeg) - p1) r_2 hr_2) (cw_S 1 htb tg_1156 tg_13 tg_1154 tg_1155 rfl rfl (by decide +kernel) ⟨Nat.le_of_ble_eq_true rfl, Nat.le_of_ble_eq_true rfl⟩) ⟨PC.blind, PC.pre hK hT hP hD hS hA [] rfl (by decide)⟩ rfl rfl hl.1 rfl (lv_room (Nat.le_of_ble_eq_true rfl)) dX12_apart_14 ⟨Nat.le_of_ble_eq_true rfl, Nat.le_of_ble_eq_true rfl⟩) hP hD hS hA [] [0, 1, 2, 3, 4, 5, 6, 7, 8, 9, 10, 11, 12, 13, 14] rfl rfl (by decide) (by decide) (fun r9 u9 H locs hw hP hD hS => ?_)
  have hw := hw.symm
  subst hw
  have hP : va_P D vwCl (WS_X12_apart cI cJ cZ cY a0 a0_a a0_image a0_texts a0_board a0_taken a0_fars a0_before a0_tape a0_pile a0_rows a0_told a0_values a0_truth a0_keeps v0) H := hP.sub [0, 1, 2, 3, 4, 5, 6, 7, 8, 9, 10, 11, 12, 13, 14] rfl
  have hD : va_D A (WS_X12_apart cI cJ cZ cY a0 a0_a a0_image a0_texts a0_board a0_taken a0_fars a0_before a0_tape a0_pile a0_rows a0_told a0_values a0_truth a0_keeps v0) := hD.sub [0, 1, 2, 3, 4, 5, 6, 7, 8, 9, 10, 11, 12, 13, 14] (by decide) rfl
  refine lv_istore_n (lv' := [(3, .int r_2), (0, .ref a0), (1, .int p0), (2, .int p1)]) hx hb dX12_apart_17 rfl hl (by decide) rfl (fun ls hl => ?_)
  refine lv_iload_n hx hb dX12_apart_18 rfl (lv_at hl 0 rfl) ?_
  refine lv_bipush (v := 64) hx hb dX12_apart_19 (by decide) ?_
  refine lv_iload_n hx hb dX12_apart_21 rfl (lv_at hl 0 rfl) ?_
  refine lv_isub hx hb dX12_apart_22 ?_
  refine lv_icmp_ge (tgt := 30) hx hb dX12_apart_23 (by decide) (fun c_3 => ?_) (fun c_3 => ?_)
  · have hg := g_it hg c_3
    refine lv_bipush (v := 64) hx hb dX12_apart_30 (by decide) ?_
    refine lv_iload_n hx hb dX12_apart_32 rfl (lv_at hl 0 rfl) ?_
    refine lv_isub hx hb dX12_apart_33 ?_
    have hg := Option.some.inj hg
    rw [hQ]
    exact W.iret (v := ((64 : Int32) - r_2)) hx hb hr (fun t ht hW => ⟨⟨((64 : Int32) - r_2), (), rfl, hg, by rw [ht]; exact hP, hD⟩, hS.F ht⟩) hS.2.2 dX12_apart_34
  · have hg := g_if hg c_3
    refine lv_iload_n hx hb dX12_apart_26 rfl (lv_at hl 0 rfl) ?_
    refine lv_goto (tgt := 34) hx hb dX12_apart_27 (by decide) ?_
    have hg := Option.some.inj hg
    rw [hQ]
    exact W.iret (v := r_2) hx hb hr (fun t ht hW => ⟨⟨r_2, (), rfl, hg, by rw [ht]; exact hP, hD⟩, hS.F ht⟩) hS.2.2 dX12_apart_34

/-! ManyEyesModel.coverOf(I)I -/
def WS_X12_coverOf (cI cJ cZ cY : ClassId) (a0 a0_a a0_image a0_texts a0_board a0_taken a0_fars a0_before a0_tape a0_pile a0_rows a0_told a0_values a0_truth a0_keeps : Nat) (v0 : BX12) : va_W := (GX12 cI cJ cZ cY a0 a0_a a0_image a0_texts a0_board a0_taken a0_fars a0_before a0_tape a0_pile a0_rows a0_told a0_values a0_truth a0_keeps v0)
def f_X12_coverOf_b43 (v0 : BX12) (J4 : (Int32 × Int32 × Int32) → Option (Int32)) (x1 : Int32) (x3 : Int32) (t0 : Int32) (t1 : Int32) : Option (Int32) := g_lt ((t0 + t1) : Int32) (fun x2_1 => g_lt (x3 + 1 : Int32) (fun x3_2 => J4 (x1, x2_1, x3_2)))
def f_X12_coverOf_b4B (v0 : BX12) (J4 : Int32 × Int32 × Int32 → Option (Int32)) (x1 : Int32) (x2 : Int32) (x3 : Int32) : Option (Int32) := g_gd (inB 1 3170) (if (((pX12_a v0) (1 : Int32).toNatClampNeg) : Int32) ≤ x3 then (some x2) else ((f_X12_apart v0 x3 x1).bind (fun r_5 => g_gd (inB (((620 : Int32) + ((2 : Int32) * x3)) + 1) 3170) (if (((pX12_a v0) ((((620 : Int32) + ((2 : Int32) * x3)) + 1) : Int32).toNatClampNeg) : Int32) < r_5 then (f_X12_coverOf_b43 v0 J4 x1 x3 x2 0) else (f_X12_coverOf_b43 v0 J4 x1 x3 x2 1)))))
def f_X12_coverOf_b4 (v0 : BX12) : Nat → (Int32 × Int32 × Int32) → Option (Int32) := g_lp (fun J z => f_X12_coverOf_b4B v0 J z.1 z.2.1 z.2.2)
def f_X12_coverOf (v0 : BX12) (p0 : Int32) : Option (Int32) := f_X12_coverOf_b4 v0 fU (p0, 0, 0)
abbrev rm_X12_coverOf : Room := { frames := 2, cells := 0, slots := 0, locals := 43 }
set_option maxHeartbeats 4000000 in
set_option maxRecDepth 100000 in
theorem k_X12_coverOf {l : Launch} {D : va_G} {cI cJ cZ cY : ClassId} {tX tY : Nat} {sz : Nat} (a0 a0_a a0_image a0_texts a0_board a0_taken a0_fars a0_before a0_tape a0_pile a0_rows a0_told a0_values a0_truth a0_keeps : Nat) (v0 : BX12) (p0 : Int32) (res : Int32) (hg : f_X12_coverOf v0 p0 = some res) : Met l yX12_coverOf (Cond.code yX12_coverOf cX12_coverOf 4 (some .int) :: TB) rm_X12_coverOf (PC D cI cJ cZ cY tX tY [.ref a0, .int p0] (WS_X12_coverOf cI cJ cZ cY a0 a0_a a0_image a0_texts a0_board a0_taken a0_fars a0_before a0_tape a0_pile a0_rows a0_told a0_values a0_truth a0_keeps v0) sz) (va_Qi (fun (r : Int32) (_ : Unit) => r = res) (BC D (fun _ : Unit => WS_X12_coverOf cI cJ cZ cY a0 a0_a a0_image a0_texts a0_board a0_taken a0_fars a0_before a0_tape a0_pile a0_rows a0_told a0_values a0_truth a0_keeps v0) (va_A (WS_X12_coverOf cI cJ cZ cY a0 a0_a a0_image a0_texts a0_board a0_taken a0_fars a0_before a0_tape a0_pile a0_rows a0_told a0_values a0_truth a0_keeps v0) sz)) (va_A (WS_X12_coverOf cI cJ cZ cY a0 a0_a a0_image a0_texts a0_board a0_taken a0_fars a0_before a0_tape a0_pile a0_rows a0_told a0_values a0_truth a0_keeps v0) sz)) 0 0 (va_A (WS_X12_coverOf cI cJ cZ cY a0 a0_a a0_image a0_texts a0_board a0_taken a0_fars a0_before a0_tape a0_pile a0_rows a0_told a0_values a0_truth a0_keeps v0) sz) := by
  refine Met.ofW (cc := cX12_coverOf) (maxL := 4) (ret := (some .int)) (by decide) rfl ?_
  intro p e s m args below meth c s₁ B hml hv
  obtain ⟨hargs, hsz, hP, hK, hD0, hT⟩ := hv
  have hx := B.exec
  have hb := B.bytes
  have hr := B.returns
  have htb : ∀ w ∈ TB, w.before args s = true := fun w h => atoms_spec (ws := Cond.code yX12_coverOf cX12_coverOf 4 (some .int) :: TB) B.pre w (List.mem_cons_of_mem _ h)
  have hown : s.vm.findClass "ManyEyesModel" = some m.cls := findClass_of_methodNamed B.named
  have hlocks := B.notSynchronized
  subst hsz
  have hD := hD0.self (sz := s.heap.size)
  generalize hAe : va_A (WS_X12_coverOf cI cJ cZ cY a0 a0_a a0_image a0_texts a0_board a0_taken a0_fars a0_before a0_tape a0_pile a0_rows a0_told a0_values a0_truth a0_keeps v0) s.heap.size = A at hD hT ⊢
  have hA : ∀ q : Nat, s.heap.size ≤ q → A q := fun q h => by rw [← hAe]; exact Or.inr h
  have hS : va_S A s.heap s.heap [] := va_S.rf
  have hl := lv_entry ([.ref a0, .int p0]) (n := 4) (Nat.le_of_ble_eq_true rfl)
  have he : entryFrame m args 4 = F0 m 0 (lg_sl ([.ref a0, .int p0]) ++ List.replicate (4 - (lg_sl ([.ref a0, .int p0])).length) Slot.unset).toArray [] := by rw [hargs, lg_entry_eq]
  rw [he]
  generalize (lg_sl ([.ref a0, .int p0]) ++ List.replicate (4 - (lg_sl ([.ref a0, .int p0])).length) Slot.unset).toArray = ls at hl ⊢
  have hl : lv_has ls 4 [(0, .ref a0), (1, .int p0)] := hl
  show W p l e rm_X12_coverOf s m args below meth c s.heap [] 0 0 _ _
  refine W.genQ (fun Q hQ => ?_)
  have b_43 : ∀ (J4 : (Int32 × Int32 × Int32) → Option (Int32)) (hJ4 : ∀ (x1 : Int32) (x2 : Int32) (x3 : Int32) (H : Heap) (locs : List Loc) (ls : Array Slot), va_P D vwCl (WS_X12_coverOf cI cJ cZ cY a0 a0_a a0_image a0_texts a0_board a0_taken a0_fars a0_before a0_tape a0_pile a0_rows a0_told a0_values a0_truth a0_keeps v0) H → va_D A (WS_X12_coverOf cI cJ cZ cY a0 a0_a a0_image a0_texts a0_board a0_taken a0_fars a0_before a0_tape a0_pile a0_rows a0_told a0_values a0_truth a0_keeps v0) → va_S A s.heap H locs → lv_has ls 4 [(0, .ref a0), (1, .int x1), (2, .int x2), (3, .int x3)] → J4 (x1, x2, x3) = some res → W p l e rm_X12_coverOf s m args below meth c H locs 0 0 Q (F0 m 4 ls [])), ∀ (x1 : Int32) (x3 : Int32) (t0 : Int32) (t1 : Int32) (H : Heap) (locs : List Loc) (ls : Array Slot), va_P D vwCl (WS_X12_coverOf cI cJ cZ cY a0 a0_a a0_image a0_texts a0_board a0_taken a0_fars a0_before a0_tape a0_pile a0_rows a0_told a0_values a0_truth a0_keeps v0) H → va_D A (WS_X12_coverOf cI cJ cZ cY a0 a0_a a0_image a0_texts a0_board a0_taken a0_fars a0_before a0_tape a0_pile a0_rows a0_told a0_values a0_truth a0_keeps v0) → va_S A s.heap H locs → lv_has ls 4 [(0, .ref a0), (1, .int x1), (3, .int x3)] → f_X12_coverOf_b43 v0 J4 x1 x3 t0 t1 = some res → W p l e rm_X12_coverOf s m args below meth c H locs 0 0 Q (F0 m 43 ls [.int t1, .int t0]) := by
    intro J4 hJ4 x1 x3 t0 t1 H locs ls hP hD hS hl hg
    unfold f_X12_coverOf_b43 at hg
    refine lv_iadd hx hb dX12_coverOf_43 ?_
    refine lv_topi (fun x2_1 ex2_1 => ?_)
    have hg := g_lte hg x2_1 ex2_1
    refine lv_istore_n (lv' := [(2, .int x2_1), (0, .ref a0), (1, .int x1), (3, .int x3)]) hx hb dX12_coverOf_44 rfl hl (by decide) rfl (fun ls hl => ?_)
    obtain ⟨x3_2, ex3_2⟩ : ∃ z : Int32, z = x3 + 1 := ⟨_, rfl⟩
    have hg := g_lte hg x3_2 ex3_2
    refine lv_iinc (v := x3_2) (lv' := [(3, .int x3_2), (2, .int x2_1), (0, .ref a0), (1, .int x1)]) hx hb dX12_coverOf_45 hl (k := 3) rfl (by rw [ex3_2]; rfl) (by decide) rfl (fun ls hl => ?_)
    refine lv_goto (tgt := 4) hx hb dX12_coverOf_48 (by decide) ?_
    exact hJ4 x1 x2_1 x3_2 H locs ls hP hD hS (lv_sub hl [2, 3, 1, 0] rfl) hg
  have b_4 : ∀ (n : Nat), ∀ (x1 : Int32) (x2 : Int32) (x3 : Int32) (H : Heap) (locs : List Loc) (ls : Array Slot), va_P D vwCl (WS_X12_coverOf cI cJ cZ cY a0 a0_a a0_image a0_texts a0_board a0_taken a0_fars a0_before a0_tape a0_pile a0_rows a0_told a0_values a0_truth a0_keeps v0) H → va_D A (WS_X12_coverOf cI cJ cZ cY a0 a0_a a0_image a0_texts a0_board a0_taken a0_fars a0_before a0_tape a0_pile a0_rows a0_told a0_values a0_truth a0_keeps v0) → va_S A s.heap H locs → lv_has ls 4 [(0, .ref a0), (1, .int x1), (2, .int x2), (3, .int x3)] → f_X12_coverOf_b4 v0 n (x1, x2, x3) = some res → W p l e rm_X12_coverOf s m args below meth c H locs 0 0 Q (F0 m 4 ls []) := by
    intro n
    induction n with
    | zero =>
      intro x1 x2 x3 H locs ls hP hD hS hl hg
      exact (g_lp0 hg).elim
    | succ n ih =>
      intro x1 x2 x3 H locs ls hP hD hS hl hg
      have hg : f_X12_coverOf_b4B v0 (f_X12_coverOf_b4 v0 n) x1 x2 x3 = some res := hg
      unfold f_X12_coverOf_b4B at hg
      refine lv_iload_n hx hb dX12_coverOf_4 rfl (lv_at hl 3 rfl) ?_
      refine lv_aload_n hx hb dX12_coverOf_5 rfl (lv_at hl 0 rfl) ?_
      refine va_get (ci := 11) (v := .ref a0_a) (C := RX12) (T := TX12) (N := 43) hx hb htb uX12 hown hK.1 hP 0 rfl rfl 2 (by decide) (htb _ tg_938) (fun _ h9 => h9) rfl dX12_coverOf_6 ?_
      refine lv_iconst (v := 1) hx hb dX12_coverOf_9 (by decide) ?_
      obtain ⟨h_3, hg⟩ := g_gde hg
      refine va_iald hx hb hK.1 hP 1 0 rfl rfl (inB_vp h_3) dX12_coverOf_10 ?_
      refine lv_icmp_ge (tgt := 51) hx hb dX12_coverOf_11 (by decide) (fun c_4 => ?_) (fun c_4 => ?_)
      · have hg := g_it hg c_4
        refine lv_iload_n hx hb dX12_coverOf_51 rfl (lv_at hl 2 rfl) ?_
        have hg := Option.some.inj hg
        rw [hQ]
        exact W.iret (v := x2) hx hb hr (fun t ht hW => ⟨⟨x2, (), rfl, hg, by rw [ht]; exact hP, hD⟩, hS.F ht⟩) hS.2.2 dX12_coverOf_52
      · have hg := g_if hg c_4
        refine lv_iload_n hx hb dX12_coverOf_14 rfl (lv_at hl 2 rfl) ?_
        refine lv_aload_n hx hb dX12_coverOf_15 rfl (lv_at hl 0 rfl) ?_
        refine lv_iload_n hx hb dX12_coverOf_16 rfl (lv_at hl 3 rfl) ?_
        refine lv_iload_n hx hb dX12_coverOf_17 rfl (lv_at hl 1 rfl) ?_
        obtain ⟨r_5, hr_5, hg⟩ := g_bd hg
        refine cc_i (va_runV (C := RX12) (As := [.int x3, .int x1]) (rest := [.int x2]) ⟨hx, hb, hml, hown, htb⟩ (k_X12_apart a0 a0_a a0_image a0_texts a0_board a0_taken a0_fars a0_before a0_tape a0_pile a0_rows a0_told a0_values a0_truth a0_keeps v0 x3 x1 r_5 hr_5) (cw_V 2 htb tg_1168 tg_13 tg_1165 tg_1167 ts_39 rfl rfl (by decide +kernel) ⟨Nat.le_of_ble_eq_true rfl, Nat.le_of_ble_eq_true rfl⟩) ⟨PC.blind, va_recv hK.1 hP (ci := 11) (q0 := 0) rfl rfl, PC.pre hK hT hP hD hS hA [0, 1, 2, 3, 4, 5, 6, 7, 8, 9, 10, 11, 12, 13, 14] rfl (by decide)⟩ rfl rfl hl.1 rfl (lv_room (Nat.le_of_ble_eq_true rfl)) dX12_coverOf_18 ⟨Nat.le_of_ble_eq_true rfl, Nat.le_of_ble_eq_true rfl⟩) hP hD hS hA [0, 1, 2, 3, 4, 5, 6, 7, 8, 9, 10, 11, 12, 13, 14] [] rfl rfl (by decide) (by decide) (fun r9 u9 H locs hw hP hD hS => ?_)
        have hw := hw.symm
        subst hw
        have hP : va_P D vwCl (WS_X12_coverOf cI cJ cZ cY a0 a0_a a0_image a0_texts a0_board a0_taken a0_fars a0_before a0_tape a0_pile a0_rows a0_told a0_values a0_truth a0_keeps v0) H := hP.sub [0, 1, 2, 3, 4, 5, 6, 7, 8, 9, 10, 11, 12, 13, 14] rfl
        have hD : va_D A (WS_X12_coverOf cI cJ cZ cY a0 a0_a a0_image a0_texts a0_board a0_taken a0_fars a0_before a0_tape a0_pile a0_rows a0_told a0_values a0_truth a0_keeps v0) := hD.sub [0, 1, 2, 3, 4, 5, 6, 7, 8, 9, 10, 11, 12, 13, 14] (by decide) rfl
        refine lv_aload_n hx hb dX12_coverOf_21 rfl (lv_at hl 0 rfl) ?_
        refine va_get (ci := 11) (v := .ref a0_a) (C := RX12) (T := TX12) (N := 43) hx hb htb uX12 hown hK.1 hP 0 rfl rfl 2 (by decide) (htb _ tg_938) (fun _ h9 => h9) rfl dX12_coverOf_22 ?_
        refine lv_sipush (v := 620) hx hb dX12_coverOf_25 (by decide) ?_
        refine lv_iconst (v := 2) hx hb dX12_coverOf_28 (by decide) ?_
        refine lv_iload_n hx hb dX12_coverOf_29 rfl (lv_at hl 3 rfl) ?_
        refine lv_imul hx hb dX12_coverOf_30 ?_
        refine lv_iadd hx hb dX12_coverOf_31 ?_
        refine lv_iconst (v := 1) hx hb dX12_coverOf_32 (by decide) ?_
        refine lv_iadd hx hb dX12_coverOf_33 ?_
        obtain ⟨h_6, hg⟩ := g_gde hg
        refine va_iald hx hb hK.1 hP 1 0 rfl rfl (inB_vp h_6) dX12_coverOf_34 ?_
        refine lv_icmp_gt (tgt := 42) hx hb dX12_coverOf_35 (by decide) (fun c_7 => ?_) (fun c_7 => ?_)
        · have hg := g_it hg c_7
          refine lv_iconst (v := 0) hx hb dX12_coverOf_42 (by decide) ?_
          exact b_43 (f_X12_coverOf_b4 v0 n) ih x1 x3 x2 0 H locs ls hP hD hS (lv_sub hl [0, 1, 3] rfl) hg
        · have hg := g_if hg c_7
          refine lv_iconst (v := 1) hx hb dX12_coverOf_38 (by decide) ?_
          refine lv_goto (tgt := 43) hx hb dX12_coverOf_39 (by decide) ?_
          exact b_43 (f_X12_coverOf_b4 v0 n) ih x1 x3 x2 1 H locs ls hP hD hS (lv_sub hl [0, 1, 3] rfl) hg
  generalize hHe : s.heap = H at hP ⊢
  have hS : va_S A s.heap H [] := by rw [← hHe]; exact va_S.rf
  generalize ([] : List Loc) = locs at hS ⊢
  unfold f_X12_coverOf at hg
  refine lv_iconst (v := 0) hx hb dX12_coverOf_0 (by decide) ?_
  refine lv_istore_n (lv' := [(2, .int 0), (0, .ref a0), (1, .int p0)]) hx hb dX12_coverOf_1 rfl hl (by decide) rfl (fun ls hl => ?_)
  refine lv_iconst (v := 0) hx hb dX12_coverOf_2 (by decide) ?_
  refine lv_istore_n (lv' := [(3, .int 0), (2, .int 0), (0, .ref a0), (1, .int p0)]) hx hb dX12_coverOf_3 rfl hl (by decide) rfl (fun ls hl => ?_)
  exact b_4 fU p0 0 0 H locs ls hP hD hS (lv_sub hl [2, 3, 1, 0] rfl) hg
