/-! ManyEyesModel.body(IIII)I -/
def WS_X12_body (cI cJ cZ cY : ClassId) (a0 a0_a a0_image a0_texts a0_board a0_taken a0_fars a0_before a0_tape a0_pile a0_rows a0_told a0_values a0_truth a0_keeps : Nat) (v0 : BX12) : va_W := (GX12 cI cJ cZ cY a0 a0_a a0_image a0_texts a0_board a0_taken a0_fars a0_before a0_tape a0_pile a0_rows a0_told a0_values a0_truth a0_keeps v0)
def f_X12_body (v0 : BX12) (p0 : Int32) (p1 : Int32) (p2 : Int32) (p3 : Int32) : Option (Int32 × BX12) := (f_X12_isCell v0 p0).bind (fun r_1 => if (r_1 : Int32) = 0 then (some ((-1), v0)) else ((f_X12_isIn p1 (-2) 2).bind (fun r_3 => if (r_3 : Int32) = 0 then (some ((-1), v0)) else ((f_X12_isIn p2 (-2) 2).bind (fun r_5 => if (r_5 : Int32) = 0 then (some ((-1), v0)) else ((f_X12_isIn p3 1 255).bind (fun r_7 => if (r_7 : Int32) = 0 then (some ((-1), v0)) else (g_gd (inB 0 3170) (if (((pX12_a v0) (0 : Int32).toNatClampNeg) : Int32) = 6 then (some ((-1), v0)) else (g_gd (inB 0 3170) (g_lt (((590 : Int32) + ((4 : Int32) * ((pX12_a v0) (0 : Int32).toNatClampNeg))) : Int32) (fun x5_12 => g_gd (inB x5_12 3170) (g_lt (sX12_a v0 (upd (pX12_a v0) (x5_12 : Int32).toNatClampNeg p0)) (fun v0_14 => g_gd (inB (x5_12 + 1) 3170) (g_lt (sX12_a v0_14 (upd (pX12_a v0_14) ((x5_12 + 1) : Int32).toNatClampNeg p1)) (fun v0_16 => g_gd (inB (x5_12 + 2) 3170) (g_lt (sX12_a v0_16 (upd (pX12_a v0_16) ((x5_12 + 2) : Int32).toNatClampNeg p2)) (fun v0_18 => g_gd (inB (x5_12 + 3) 3170) (g_lt (sX12_a v0_18 (upd (pX12_a v0_18) ((x5_12 + 3) : Int32).toNatClampNeg p3)) (fun v0_20 => g_gd (inB 0 3170) (g_lt ((((pX12_a v0_20) (0 : Int32).toNatClampNeg) + 1) : Int32) (fun x_22 => g_gd (inB 0 3170) (g_lt (sX12_a v0_20 (upd (pX12_a v0_20) (0 : Int32).toNatClampNeg x_22)) (fun v0_24 => g_gd (inB 0 3170) (some ((((pX12_a v0_24) (0 : Int32).toNatClampNeg) - 1), v0_24))))))))))))))))))))))))))
abbrev rm_X12_body : Room := { frames := 2, cells := 0, slots := 0, locals := 43 }
set_option maxHeartbeats 4000000 in
set_option maxRecDepth 100000 in
theorem k_X12_body {l : Launch} {D : va_G} {cI cJ cZ cY : ClassId} {tX tY : Nat} {sz : Nat} (a0 a0_a a0_image a0_texts a0_board a0_taken a0_fars a0_before a0_tape a0_pile a0_rows a0_told a0_values a0_truth a0_keeps : Nat) (v0 : BX12) (p0 : Int32) (p1 : Int32) (p2 : Int32) (p3 : Int32) (res : Int32 × BX12) (hg : f_X12_body v0 p0 p1 p2 p3 = some res) : Met l yX12_body (Cond.code yX12_body cX12_body 6 (some .int) :: TB) rm_X12_body (PC D cI cJ cZ cY tX tY [.ref a0, .int p0, .int p1, .int p2, .int p3] (WS_X12_body cI cJ cZ cY a0 a0_a a0_image a0_texts a0_board a0_taken a0_fars a0_before a0_tape a0_pile a0_rows a0_told a0_values a0_truth a0_keeps v0) sz) (va_Qi (fun (r : Int32) (u : BX12) => r = res.1 ∧ u = res.2) (BC D (fun u : BX12 => WS_X12_body cI cJ cZ cY a0 a0_a a0_image a0_texts a0_board a0_taken a0_fars a0_before a0_tape a0_pile a0_rows a0_told a0_values a0_truth a0_keeps u) (va_A (WS_X12_body cI cJ cZ cY a0 a0_a a0_image a0_texts a0_board a0_taken a0_fars a0_before a0_tape a0_pile a0_rows a0_told a0_values a0_truth a0_keeps v0) sz)) (va_A (WS_X12_body cI cJ cZ cY a0 a0_a a0_image a0_texts a0_board a0_taken a0_fars a0_before a0_tape a0_pile a0_rows a0_told a0_values a0_truth a0_keeps v0) sz)) 0 0 (va_A (WS_X12_body cI cJ cZ cY a0 a0_a a0_image a0_texts a0_board a0_taken a0_fars a0_before a0_tape a0_pile a0_rows a0_told a0_values a0_truth a0_keeps v0) sz) := by
  refine Met.ofW (cc := cX12_body) (maxL := 6) (ret := (some .int)) (by decide) rfl ?_
  intro p e s m args below meth c s₁ B hml hv
  obtain ⟨hargs, hsz, hP, hK, hD0, hT⟩ := hv
  have hx := B.exec
  have hb := B.bytes
  have hr := B.returns
  have htb : ∀ w ∈ TB, w.before args s = true := fun w h => atoms_spec (ws := Cond.code yX12_body cX12_body 6 (some .int) :: TB) B.pre w (List.mem_cons_of_mem _ h)
  have hown : s.vm.findClass "ManyEyesModel" = some m.cls := findClass_of_methodNamed B.named
  have hlocks := B.notSynchronized
  subst hsz
  have hD := hD0.self (sz := s.heap.size)
  generalize hAe : va_A (WS_X12_body cI cJ cZ cY a0 a0_a a0_image a0_texts a0_board a0_taken a0_fars a0_before a0_tape a0_pile a0_rows a0_told a0_values a0_truth a0_keeps v0) s.heap.size = A at hD hT ⊢
  have hA : ∀ q : Nat, s.heap.size ≤ q → A q := fun q h => by rw [← hAe]; exact Or.inr h
  have hS : va_S A s.heap s.heap [] := va_S.rf
  have hl := lv_entry ([.ref a0, .int p0, .int p1, .int p2, .int p3]) (n := 6) (Nat.le_of_ble_eq_true rfl)
  have he : entryFrame m args 6 = F0 m 0 (lg_sl ([.ref a0, .int p0, .int p1, .int p2, .int p3]) ++ List.replicate (6 - (lg_sl ([.ref a0, .int p0, .int p1, .int p2, .int p3])).length) Slot.unset).toArray [] := by rw [hargs, lg_entry_eq]
  rw [he]
  generalize (lg_sl ([.ref a0, .int p0, .int p1, .int p2, .int p3]) ++ List.replicate (6 - (lg_sl ([.ref a0, .int p0, .int p1, .int p2, .int p3])).length) Slot.unset).toArray = ls at hl ⊢
  have hl : lv_has ls 6 [(0, .ref a0), (1, .int p0), (2, .int p1), (3, .int p2), (4, .int p3)] := hl
  show W p l e rm_X12_body s m args below meth c s.heap [] 0 0 _ _
  refine W.genQ (fun Q hQ => ?_)
  generalize hHe : s.heap = H at hP ⊢
  have hS : va_S A s.heap H [] := by rw [← hHe]; exact va_S.rf
  generalize ([] : List Loc) = locs at hS ⊢
  unfold f_X12_body at hg
  refine lv_aload_n hx hb dX12_body_0 rfl (lv_at hl 0 rfl) ?_
  refine lv_iload_n hx hb dX12_body_1 rfl (lv_at hl 1 rfl) ?_
  obtain ⟨r_1, hr_1, hg⟩ := g_bd hg
  refine cc_i (va_runV (C := RX12) (As := [.int p0]) (rest := []) ⟨hx, hb, hml, hown, htb⟩ (k_X12_isCell a0 a0_a a0_image a0_texts a0_board a0_taken a0_fars a0_before a0_tape a0_pile a0_rows a0_told a0_values a0_truth a0_keeps v0 p0 r_1 hr_1) (cw_V 1 htb tg_1075 tg_13 tg_1072 tg_1074 ts_28 rfl rfl (by decide +kernel) ⟨Nat.le_of_ble_eq_true rfl, Nat.le_of_ble_eq_true rfl⟩) ⟨PC.blind, va_recv hK.1 hP (ci := 11) (q0 := 0) rfl rfl, PC.pre hK hT hP hD hS hA [0, 1, 2, 3, 4, 5, 6, 7, 8, 9, 10, 11, 12, 13, 14] rfl (by decide)⟩ rfl rfl hl.1 rfl (lv_room (Nat.le_of_ble_eq_true rfl)) dX12_body_2 ⟨Nat.le_of_ble_eq_true rfl, Nat.le_of_ble_eq_true rfl⟩) hP hD hS hA [0, 1, 2, 3, 4, 5, 6, 7, 8, 9, 10, 11, 12, 13, 14] [] rfl rfl (by decide) (by decide) (fun r9 u9 H locs hw hP hD hS => ?_)
  have hw := hw.symm
  subst hw
  have hP : va_P D vwCl (WS_X12_body cI cJ cZ cY a0 a0_a a0_image a0_texts a0_board a0_taken a0_fars a0_before a0_tape a0_pile a0_rows a0_told a0_values a0_truth a0_keeps v0) H := hP.sub [0, 1, 2, 3, 4, 5, 6, 7, 8, 9, 10, 11, 12, 13, 14] rfl
  have hD : va_D A (WS_X12_body cI cJ cZ cY a0 a0_a a0_image a0_texts a0_board a0_taken a0_fars a0_before a0_tape a0_pile a0_rows a0_told a0_values a0_truth a0_keeps v0) := hD.sub [0, 1, 2, 3, 4, 5, 6, 7, 8, 9, 10, 11, 12, 13, 14] (by decide) rfl
  refine lv_if_eq (tgt := 51) hx hb dX12_body_5 (by decide) (fun c_2 => ?_) (fun c_2 => ?_)
  · have hg := g_it hg c_2
    refine lv_iconst (v := (-1)) hx hb dX12_body_51 (by decide) ?_
    have hg := Option.some.inj hg
    rw [hQ]
    exact W.iret (v := (-1)) hx hb hr (fun t ht hW => ⟨⟨(-1), (v0), rfl, ⟨by rw [← hg], by rw [← hg]⟩, by rw [ht]; exact hP, hD⟩, hS.F ht⟩) hS.2.2 dX12_body_52
  · have hg := g_if hg c_2
    refine lv_iload_n hx hb dX12_body_8 rfl (lv_at hl 2 rfl) ?_
    refine lv_bipush (v := (-2)) hx hb dX12_body_9 (by decide) ?_
    refine lv_iconst (v := 2) hx hb dX12_body_11 (by decide) ?_
    obtain ⟨r_3, hr_3, hg⟩ := g_bd hg
    refine cc_i (va_runS (As := [.int p1, .int (-2), .int 2]) (rest := []) ⟨hx, hb, hml, hown, htb⟩ (k_X12_isIn p1 (-2) 2 r_3 hr_3) (cw_S 3 htb tg_1078 tg_13 tg_1076 tg_1077 rfl rfl (by decide +kernel) ⟨Nat.le_of_ble_eq_true rfl, Nat.le_of_ble_eq_true rfl⟩) ⟨PC.blind, PC.pre hK hT hP hD hS hA [] rfl (by decide)⟩ rfl rfl hl.1 rfl (lv_room (Nat.le_of_ble_eq_true rfl)) dX12_body_12 ⟨Nat.le_of_ble_eq_true rfl, Nat.le_of_ble_eq_true rfl⟩) hP hD hS hA [] [0, 1, 2, 3, 4, 5, 6, 7, 8, 9, 10, 11, 12, 13, 14] rfl rfl (by decide) (by decide) (fun r9 u9 H locs hw hP hD hS => ?_)
    have hw := hw.symm
    subst hw
    have hP : va_P D vwCl (WS_X12_body cI cJ cZ cY a0 a0_a a0_image a0_texts a0_board a0_taken a0_fars a0_before a0_tape a0_pile a0_rows a0_told a0_values a0_truth a0_keeps v0) H := hP.sub [0, 1, 2, 3, 4, 5, 6, 7, 8, 9, 10, 11, 12, 13, 14] rfl
    have hD : va_D A (WS_X12_body cI cJ cZ cY a0 a0_a a0_image a0_texts a0_board a0_taken a0_fars a0_before a0_tape a0_pile a0_rows a0_told a0_values a0_truth a0_keeps v0) := hD.sub [0, 1, 2, 3, 4, 5, 6, 7, 8, 9, 10, 11, 12, 13, 14] (by decide) rfl
    refine lv_if_eq (tgt := 51) hx hb dX12_body_15 (by decide) (fun c_4 => ?_) (fun c_4 => ?_)
    · have hg := g_it hg c_4
      refine lv_iconst (v := (-1)) hx hb dX12_body_51 (by decide) ?_
      have hg := Option.some.inj hg
      rw [hQ]
      exact W.iret (v := (-1)) hx hb hr (fun t ht hW => ⟨⟨(-1), (v0), rfl, ⟨by rw [← hg], by rw [← hg]⟩, by rw [ht]; exact hP, hD⟩, hS.F ht⟩) hS.2.2 dX12_body_52
    · have hg := g_if hg c_4
      refine lv_iload_n hx hb dX12_body_18 rfl (lv_at hl 3 rfl) ?_
      refine lv_bipush (v := (-2)) hx hb dX12_body_19 (by decide) ?_
      refine lv_iconst (v := 2) hx hb dX12_body_21 (by decide) ?_
      obtain ⟨r_5, hr_5, hg⟩ := g_bd hg
      refine cc_i (va_runS (As := [.int p2, .int (-2), .int 2]) (rest := []) ⟨hx, hb, hml, hown, htb⟩ (k_X12_isIn p2 (-2) 2 r_5 hr_5) (cw_S 3 htb tg_1078 tg_13 tg_1076 tg_1077 rfl rfl (by decide +kernel) ⟨Nat.le_of_ble_eq_true rfl, Nat.le_of_ble_eq_true rfl⟩) ⟨PC.blind, PC.pre hK hT hP hD hS hA [] rfl (by decide)⟩ rfl rfl hl.1 rfl (lv_room (Nat.le_of_ble_eq_true rfl)) dX12_body_22 ⟨Nat.le_of_ble_eq_true rfl, Nat.le_of_ble_eq_true rfl⟩) hP hD hS hA [] [0, 1, 2, 3, 4, 5, 6, 7, 8, 9, 10, 11, 12, 13, 14] rfl rfl (by decide) (by decide) (fun r9 u9 H locs hw hP hD hS => ?_)
      have hw := hw.symm
      subst hw
      have hP : va_P D vwCl (WS_X12_body cI cJ cZ cY a0 a0_a a0_image a0_texts a0_board a0_taken a0_fars a0_before a0_tape a0_pile a0_rows a0_told a0_values a0_truth a0_keeps v0) H := hP.sub [0, 1, 2, 3, 4, 5, 6, 7, 8, 9, 10, 11, 12, 13, 14] rfl
      have hD : va_D A (WS_X12_body cI cJ cZ cY a0 a0_a a0_image a0_texts a0_board a0_taken a0_fars a0_before a0_tape a0_pile a0_rows a0_told a0_values a0_truth a0_keeps v0) := hD.sub [0, 1, 2, 3, 4, 5, 6, 7, 8, 9, 10, 11, 12, 13, 14] (by decide) rfl
      refine lv_if_eq (tgt := 51) hx hb dX12_body_25 (by decide) (fun c_6 => ?_) (fun c_6 => ?_)
      · have hg := g_it hg c_6
        refine lv_iconst (v := (-1)) hx hb dX12_body_51 (by decide) ?_
        have hg := Option.some.inj hg
        rw [hQ]
        exact W.iret (v := (-1)) hx hb hr (fun t ht hW => ⟨⟨(-1), (v0), rfl, ⟨by rw [← hg], by rw [← hg]⟩, by rw [ht]; exact hP, hD⟩, hS.F ht⟩) hS.2.2 dX12_body_52
      · have hg := g_if hg c_6
        refine lv_iload hx hb dX12_body_28 (lv_at hl 4 rfl) ?_
        refine lv_iconst (v := 1) hx hb dX12_body_30 (by decide) ?_
        refine lv_sipush (v := 255) hx hb dX12_body_31 (by decide) ?_
        obtain ⟨r_7, hr_7, hg⟩ := g_bd hg
        refine cc_i (va_runS (As := [.int p3, .int 1, .int 255]) (rest := []) ⟨hx, hb, hml, hown, htb⟩ (k_X12_isIn p3 1 255 r_7 hr_7) (cw_S 3 htb tg_1078 tg_13 tg_1076 tg_1077 rfl rfl (by decide +kernel) ⟨Nat.le_of_ble_eq_true rfl, Nat.le_of_ble_eq_true rfl⟩) ⟨PC.blind, PC.pre hK hT hP hD hS hA [] rfl (by decide)⟩ rfl rfl hl.1 rfl (lv_room (Nat.le_of_ble_eq_true rfl)) dX12_body_34 ⟨Nat.le_of_ble_eq_true rfl, Nat.le_of_ble_eq_true rfl⟩) hP hD hS hA [] [0, 1, 2, 3, 4, 5, 6, 7, 8, 9, 10, 11, 12, 13, 14] rfl rfl (by decide) (by decide) (fun r9 u9 H locs hw hP hD hS => ?_)
        have hw := hw.symm
        subst hw
        have hP : va_P D vwCl (WS_X12_body cI cJ cZ cY a0 a0_a a0_image a0_texts a0_board a0_taken a0_fars a0_before a0_tape a0_pile a0_rows a0_told a0_values a0_truth a0_keeps v0) H := hP.sub [0, 1, 2, 3, 4, 5, 6, 7, 8, 9, 10, 11, 12, 13, 14] rfl
        have hD : va_D A (WS_X12_body cI cJ cZ cY a0 a0_a a0_image a0_texts a0_board a0_taken a0_fars a0_before a0_tape a0_pile a0_rows a0_told a0_values a0_truth a0_keeps v0) := hD.sub [0, 1, 2, 3, 4, 5, 6, 7, 8, 9, 10, 11, 12, 13, 14] (by decide) rfl
        refine lv_if_eq (tgt := 51) hx hb dX12_body_37 (by decide) (fun c_8 => ?_) (fun c_8 => ?_)
        · have hg := g_it hg c_8
          refine lv_iconst (v := (-1)) hx hb dX12_body_51 (by decide) ?_
          have hg := Option.some.inj hg
          rw [hQ]
          exact W.iret (v := (-1)) hx hb hr (fun t ht hW => ⟨⟨(-1), (v0), rfl, ⟨by rw [← hg], by rw [← hg]⟩, by rw [ht]; exact hP, hD⟩, hS.F ht⟩) hS.2.2 dX12_body_52
        · have hg := g_if hg c_8
          refine lv_aload_n hx hb dX12_body_40 rfl (lv_at hl 0 rfl) ?_
          refine va_get (ci := 11) (v := .ref a0_a) (C := RX12) (T := TX12) (N := 43) hx hb htb uX12 hown hK.1 hP 0 rfl rfl 2 (by decide) (htb _ tg_938) (fun _ h9 => h9) rfl dX12_body_41 ?_
          refine lv_iconst (v := 0) hx hb dX12_body_44 (by decide) ?_
          obtain ⟨h_9, hg⟩ := g_gde hg
          refine va_iald hx hb hK.1 hP 1 0 rfl rfl (inB_vp h_9) dX12_body_45 ?_
          refine lv_bipush (v := 6) hx hb dX12_body_46 (by decide) ?_
          refine lv_icmp_ne (tgt := 53) hx hb dX12_body_48 (by decide) (fun c_10 => ?_) (fun c_10 => ?_)
          · have hg := g_if hg c_10
            refine lv_sipush (v := 590) hx hb dX12_body_53 (by decide) ?_
            refine lv_iconst (v := 4) hx hb dX12_body_56 (by decide) ?_
            refine lv_aload_n hx hb dX12_body_57 rfl (lv_at hl 0 rfl) ?_
            refine va_get (ci := 11) (v := .ref a0_a) (C := RX12) (T := TX12) (N := 43) hx hb htb uX12 hown hK.1 hP 0 rfl rfl 2 (by decide) (htb _ tg_938) (fun _ h9 => h9) rfl dX12_body_58 ?_
            refine lv_iconst (v := 0) hx hb dX12_body_61 (by decide) ?_
            obtain ⟨h_11, hg⟩ := g_gde hg
            refine va_iald hx hb hK.1 hP 1 0 rfl rfl (inB_vp h_11) dX12_body_62 ?_
            refine lv_imul hx hb dX12_body_63 ?_
            refine lv_iadd hx hb dX12_body_64 ?_
            refine lv_topi (fun x5_12 ex5_12 => ?_)
            have hg := g_lte hg x5_12 ex5_12
            refine lv_istore (lv' := [(5, .int x5_12), (0, .ref a0), (1, .int p0), (2, .int p1), (3, .int p2), (4, .int p3)]) hx hb dX12_body_65 hl (by decide) rfl (fun ls hl => ?_)
            refine lv_aload_n hx hb dX12_body_67 rfl (lv_at hl 1 rfl) ?_
            refine va_get (ci := 11) (v := .ref a0_a) (C := RX12) (T := TX12) (N := 43) hx hb htb uX12 hown hK.1 hP 0 rfl rfl 2 (by decide) (htb _ tg_938) (fun _ h9 => h9) rfl dX12_body_68 ?_
            refine lv_iload hx hb dX12_body_71 (lv_at hl 0 rfl) ?_
            refine lv_iload_n hx hb dX12_body_73 rfl (lv_at hl 2 rfl) ?_
            obtain ⟨h_13, hg⟩ := g_gde hg
            refine va_iast hx hb hK.1 hP hD hS 1 0 rfl rfl (inB_vp h_13) dX12_body_74 (fun H locs hP hD hS => ?_)
            obtain ⟨v0_14, ev0_14⟩ : ∃ z, z = sX12_a v0 (upd (pX12_a v0) (x5_12 : Int32).toNatClampNeg p0) := ⟨_, rfl⟩
            have hP : va_P D vwCl (WS_X12_body cI cJ cZ cY a0 a0_a a0_image a0_texts a0_board a0_taken a0_fars a0_before a0_tape a0_pile a0_rows a0_told a0_values a0_truth a0_keeps v0_14) H := by rw [ev0_14]; exact hP
            have hD : va_D A (WS_X12_body cI cJ cZ cY a0 a0_a a0_image a0_texts a0_board a0_taken a0_fars a0_before a0_tape a0_pile a0_rows a0_told a0_values a0_truth a0_keeps v0_14) := by rw [ev0_14]; exact hD
            have hg := g_lte hg v0_14 ev0_14
            refine lv_aload_n hx hb dX12_body_75 rfl (lv_at hl 1 rfl) ?_
            refine va_get (ci := 11) (v := .ref a0_a) (C := RX12) (T := TX12) (N := 43) hx hb htb uX12 hown hK.1 hP 0 rfl rfl 2 (by decide) (htb _ tg_938) (fun _ h9 => h9) rfl dX12_body_76 ?_
            refine lv_iload hx hb dX12_body_79 (lv_at hl 0 rfl) ?_
            refine lv_iconst (v := 1) hx hb dX12_body_81 (by decide) ?_
            refine lv_iadd hx hb dX12_body_82 ?_
            refine lv_iload_n hx hb dX12_body_83 rfl (lv_at hl 3 rfl) ?_
            obtain ⟨h_15, hg⟩ := g_gde hg
            refine va_iast hx hb hK.1 hP hD hS 1 0 rfl rfl (inB_vp h_15) dX12_body_84 (fun H locs hP hD hS => ?_)
            obtain ⟨v0_16, ev0_16⟩ : ∃ z, z = sX12_a v0_14 (upd (pX12_a v0_14) ((x5_12 + 1) : Int32).toNatClampNeg p1) := ⟨_, rfl⟩
            have hP : va_P D vwCl (WS_X12_body cI cJ cZ cY a0 a0_a a0_image a0_texts a0_board a0_taken a0_fars a0_before a0_tape a0_pile a0_rows a0_told a0_values a0_truth a0_keeps v0_16) H := by rw [ev0_16]; exact hP
            have hD : va_D A (WS_X12_body cI cJ cZ cY a0 a0_a a0_image a0_texts a0_board a0_taken a0_fars a0_before a0_tape a0_pile a0_rows a0_told a0_values a0_truth a0_keeps v0_16) := by rw [ev0_16]; exact hD
            have hg := g_lte hg v0_16 ev0_16
            refine lv_aload_n hx hb dX12_body_85 rfl (lv_at hl 1 rfl) ?_
            refine va_get (ci := 11) (v := .ref a0_a) (C := RX12) (T := TX12) (N := 43) hx hb htb uX12 hown hK.1 hP 0 rfl rfl 2 (by decide) (htb _ tg_938) (fun _ h9 => h9) rfl dX12_body_86 ?_
            refine lv_iload hx hb dX12_body_89 (lv_at hl 0 rfl) ?_
            refine lv_iconst (v := 2) hx hb dX12_body_91 (by decide) ?_
            refine lv_iadd hx hb dX12_body_92 ?_
            refine lv_iload_n hx hb dX12_body_93 rfl (lv_at hl 4 rfl) ?_
            obtain ⟨h_17, hg⟩ := g_gde hg
            refine va_iast hx hb hK.1 hP hD hS 1 0 rfl rfl (inB_vp h_17) dX12_body_94 (fun H locs hP hD hS => ?_)
            obtain ⟨v0_18, ev0_18⟩ : ∃ z, z = sX12_a v0_16 (upd (pX12_a v0_16) ((x5_12 + 2) : Int32).toNatClampNeg p2) := ⟨_, rfl⟩
            have hP : va_P D vwCl (WS_X12_body cI cJ cZ cY a0 a0_a a0_image a0_texts a0_board a0_taken a0_fars a0_before a0_tape a0_pile a0_rows a0_told a0_values a0_truth a0_keeps v0_18) H := by rw [ev0_18]; exact hP
            have hD : va_D A (WS_X12_body cI cJ cZ cY a0 a0_a a0_image a0_texts a0_board a0_taken a0_fars a0_before a0_tape a0_pile a0_rows a0_told a0_values a0_truth a0_keeps v0_18) := by rw [ev0_18]; exact hD
            have hg := g_lte hg v0_18 ev0_18
            refine lv_aload_n hx hb dX12_body_95 rfl (lv_at hl 1 rfl) ?_
            refine va_get (ci := 11) (v := .ref a0_a) (C := RX12) (T := TX12) (N := 43) hx hb htb uX12 hown hK.1 hP 0 rfl rfl 2 (by decide) (htb _ tg_938) (fun _ h9 => h9) rfl dX12_body_96 ?_
            refine lv_iload hx hb dX12_body_99 (lv_at hl 0 rfl) ?_
            refine lv_iconst (v := 3) hx hb dX12_body_101 (by decide) ?_
            refine lv_iadd hx hb dX12_body_102 ?_
            refine lv_iload hx hb dX12_body_103 (lv_at hl 5 rfl) ?_
            obtain ⟨h_19, hg⟩ := g_gde hg
            refine va_iast hx hb hK.1 hP hD hS 1 0 rfl rfl (inB_vp h_19) dX12_body_105 (fun H locs hP hD hS => ?_)
            obtain ⟨v0_20, ev0_20⟩ : ∃ z, z = sX12_a v0_18 (upd (pX12_a v0_18) ((x5_12 + 3) : Int32).toNatClampNeg p3) := ⟨_, rfl⟩
            have hP : va_P D vwCl (WS_X12_body cI cJ cZ cY a0 a0_a a0_image a0_texts a0_board a0_taken a0_fars a0_before a0_tape a0_pile a0_rows a0_told a0_values a0_truth a0_keeps v0_20) H := by rw [ev0_20]; exact hP
            have hD : va_D A (WS_X12_body cI cJ cZ cY a0 a0_a a0_image a0_texts a0_board a0_taken a0_fars a0_before a0_tape a0_pile a0_rows a0_told a0_values a0_truth a0_keeps v0_20) := by rw [ev0_20]; exact hD
            have hg := g_lte hg v0_20 ev0_20
            refine lv_aload_n hx hb dX12_body_106 rfl (lv_at hl 1 rfl) ?_
            refine va_get (ci := 11) (v := .ref a0_a) (C := RX12) (T := TX12) (N := 43) hx hb htb uX12 hown hK.1 hP 0 rfl rfl 2 (by decide) (htb _ tg_938) (fun _ h9 => h9) rfl dX12_body_107 ?_
            refine lv_iconst (v := 0) hx hb dX12_body_110 (by decide) ?_
            refine lv_dup2_11 hx hb dX12_body_111 rfl rfl ?_
            obtain ⟨h_21, hg⟩ := g_gde hg
            refine va_iald hx hb hK.1 hP 1 0 rfl rfl (inB_vp h_21) dX12_body_112 ?_
            refine lv_iconst (v := 1) hx hb dX12_body_113 (by decide) ?_
            refine lv_iadd hx hb dX12_body_114 ?_
            refine lv_topi (fun x_22 ex_22 => ?_)
            have hg := g_lte hg x_22 ex_22
            obtain ⟨h_23, hg⟩ := g_gde hg
            refine va_iast hx hb hK.1 hP hD hS 1 0 rfl rfl (inB_vp h_23) dX12_body_115 (fun H locs hP hD hS => ?_)
            obtain ⟨v0_24, ev0_24⟩ : ∃ z, z = sX12_a v0_20 (upd (pX12_a v0_20) (0 : Int32).toNatClampNeg x_22) := ⟨_, rfl⟩
            have hP : va_P D vwCl (WS_X12_body cI cJ cZ cY a0 a0_a a0_image a0_texts a0_board a0_taken a0_fars a0_before a0_tape a0_pile a0_rows a0_told a0_values a0_truth a0_keeps v0_24) H := by rw [ev0_24]; exact hP
            have hD : va_D A (WS_X12_body cI cJ cZ cY a0 a0_a a0_image a0_texts a0_board a0_taken a0_fars a0_before a0_tape a0_pile a0_rows a0_told a0_values a0_truth a0_keeps v0_24) := by rw [ev0_24]; exact hD
            have hg := g_lte hg v0_24 ev0_24
            refine lv_aload_n hx hb dX12_body_116 rfl (lv_at hl 1 rfl) ?_
            refine va_get (ci := 11) (v := .ref a0_a) (C := RX12) (T := TX12) (N := 43) hx hb htb uX12 hown hK.1 hP 0 rfl rfl 2 (by decide) (htb _ tg_938) (fun _ h9 => h9) rfl dX12_body_117 ?_
            refine lv_iconst (v := 0) hx hb dX12_body_120 (by decide) ?_
            obtain ⟨h_25, hg⟩ := g_gde hg
            refine va_iald hx hb hK.1 hP 1 0 rfl rfl (inB_vp h_25) dX12_body_121 ?_
            refine lv_iconst (v := 1) hx hb dX12_body_122 (by decide) ?_
            refine lv_isub hx hb dX12_body_123 ?_
            have hg := Option.some.inj hg
            rw [hQ]
            exact W.iret (v := (((pX12_a v0_24) (0 : Int32).toNatClampNeg) - 1)) hx hb hr (fun t ht hW => ⟨⟨(((pX12_a v0_24) (0 : Int32).toNatClampNeg) - 1), (v0_24), rfl, ⟨by rw [← hg], by rw [← hg]⟩, by rw [ht]; exact hP, hD⟩, hS.F ht⟩) hS.2.2 dX12_body_124
          · have hg := g_it hg c_10
            refine lv_iconst (v := (-1)) hx hb dX12_body_51 (by decide) ?_
            have hg := Option.some.inj hg
            rw [hQ]
            exact W.iret (v := (-1)) hx hb hr (fun t ht hW => ⟨⟨(-1), (v0), rfl, ⟨by rw [← hg], by rw [← hg]⟩, by rw [ht]; exact hP, hD⟩, hS.F ht⟩) hS.2.2 dX12_body_52

/-! ManyEyesModel.bodyAt(II)I -/
def WS_X12_bodyAt (cI cJ cZ cY : ClassId) (a0 a0_a a0_image a0_texts a0_board a0_taken a0_fars a0_before a0_tape a0_pile a0_rows a0_told a0_values a0_truth a0_keeps : Nat) (v0 : BX12) : va_W := (GX12 cI cJ cZ cY a0 a0_a a0_image a0_texts a0_board a0_taken a0_fars a0_before a0_tape a0_pile a0_rows a0_told a0_values a0_truth a0_keeps v0)
def f_X12_bodyAt (v0 : BX12) (p0 : Int32) (p1 : Int32) : Option (Int32) := g_gd (inB ((590 : Int32) + ((4 : Int32) * p0)) 3170) (g_gd (¬ ((pX12_w v0) : Int32) = 0) (g_gd (inB (((590 : Int32) + ((4 : Int32) * p0)) + 1) 3170) (g_lt (((((pX12_a v0) (((590 : Int32) + ((4 : Int32) * p0)) : Int32).toNatClampNeg) - ((pX12_a v0) (((590 : Int32) + ((4 : Int32) * p0)) : Int32).toNatClampNeg) / (pX12_w v0) * (pX12_w v0)) + (p1 * ((pX12_a v0) ((((590 : Int32) + ((4 : Int32) * p0)) + 1) : Int32).toNatClampNeg))) : Int32) (fun x3_4 => g_gd (inB ((590 : Int32) + ((4 : Int32) * p0)) 3170) (g_gd (¬ ((pX12_w v0) : Int32) = 0) (g_gd (inB (((590 : Int32) + ((4 : Int32) * p0)) + 2) 3170) (g_lt (((((pX12_a v0) (((590 : Int32) + ((4 : Int32) * p0)) : Int32).toNatClampNeg) / (pX12_w v0)) + (p1 * ((pX12_a v0) ((((590 : Int32) + ((4 : Int32) * p0)) + 2) : Int32).toNatClampNeg))) : Int32) (fun x4_8 => (f_X12_isIn x3_4 0 ((pX12_w v0) - 1)).bind (fun r_9 => if (r_9 : Int32) = 0 then (some (-1)) else ((f_X12_isIn x4_8 0 ((pX12_h v0) - 1)).bind (fun r_11 => if (r_11 : Int32) = 0 then (some (-1)) else (some ((x4_8 * (pX12_w v0)) + x3_4)))))))))))))
abbrev rm_X12_bodyAt : Room := { frames := 1, cells := 0, slots := 0, locals := 22 }
set_option maxHeartbeats 4000000 in
set_option maxRecDepth 100000 in
theorem k_X12_bodyAt {l : Launch} {D : va_G} {cI cJ cZ cY : ClassId} {tX tY : Nat} {sz : Nat} (a0 a0_a a0_image a0_texts a0_board a0_taken a0_fars a0_before a0_tape a0_pile a0_rows a0_told a0_values a0_truth a0_keeps : Nat) (v0 : BX12) (p0 : Int32) (p1 : Int32) (res : Int32) (hg : f_X12_bodyAt v0 p0 p1 = some res) : Met l yX12_bodyAt (Cond.code yX12_bodyAt cX12_bodyAt 5 (some .int) :: TB) rm_X12_bodyAt (PC D cI cJ cZ cY tX tY [.ref a0, .int p0, .int p1] (WS_X12_bodyAt cI cJ cZ cY a0 a0_a a0_image a0_texts a0_board a0_taken a0_fars a0_before a0_tape a0_pile a0_rows a0_told a0_values a0_truth a0_keeps v0) sz) (va_Qi (fun (r : Int32) (_ : Unit) => r = res) (BC D (fun _ : Unit => WS_X12_bodyAt cI cJ cZ cY a0 a0_a a0_image a0_texts a0_board a0_taken a0_fars a0_before a0_tape a0_pile a0_rows a0_told a0_values a0_truth a0_keeps v0) (va_A (WS_X12_bodyAt cI cJ cZ cY a0 a0_a a0_image a0_texts a0_board a0_taken a0_fars a0_before a0_tape a0_pile a0_rows a0_told a0_values a0_truth a0_keeps v0) sz)) (va_A (WS_X12_bodyAt cI cJ cZ cY a0 a0_a a0_image a0_texts a0_board a0_taken a0_fars a0_before a0_tape a0_pile a0_rows a0_told a0_values a0_truth a0_keeps v0) sz)) 0 0 (va_A (WS_X12_bodyAt cI cJ cZ cY a0 a0_a a0_image a0_texts a0_board a0_taken a0_fars a0_before a0_tape a0_pile a0_rows a0_told a0_values a0_truth a0_keeps v0) sz) := by
  refine Met.ofW (cc := cX12_bodyAt) (maxL := 5) (ret := (some .int)) (by decide) rfl ?_
  intro p e s m args below meth c s₁ B hml hv
  obtain ⟨hargs, hsz, hP, hK, hD0, hT⟩ := hv
  have hx := B.exec
  have hb := B.bytes
  have hr := B.returns
  have htb : ∀ w ∈ TB, w.before args s = true := fun w h => atoms_spec (ws := Cond.code yX12_bodyAt cX12_bodyAt 5 (some .int) :: TB) B.pre w (List.mem_cons_of_mem _ h)
  have hown : s.vm.findClass "ManyEyesModel" = some m.cls := findClass_of_methodNamed B.named
  have hlocks := B.notSynchronized
  subst hsz
  have hD := hD0.self (sz := s.heap.size)
  generalize hAe : va_A (WS_X12_bodyAt cI cJ cZ cY a0 a0_a a0_image a0_texts a0_board a0_taken a0_fars a0_before a0_tape a0_pile a0_rows a0_told a0_values a0_truth a0_keeps v0) s.heap.size = A at hD hT ⊢
  have hA : ∀ q : Nat, s.heap.size ≤ q → A q := fun q h => by rw [← hAe]; exact Or.inr h
  have hS : va_S A s.heap s.heap [] := va_S.rf
  have hl := lv_entry ([.ref a0, .int p0, .int p1]) (n := 5) (Nat.le_of_ble_eq_true rfl)
  have he : entryFrame m args 5 = F0 m 0 (lg_sl ([.ref a0, .int p0, .int p1]) ++ List.replicate (5 - (lg_sl ([.ref a0, .int p0, .int p1])).length) Slot.unset).toArray [] := by rw [hargs, lg_entry_eq]
  rw [he]
  generalize (lg_sl ([.ref a0, .int p0, .int p1]) ++ List.replicate (5 - (lg_sl ([.ref a0, .int p0, .int p1])).length) Slot.unset).toArray = ls at hl ⊢
  have hl : lv_has ls 5 [(0, .ref a0), (1, .int p0), (2, .int p1)] := hl
  show W p l e rm_X12_bodyAt s m args below meth c s.heap [] 0 0 _ _
  refine W.genQ (fun Q hQ => ?_)
  generalize hHe : s.heap = H at hP ⊢
  have hS : va_S A s.heap H [] := by rw [← hHe]; exact va_S.rf
  generalize ([] : List Loc) = locs at hS ⊢
  unfold f_X12_bodyAt at hg
  refine lv_aload_n hx hb dX12_bodyAt_0 rfl (lv_at hl 0 rfl) ?_
  refine va_get (ci := 11) (v := .ref a0_a) (C := RX12) (T := TX12) (N := 43) hx hb htb uX12 hown hK.1 hP 0 rfl rfl 2 (by decide) (htb _ tg_938) (fun _ h9 => h9) rfl dX12_bodyAt_1 ?_
  refine lv_sipush (v := 590) hx hb dX12_bodyAt_4 (by decide) ?_
  refine lv_iconst (v := 4) hx hb dX12_bodyAt_7 (by decide) ?_
  refine lv_iload_n hx hb dX12_bodyAt_8 rfl (lv_at hl 1 rfl) ?_
  refine lv_imul hx hb dX12_bodyAt_9 ?_
  refine lv_iadd hx hb dX12_bodyAt_10 ?_
  obtain ⟨h_1, hg⟩ := g_gde hg
  refine va_iald hx hb hK.1 hP 1 0 rfl rfl (inB_vp h_1) dX12_bodyAt_11 ?_
  refine lv_aload_n hx hb dX12_bodyAt_12 rfl (lv_at hl 0 rfl) ?_
  refine va_get (ci := 11) (v := .int (pX12_w v0)) (C := RX12) (T := TX12) (N := 43) hx hb htb uX12 hown hK.1 hP 0 rfl rfl 0 (by decide) (htb _ tg_936) (fun _ h9 => h9) rfl dX12_bodyAt_13 ?_
  obtain ⟨h_2, hg⟩ := g_gde hg
  refine lv_irem hx hb dX12_bodyAt_16 h_2 ?_
  refine lv_iload_n hx hb dX12_bodyAt_17 rfl (lv_at hl 2 rfl) ?_
  refine lv_aload_n hx hb dX12_bodyAt_18 rfl (lv_at hl 0 rfl) ?_
  refine va_get (ci := 11) (v := .ref a0_a) (C := RX12) (T := TX12) (N := 43) hx hb htb uX12 hown hK.1 hP 0 rfl rfl 2 (by decide) (htb _ tg_938) (fun _ h9 => h9) rfl dX12_bodyAt_19 ?_
  refine lv_sipush (v := 590) hx hb dX12_bodyAt_22 (by decide) ?_
  refine lv_iconst (v := 4) hx hb dX12_bodyAt_25 (by decide) ?_
  refine lv_iload_n hx hb dX12_bodyAt_26 rfl (lv_at hl 1 rfl) ?_
  refine lv_imul hx hb dX12_bodyAt_27 ?_
  refine lv_iadd hx hb dX12_bodyAt_28 ?_
  refine lv_iconst (v := 1) hx hb dX12_bodyAt_29 (by decide) ?_
  refine lv_iadd hx hb dX12_bodyAt_30 ?_
  obtain ⟨h_3, hg⟩ := g_gde hg
  refine va_iald hx hb hK.1 hP 1 0 rfl rfl (inB_vp h_3) dX12_bodyAt_31 ?_
  refine lv_imul hx hb dX12_bodyAt_32 ?_
  refine lv_iadd hx hb dX12_bodyAt_33 ?_
  refine lv_topi (fun x3_4 ex3_4 => ?_)
  have hg := g_lte hg x3_4 ex3_4
  refine lv_istore_n (lv' := [(3, .int x3_4), (0, .ref a0), (1, .int p0), (2, .int p1)]) hx hb dX12_bodyAt_34 rfl hl (by decide) rfl (fun ls hl => ?_)
  refine lv_aload_n hx hb dX12_bodyAt_35 rfl (lv_at hl 1 rfl) ?_
  refine va_get (ci := 11) (v := .ref a0_a) (C := RX12) (T := TX12) (N := 43) hx hb htb uX12 hown hK.1 hP 0 rfl rfl 2 (by decide) (htb _ tg_938) (fun _ h9 => h9) rfl dX12_bodyAt_36 ?_
  refine lv_sipush (v := 590) hx hb dX12_bodyAt_39 (by decide) ?_
  refine lv_iconst (v := 4) hx hb dX12_bodyAt_42 (by decide) ?_
  refine lv_iload_n hx hb dX12_bodyAt_43 rfl (lv_at hl 2 rfl) ?_
  refine lv_imul hx hb dX12_bodyAt_44 ?_
  refine lv_iadd hx hb dX12_bodyAt_45 ?_
  obtain ⟨h_5, hg⟩ := g_gde hg
  refine va_iald hx hb hK.1 hP 1 0 rfl rfl (inB_vp h_5) dX12_bodyAt_46 ?_
  refine lv_aload_n hx hb dX12_bodyAt_47 rfl (lv_at hl 1 rfl) ?_
  refine va_get (ci := 11) (v := .int (pX12_w v0)) (C := RX12) (T := TX12) (N := 43) hx hb htb uX12 hown hK.1 hP 0 rfl rfl 0 (by decide) (htb _ tg_936) (fun _ h9 => h9) rfl dX12_bodyAt_48 ?_
  obtain ⟨h_6, hg⟩ := g_gde hg
  refine lv_idiv hx hb dX12_bodyAt_51 h_6 ?_
  refine lv_iload_n hx hb dX12_bodyAt_52 rfl (lv_at hl 3 rfl) ?_
  refine lv_aload_n hx hb dX12_bodyAt_53 rfl (lv_at hl 1 rfl) ?_
  refine va_get (ci := 11) (v := .ref a0_a) (C := RX12) (T := TX12) (N := 43) hx hb htb uX12 hown hK.1 hP 0 rfl rfl 2 (by decide) (htb _ tg_938) (fun _ h9 => h9) rfl dX12_bodyAt_54 ?_
  refine lv_sipush (v := 590) hx hb dX12_bodyAt_57 (by decide) ?_
  refine lv_iconst (v := 4) hx hb dX12_bodyAt_60 (by decide) ?_
  refine lv_iload_n hx hb dX12_bodyAt_61 rfl (lv_at hl 2 rfl) ?_
  refine lv_imul hx hb dX12_bodyAt_62 ?_
  refine lv_iadd hx hb dX12_bodyAt_63 ?_
  refine lv_iconst (v := 2) hx hb dX12_bodyAt_64 (by decide) ?_
  refine lv_iadd hx hb dX12_bodyAt_65 ?_
  obtain ⟨h_7, hg⟩ := g_gde hg
  refine va_iald hx hb hK.1 hP 1 0 rfl rfl (inB_vp h_7) dX12_bodyAt_66 ?_
  refine lv_imul hx hb dX12_bodyAt_67 ?_
  refine lv_iadd hx hb dX12_bodyAt_68 ?_
  refine lv_topi (fun x4_8 ex4_8 => ?_)
  have hg := g_lte hg x4_8 ex4_8
  refine lv_istore (lv' := [(4, .int x4_8), (3, .int x3_4), (0, .ref a0), (1, .int p0), (2, .int p1)]) hx hb dX12_bodyAt_69 hl (by decide) rfl (fun ls hl => ?_)
  refine lv_iload_n hx hb dX12_bodyAt_71 rfl (lv_at hl 1 rfl) ?_
  refine lv_iconst (v := 0) hx hb dX12_bodyAt_72 (by decide) ?_
  refine lv_aload_n hx hb dX12_bodyAt_73 rfl (lv_at hl 2 rfl) ?_
  refine va_get (ci := 11) (v := .int (pX12_w v0)) (C := RX12) (T := TX12) (N := 43) hx hb htb uX12 hown hK.1 hP 0 rfl rfl 0 (by decide) (htb _ tg_936) (fun _ h9 => h9) rfl dX12_bodyAt_74 ?_
  refine lv_iconst (v := 1) hx hb dX12_bodyAt_77 (by decide) ?_
  refine lv_isub hx hb dX12_bodyAt_78 ?_
  obtain ⟨r_9, hr_9, hg⟩ := g_bd hg
  refine cc_i (va_runS (As := [.int x3_4, .int 0, .int ((pX12_w v0) - 1)]) (rest := []) ⟨hx, hb, hml, hown, htb⟩ (k_X12_isIn x3_4 0 ((pX12_w v0) - 1) r_9 hr_9) (cw_S 3 htb tg_1078 tg_13 tg_1076 tg_1077 rfl rfl (by decide +kernel) ⟨Nat.le_of_ble_eq_true rfl, Nat.le_of_ble_eq_true rfl⟩) ⟨PC.blind, PC.pre hK hT hP hD hS hA [] rfl (by decide)⟩ rfl rfl hl.1 rfl (lv_room (Nat.le_of_ble_eq_true rfl)) dX12_bodyAt_79 ⟨Nat.le_of_ble_eq_true rfl, Nat.le_of_ble_eq_true rfl⟩) hP hD hS hA [] [0, 1, 2, 3, 4, 5, 6, 7, 8, 9, 10, 11, 12, 13, 14] rfl rfl (by decide) (by decide) (fun r9 u9 H locs hw hP hD hS => ?_)
  have hw := hw.symm
  subst hw
  have hP : va_P D vwCl (WS_X12_bodyAt cI cJ cZ cY a0 a0_a a0_image a0_texts a0_board a0_taken a0_fars a0_before a0_tape a0_pile a0_rows a0_told a0_values a0_truth a0_keeps v0) H := hP.sub [0, 1, 2, 3, 4, 5, 6, 7, 8, 9, 10, 11, 12, 13, 14] rfl
  have hD : va_D A (WS_X12_bodyAt cI cJ cZ cY a0 a0_a a0_image a0_texts a0_board a0_taken a0_fars a0_before a0_tape a0_pile a0_rows a0_told a0_values a0_truth a0_keeps v0) := hD.sub [0, 1, 2, 3, 4, 5, 6, 7, 8, 9, 10, 11, 12, 13, 14] (by decide) rfl
  refine lv_if_eq (tgt := 112) hx hb dX12_bodyAt_82 (by decide) (fun c_10 => ?_) (fun c_10 => ?_)
  · have hg := g_it hg c_10
    refine lv_iconst (v := (-1)) hx hb dX12_bodyAt_112 (by decide) ?_
    have hg := Option.some.inj hg
    rw [hQ]
    exact W.iret (v := (-1)) hx hb hr (fun t ht hW => ⟨⟨(-1), (), rfl, hg, by rw [ht]; exact hP, hD⟩, hS.F ht⟩) hS.2.2 dX12_bodyAt_113
  · have hg := g_if hg c_10
    refine lv_iload hx hb dX12_bodyAt_85 (lv_at hl 0 rfl) ?_
    refine lv_iconst (v := 0) hx hb dX12_bodyAt_87 (by decide) ?_
    refine lv_aload_n hx hb dX12_bodyAt_88 rfl (lv_at hl 2 rfl) ?_
    refine va_get (ci := 11) (v := .int (pX12_h v0)) (C := RX12) (T := TX12) (N := 43) hx hb htb uX12 hown hK.1 hP 0 rfl rfl 1 (by decide) (htb _ tg_937) (fun _ h9 => h9) rfl dX12_bodyAt_89 ?_
    refine lv_iconst (v := 1) hx hb dX12_bodyAt_92 (by decide) ?_
    refine lv_isub hx hb dX12_bodyAt_93 ?_
    obtain ⟨r_11, hr_11, hg⟩ := g_bd hg
    refine cc_i (va_runS (As := [.int x4_8, .int 0, .int ((pX12_h v0) - 1)]) (rest := []) ⟨hx, hb, hml, hown, htb⟩ (k_X12_isIn x4_8 0 ((pX12_h v0) - 1) r_11 hr_11) (cw_S 3 htb tg_1078 tg_13 tg_1076 tg_1077 rfl rfl (by decide +kernel) ⟨Nat.le_of_ble_eq_true rfl, Nat.le_of_ble_eq_true rfl⟩) ⟨PC.blind, PC.pre hK hT hP hD hS hA [] rfl (by decide)⟩ rfl rfl hl.1 rfl (lv_room (Nat.le_of_ble_eq_true rfl)) dX12_bodyAt_94 ⟨Nat.le_of_ble_eq_true rfl, Nat.le_of_ble_eq_true rfl⟩) hP hD hS hA [] [0, 1, 2, 3, 4, 5, 6, 7, 8, 9, 10, 11, 12, 13, 14] rfl rfl (by decide) (by decide) (fun r9 u9 H locs hw hP hD hS => ?_)
    have hw := hw.symm
    subst hw
    have hP : va_P D vwCl (WS_X12_bodyAt cI cJ cZ cY a0 a0_a a0_image a0_texts a0_board a0_taken a0_fars a0_before a0_tape a0_pile a0_rows a0_told a0_values a0_truth a0_keeps v0) H := hP.sub [0, 1, 2, 3, 4, 5, 6, 7, 8, 9, 10, 11, 12, 13, 14] rfl
    have hD : va_D A (WS_X12_bodyAt cI cJ cZ cY a0 a0_a a0_image a0_texts a0_board a0_taken a0_fars a0_before a0_tape a0_pile a0_rows a0_told a0_values a0_truth a0_keeps v0) := hD.sub [0, 1, 2, 3, 4, 5, 6, 7, 8, 9, 10, 11, 12, 13, 14] (by decide) rfl
    refine lv_if_eq (tgt := 112) hx hb dX12_bodyAt_97 (by decide) (fun c_12 => ?_) (fun c_12 => ?_)
    · have hg := g_it hg c_12
      refine lv_iconst (v := (-1)) hx hb dX12_bodyAt_112 (by decide) ?_
      have hg := Option.some.inj hg
      rw [hQ]
      exact W.iret (v := (-1)) hx hb hr (fun t ht hW => ⟨⟨(-1), (), rfl, hg, by rw [ht]; exact hP, hD⟩, hS.F ht⟩) hS.2.2 dX12_bodyAt_113
    · have hg := g_if hg c_12
      refine lv_iload hx hb dX12_bodyAt_100 (lv_at hl 0 rfl) ?_
      refine lv_aload_n hx hb dX12_bodyAt_102 rfl (lv_at hl 2 rfl) ?_
      refine va_get (ci := 11) (v := .int (pX12_w v0)) (C := RX12) (T := TX12) (N := 43) hx hb htb uX12 hown hK.1 hP 0 rfl rfl 0 (by decide) (htb _ tg_936) (fun _ h9 => h9) rfl dX12_bodyAt_103 ?_
      refine lv_imul hx hb dX12_bodyAt_106 ?_
      refine lv_iload_n hx hb dX12_bodyAt_107 rfl (lv_at hl 1 rfl) ?_
      refine lv_iadd hx hb dX12_bodyAt_108 ?_
      refine lv_goto (tgt := 113) hx hb dX12_bodyAt_109 (by decide) ?_
      have hg := Option.some.inj hg
      rw [hQ]
      exact W.iret (v := ((x4_8 * (pX12_w v0)) + x3_4)) hx hb hr (fun t ht hW => ⟨⟨((x4_8 * (pX12_w v0)) + x3_4), (), rfl, hg, by rw [ht]; exact hP, hD⟩, hS.F ht⟩) hS.2.2 dX12_bodyAt_113

/-! ManyEyesModel.markAt(II)I -/
def WS_X12_markAt (cI cJ cZ cY : ClassId) (a0 a0_a a0_image a0_texts a0_board a0_taken a0_fars a0_before a0_tape a0_pile a0_rows a0_told a0_values a0_truth a0_keeps : Nat) (v0 : BX12) : va_W := (GX12 cI cJ cZ cY a0 a0_a a0_image a0_texts a0_board a0_taken a0_fars a0_before a0_tape a0_pile a0_rows a0_told a0_values a0_truth a0_keeps v0)
def f_X12_markAt_b2B (v0 : BX12) (J2 : Int32 × Int32 × Int32 → Option (Int32)) (x1 : Int32) (x2 : Int32) (x3 : Int32) : Option (Int32) := g_gd (inB 0 3170) (if (((pX12_a v0) (0 : Int32).toNatClampNeg) : Int32) ≤ x3 then (g_gd (inB ((10 : Int32) + x1) 3170) (some ((pX12_a v0) (((10 : Int32) + x1) : Int32).toNatClampNeg))) else ((f_X12_bodyAt v0 x3 x2).bind (fun r_4 => if (r_4 : Int32) = x1 then (g_gd (inB (((590 : Int32) + ((4 : Int32) * x3)) + 3) 3170) (some ((pX12_a v0) ((((590 : Int32) + ((4 : Int32) * x3)) + 3) : Int32).toNatClampNeg))) else (g_lt (x3 + 1 : Int32) (fun x3_6 => J2 (x1, x2, x3_6))))))
def f_X12_markAt_b2 (v0 : BX12) : Nat → (Int32 × Int32 × Int32) → Option (Int32) := g_lp (fun J z => f_X12_markAt_b2B v0 J z.1 z.2.1 z.2.2)
def f_X12_markAt (v0 : BX12) (p0 : Int32) (p1 : Int32) : Option (Int32) := f_X12_markAt_b2 v0 fU (p0, p1, 0)
abbrev rm_X12_markAt : Room := { frames := 2, cells := 0, slots := 0, locals := 46 }
set_option maxHeartbeats 4000000 in
set_option maxRecDepth 100000 in
theorem k_X12_markAt {l : Launch} {D : va_G} {cI cJ cZ cY : ClassId} {tX tY : Nat} {sz : Nat} (a0 a0_a a0_image a0_texts a0_board a0_taken a0_fars a0_before a0_tape a0_pile a0_rows a0_told a0_values a0_truth a0_keeps : Nat) (v0 : BX12) (p0 : Int32) (p1 : Int32) (res : Int32) (hg : f_X12_markAt v0 p0 p1 = some res) : Met l yX12_markAt (Cond.code yX12_markAt cX12_markAt 4 (some .int) :: TB) rm_X12_markAt (PC D cI cJ cZ cY tX tY [.ref a0, .int p0, .int p1] (WS_X12_markAt cI cJ cZ cY a0 a0_a a0_image a0_texts a0_board a0_taken a0_fars a0_before a0_tape a0_pile a0_rows a0_told a0_values a0_truth a0_keeps v0) sz) (va_Qi (fun (r : Int32) (_ : Unit) => r = res) (BC D (fun _ : Unit => WS_X12_markAt cI cJ cZ cY a0 a0_a a0_image a0_texts a0_board a0_taken a0_fars a0_before a0_tape a0_pile a0_rows a0_told a0_values a0_truth a0_keeps v0) (va_A (WS_X12_markAt cI cJ cZ cY a0 a0_a a0_image a0_texts a0_board a0_taken a0_fars a0_before a0_tape a0_pile a0_rows a0_told a0_values a0_truth a0_keeps v0) sz)) (va_A (WS_X12_markAt cI cJ cZ cY a0 a0_a a0_image a0_texts a0_board a0_taken a0_fars a0_before a0_tape a0_pile a0_rows a0_told a0_values a0_truth a0_keeps v0) sz)) 0 0 (va_A (WS_X12_markAt cI cJ cZ cY a0 a0_a a0_image a0_texts a0_board a0_taken a0_fars a0_before a0_tape a0_pile a0_rows a0_told a0_values a0_truth a0_keeps v0) sz) := by
  refine Met.ofW (cc := cX12_markAt) (maxL := 4) (ret := (some .int)) (by decide) rfl ?_
  intro p e s m args below meth c s₁ B hml hv
  obtain ⟨hargs, hsz, hP, hK, hD0, hT⟩ := hv
  have hx := B.exec
  have hb := B.bytes
  have hr := B.returns
  have htb : ∀ w ∈ TB, w.before args s = true := fun w h => atoms_spec (ws := Cond.code yX12_markAt cX12_markAt 4 (some .int) :: TB) B.pre w (List.mem_cons_of_mem _ h)
  have hown : s.vm.findClass "ManyEyesModel" = some m.cls := findClass_of_methodNamed B.named
  have hlocks := B.notSynchronized
  subst hsz
  have hD := hD0.self (sz := s.heap.size)
  generalize hAe : va_A (WS_X12_markAt cI cJ cZ cY a0 a0_a a0_image a0_texts a0_board a0_taken a0_fars a0_before a0_tape a0_pile a0_rows a0_told a0_values a0_truth a0_keeps v0) s.heap.size = A at hD hT ⊢
  have hA : ∀ q : Nat, s.heap.size ≤ q → A q := fun q h => by rw [← hAe]; exact Or.inr h
  have hS : va_S A s.heap s.heap [] := va_S.rf
  have hl := lv_entry ([.ref a0, .int p0, .int p1]) (n := 4) (Nat.le_of_ble_eq_true rfl)
  have he : entryFrame m args 4 = F0 m 0 (lg_sl ([.ref a0, .int p0, .int p1]) ++ List.replicate (4 - (lg_sl ([.ref a0, .int p0, .int p1])).length) Slot.unset).toArray [] := by rw [hargs, lg_entry_eq]
  rw [he]
  generalize (lg_sl ([.ref a0, .int p0, .int p1]) ++ List.replicate (4 - (lg_sl ([.ref a0, .int p0, .int p1])).length) Slot.unset).toArray = ls at hl ⊢
  have hl : lv_has ls 4 [(0, .ref a0), (1, .int p0), (2, .int p1)] := hl
  show W p l e rm_X12_markAt s m args below meth c s.heap [] 0 0 _ _
  refine W.genQ (fun Q hQ => ?_)
  have b_2 : ∀ (n : Nat), ∀ (x1 : Int32) (x2 : Int32) (x3 : Int32) (H : Heap) (locs : List Loc) (ls : Array Slot), va_P D vwCl (WS_X12_markAt cI cJ cZ cY a0 a0_a a0_image a0_texts a0_board a0_taken a0_fars a0_before a0_tape a0_pile a0_rows a0_told a0_values a0_truth a0_keeps v0) H → va_D A (WS_X12_markAt cI cJ cZ cY a0 a0_a a0_image a0_texts a0_board a0_taken a0_fars a0_before a0_tape a0_pile a0_rows a0_told a0_values a0_truth a0_keeps v0) → va_S A s.heap H locs → lv_has ls 4 [(0, .ref a0), (1, .int x1), (2, .int x2), (3, .int x3)] → f_X12_markAt_b2 v0 n (x1, x2, x3) = some res → W p l e rm_X12_markAt s m args below meth c H locs 0 0 Q (F0 m 2 ls []) := by
    intro n
    induction n with
    | zero =>
      intro x1 x2 x3 H locs ls hP hD hS hl hg
      exact (g_lp0 hg).elim
    | succ n ih =>
      intro x1 x2 x3 H locs ls hP hD hS hl hg
      have hg : f_X12_markAt_b2B v0 (f_X12_markAt_b2 v0 n) x1 x2 x3 = some res := hg
      unfold f_X12_markAt_b2B at hg
      refine lv_iload_n hx hb dX12_markAt_2 rfl (lv_at hl 3 rfl) ?_
      refine lv_aload_n hx hb dX12_markAt_3 rfl (lv_at hl 0 rfl) ?_
      refine va_get (ci := 11) (v := .ref a0_a) (C := RX12) (T := TX12) (N := 43) hx hb htb uX12 hown hK.1 hP 0 rfl rfl 2 (by decide) (htb _ tg_938) (fun _ h9 => h9) rfl dX12_markAt_4 ?_
      refine lv_iconst (v := 0) hx hb dX12_markAt_7 (by decide) ?_
      obtain ⟨h_1, hg⟩ := g_gde hg
      refine va_iald hx hb hK.1 hP 1 0 rfl rfl (inB_vp h_1) dX12_markAt_8 ?_
      refine lv_icmp_ge (tgt := 43) hx hb dX12_markAt_9 (by decide) (fun c_2 => ?_) (fun c_2 => ?_)
      · have hg := g_it hg c_2
        refine lv_aload_n hx hb dX12_markAt_43 rfl (lv_at hl 0 rfl) ?_
        refine va_get (ci := 11) (v := .ref a0_a) (C := RX12) (T := TX12) (N := 43) hx hb htb uX12 hown hK.1 hP 0 rfl rfl 2 (by decide) (htb _ tg_938) (fun _ h9 => h9) rfl dX12_markAt_44 ?_
        refine lv_bipush (v := 10) hx hb dX12_markAt_47 (by decide) ?_
        refine lv_iload_n hx hb dX12_markAt_49 rfl (lv_at hl 1 rfl) ?_
        refine lv_iadd hx hb dX12_markAt_50 ?_
        obtain ⟨h_3, hg⟩ := g_gde hg
        refine va_iald hx hb hK.1 hP 1 0 rfl rfl (inB_vp h_3) dX12_markAt_51 ?_
        have hg := Option.some.inj hg
        rw [hQ]
        exact W.iret (v := ((pX12_a v0) (((10 : Int32) + x1) : Int32).toNatClampNeg)) hx hb hr (fun t ht hW => ⟨⟨((pX12_a v0) (((10 : Int32) + x1) : Int32).toNatClampNeg), (), rfl, hg, by rw [ht]; exact hP, hD⟩, hS.F ht⟩) hS.2.2 dX12_markAt_52
      · have hg := g_if hg c_2
        refine lv_aload_n hx hb dX12_markAt_12 rfl (lv_at hl 0 rfl) ?_
        refine lv_iload_n hx hb dX12_markAt_13 rfl (lv_at hl 3 rfl) ?_
        refine lv_iload_n hx hb dX12_markAt_14 rfl (lv_at hl 2 rfl) ?_
        obtain ⟨r_4, hr_4, hg⟩ := g_bd hg
        refine cc_i (va_runV (C := RX12) (As := [.int x3, .int x2]) (rest := []) ⟨hx, hb, hml, hown, htb⟩ (k_X12_bodyAt a0 a0_a a0_image a0_texts a0_board a0_taken a0_fars a0_before a0_tape a0_pile a0_rows a0_told a0_values a0_truth a0_keeps v0 x3 x2 r_4 hr_4) (cw_V 2 htb tg_1097 tg_13 tg_1094 tg_1096 ts_30 rfl rfl (by decide +kernel) ⟨Nat.le_of_ble_eq_true rfl, Nat.le_of_ble_eq_true rfl⟩) ⟨PC.blind, va_recv hK.1 hP (ci := 11) (q0 := 0) rfl rfl, PC.pre hK hT hP hD hS hA [0, 1, 2, 3, 4, 5, 6, 7, 8, 9, 10, 11, 12, 13, 14] rfl (by decide)⟩ rfl rfl hl.1 rfl (lv_room (Nat.le_of_ble_eq_true rfl)) dX12_markAt_15 ⟨Nat.le_of_ble_eq_true rfl, Nat.le_of_ble_eq_true rfl⟩) hP hD hS hA [0, 1, 2, 3, 4, 5, 6, 7, 8, 9, 10, 11, 12, 13, 14] [] rfl rfl (by decide) (by decide) (fun r9 u9 H locs hw hP hD hS => ?_)
        have hw := hw.symm
        subst hw
        have hP : va_P D vwCl (WS_X12_markAt cI cJ cZ cY a0 a0_a a0_image a0_texts a0_board a0_taken a0_fars a0_before a0_tape a0_pile a0_rows a0_told a0_values a0_truth a0_keeps v0) H := hP.sub [0, 1, 2, 3, 4, 5, 6, 7, 8, 9, 10, 11, 12, 13, 14] rfl
        have hD : va_D A (WS_X12_markAt cI cJ cZ cY a0 a0_a a0_image a0_texts a0_board a0_taken a0_fars a0_before a0_tape a0_pile a0_rows a0_told a0_values a0_truth a0_keeps v0) := hD.sub [0, 1, 2, 3, 4, 5, 6, 7, 8, 9, 10, 11, 12, 13, 14] (by decide) rfl
        refine lv_iload_n hx hb dX12_markAt_18 rfl (lv_at hl 1 rfl) ?_
        refine lv_icmp_ne (tgt := 37) hx hb dX12_markAt_19 (by decide) (fun c_5 => ?_) (fun c_5 => ?_)
        · have hg := g_if hg c_5
          obtain ⟨x3_6, ex3_6⟩ : ∃ z : Int32, z = x3 + 1 := ⟨_, rfl⟩
          have hg := g_lte hg x3_6 ex3_6
          refine lv_iinc (v := x3_6) (lv' := [(3, .int x3_6), (0, .ref a0), (1, .int x1), (2, .int x2)]) hx hb dX12_markAt_37 hl (k := 3) rfl (by rw [ex3_6]; rfl) (by decide) rfl (fun ls hl => ?_)
          refine lv_goto (tgt := 2) hx hb dX12_markAt_40 (by decide) ?_
          exact ih x1 x2 x3_6 H locs ls hP hD hS (lv_sub hl [1, 2, 3, 0] rfl) hg
        · have hg := g_it hg c_5
          refine lv_aload_n hx hb dX12_markAt_22 rfl (lv_at hl 0 rfl) ?_
          refine va_get (ci := 11) (v := .ref a0_a) (C := RX12) (T := TX12) (N := 43) hx hb htb uX12 hown hK.1 hP 0 rfl rfl 2 (by decide) (htb _ tg_938) (fun _ h9 => h9) rfl dX12_markAt_23 ?_
          refine lv_sipush (v := 590) hx hb dX12_markAt_26 (by decide) ?_
          refine lv_iconst (v := 4) hx hb dX12_markAt_29 (by decide) ?_
          refine lv_iload_n hx hb dX12_markAt_30 rfl (lv_at hl 3 rfl) ?_
          refine lv_imul hx hb dX12_markAt_31 ?_
          refine lv_iadd hx hb dX12_markAt_32 ?_
          refine lv_iconst (v := 3) hx hb dX12_markAt_33 (by decide) ?_
          refine lv_iadd hx hb dX12_markAt_34 ?_
          obtain ⟨h_7, hg⟩ := g_gde hg
          refine va_iald hx hb hK.1 hP 1 0 rfl rfl (inB_vp h_7) dX12_markAt_35 ?_
          have hg := Option.some.inj hg
          rw [hQ]
          exact W.iret (v := ((pX12_a v0) ((((590 : Int32) + ((4 : Int32) * x3)) + 3) : Int32).toNatClampNeg)) hx hb hr (fun t ht hW => ⟨⟨((pX12_a v0) ((((590 : Int32) + ((4 : Int32) * x3)) + 3) : Int32).toNatClampNeg), (), rfl, hg, by rw [ht]; exact hP, hD⟩, hS.F ht⟩) hS.2.2 dX12_markAt_36
  generalize hHe : s.heap = H at hP ⊢
  have hS : va_S A s.heap H [] := by rw [← hHe]; exact va_S.rf
  generalize ([] : List Loc) = locs at hS ⊢
  unfold f_X12_markAt at hg
  refine lv_iconst (v := 0) hx hb dX12_markAt_0 (by decide) ?_
  refine lv_istore_n (lv' := [(3, .int 0), (0, .ref a0), (1, .int p0), (2, .int p1)]) hx hb dX12_markAt_1 rfl hl (by decide) rfl (fun ls hl => ?_)
  exact b_2 fU p0 p1 0 H locs ls hP hD hS (lv_sub hl [1, 2, 3, 0] rfl) hg

/-! ManyEyesModel.markOf(II)I -/
def WS_X12_markOf (cI cJ cZ cY : ClassId) (a0 a0_a a0_image a0_texts a0_board a0_taken a0_fars a0_before a0_tape a0_pile a0_rows a0_told a0_values a0_truth a0_keeps : Nat) (v0 : BX12) : va_W := (GX12 cI cJ cZ cY a0 a0_a a0_image a0_texts a0_board a0_taken a0_fars a0_before a0_tape a0_pile a0_rows a0_told a0_values a0_truth a0_keeps v0)
def f_X12_markOf (v0 : BX12) (p0 : Int32) (p1 : Int32) : Option (Int32) := (f_X12_isCell v0 p0).bind (fun r_1 => if (r_1 : Int32) = 0 then (some (-1)) else ((f_X12_isTick p1).bind (fun r_3 => if (r_3 : Int32) = 0 then (some (-1)) else ((f_X12_markAt v0 p0 p1).bind (fun r_5 => some r_5)))))
abbrev rm_X12_markOf : Room := { frames := 3, cells := 0, slots := 0, locals := 69 }
set_option maxHeartbeats 4000000 in
set_option maxRecDepth 100000 in
theorem k_X12_markOf {l : Launch} {D : va_G} {cI cJ cZ cY : ClassId} {tX tY : Nat} {sz : Nat} (a0 a0_a a0_image a0_texts a0_board a0_taken a0_fars a0_before a0_tape a0_pile a0_rows a0_told a0_values a0_truth a0_keeps : Nat) (v0 : BX12) (p0 : Int32) (p1 : Int32) (res : Int32) (hg : f_X12_markOf v0 p0 p1 = some res) : Met l yX12_markOf (Cond.code yX12_markOf cX12_markOf 3 (some .int) :: TB) rm_X12_markOf (PC D cI cJ cZ cY tX tY [.ref a0, .int p0, .int p1] (WS_X12_markOf cI cJ cZ cY a0 a0_a a0_image a0_texts a0_board a0_taken a0_fars a0_before a0_tape a0_pile a0_rows a0_told a0_values a0_truth a0_keeps v0) sz) (va_Qi (fun (r : Int32) (_ : Unit) => r = res) (BC D (fun _ : Unit => WS_X12_markOf cI cJ cZ cY a0 a0_a a0_image a0_texts a0_board a0_taken a0_fars a0_before a0_tape a0_pile a0_rows a0_told a0_values a0_truth a0_keeps v0) (va_A (WS_X12_markOf cI cJ cZ cY a0 a0_a a0_image a0_texts a0_board a0_taken a0_fars a0_before a0_tape a0_pile a0_rows a0_told a0_values a0_truth a0_keeps v0) sz)) (va_A (WS_X12_markOf cI cJ cZ cY a0 a0_a a0_image a0_texts a0_board a0_taken a0_fars a0_before a0_tape a0_pile a0_rows a0_told a0_values a0_truth a0_keeps v0) sz)) 0 0 (va_A (WS_X12_markOf cI cJ cZ cY a0 a0_a a0_image a0_texts a0_board a0_taken a0_fars a0_before a0_tape a0_pile a0_rows a0_told a0_values a0_truth a0_keeps v0) sz) := by
  refine Met.ofW (cc := cX12_markOf) (maxL := 3) (ret := (some .int)) (by decide) rfl ?_
  intro p e s m args below meth c s₁ B hml hv
  obtain ⟨hargs, hsz, hP, hK, hD0, hT⟩ := hv
  have hx := B.exec
  have hb := B.bytes
  have hr := B.returns
  have htb : ∀ w ∈ TB, w.before args s = true := fun w h => atoms_spec (ws := Cond.code yX12_markOf cX12_markOf 3 (some .int) :: TB) B.pre w (List.mem_cons_of_mem _ h)
  have hown : s.vm.findClass "ManyEyesModel" = some m.cls := findClass_of_methodNamed B.named
  have hlocks := B.notSynchronized
  subst hsz
  have hD := hD0.self (sz := s.heap.size)
  generalize hAe : va_A (WS_X12_markOf cI cJ cZ cY a0 a0_a a0_image a0_texts a0_board a0_taken a0_fars a0_before a0_tape a0_pile a0_rows a0_told a0_values a0_truth a0_keeps v0) s.heap.size = A at hD hT ⊢
  have hA : ∀ q : Nat, s.heap.size ≤ q → A q := fun q h => by rw [← hAe]; exact Or.inr h
  have hS : va_S A s.heap s.heap [] := va_S.rf
  have hl := lv_entry ([.ref a0, .int p0, .int p1]) (n := 3) (Nat.le_of_ble_eq_true rfl)
  have he : entryFrame m args 3 = F0 m 0 (lg_sl ([.ref a0, .int p0, .int p1]) ++ List.replicate (3 - (lg_sl ([.ref a0, .int p0, .int p1])).length) Slot.unset).toArray [] := by rw [hargs, lg_entry_eq]
  rw [he]
  generalize (lg_sl ([.ref a0, .int p0, .int p1]) ++ List.replicate (3 - (lg_sl ([.ref a0, .int p0, .int p1])).length) Slot.unset).toArray = ls at hl ⊢
  have hl : lv_has ls 3 [(0, .ref a0), (1, .int p0), (2, .int p1)] := hl
  show W p l e rm_X12_markOf s m args below meth c s.heap [] 0 0 _ _
  refine W.genQ (fun Q hQ => ?_)
  generalize hHe : s.heap = H at hP ⊢
  have hS : va_S A s.heap H [] := by rw [← hHe]; exact va_S.rf
  generalize ([] : List Loc) = locs at hS ⊢
  unfold f_X12_markOf at hg
  refine lv_aload_n hx hb dX12_markOf_0 rfl (lv_at hl 0 rfl) ?_
  refine lv_iload_n hx hb dX12_markOf_1 rfl (lv_at hl 1 rfl) ?_
  obtain ⟨r_1, hr_1, hg⟩ := g_bd hg
  refine cc_i (va_runV (C := RX12) (As := [.int p0]) (rest := []) ⟨hx, hb, hml, hown, htb⟩ (k_X12_isCell a0 a0_a a0_image a0_texts a0_board a0_taken a0_fars a0_before a0_tape a0_pile a0_rows a0_told a0_values a0_truth a0_keeps v0 p0 r_1 hr_1) (cw_V 1 htb tg_1075 tg_13 tg_1072 tg_1074 ts_28 rfl rfl (by decide +kernel) ⟨Nat.le_of_ble_eq_true rfl, Nat.le_of_ble_eq_true rfl⟩) ⟨PC.blind, va_recv hK.1 hP (ci := 11) (q0 := 0) rfl rfl, PC.pre hK hT hP hD hS hA [0, 1, 2, 3, 4, 5, 6, 7, 8, 9, 10, 11, 12, 13, 14] rfl (by decide)⟩ rfl rfl hl.1 rfl (lv_room (Nat.le_of_ble_eq_true rfl)) dX12_markOf_2 ⟨Nat.le_of_ble_eq_true rfl, Nat.le_of_ble_eq_true rfl⟩) hP hD hS hA [0, 1, 2, 3, 4, 5, 6, 7, 8, 9, 10, 11, 12, 13, 14] [] rfl rfl (by decide) (by decide) (fun r9 u9 H locs hw hP hD hS => ?_)
  have hw := hw.symm
  subst hw
  have hP : va_P D vwCl (WS_X12_markOf cI cJ cZ cY a0 a0_a a0_image a0_texts a0_board a0_taken a0_fars a0_before a0_tape a0_pile a0_rows a0_told a0_values a0_truth a0_keeps v0) H := hP.sub [0, 1, 2, 3, 4, 5, 6, 7, 8, 9, 10, 11, 12, 13, 14] rfl
  have hD : va_D A (WS_X12_markOf cI cJ cZ cY a0 a0_a a0_image a0_texts a0_board a0_taken a0_fars a0_before a0_tape a0_pile a0_rows a0_told a0_values a0_truth a0_keeps v0) := hD.sub [0, 1, 2, 3, 4, 5, 6, 7, 8, 9, 10, 11, 12, 13, 14] (by decide) rfl
  refine lv_if_eq (tgt := 24) hx hb dX12_markOf_5 (by decide) (fun c_2 => ?_) (fun c_2 => ?_)
  · have hg := g_it hg c_2
    refine lv_iconst (v := (-1)) hx hb dX12_markOf_24 (by decide) ?_
    have hg := Option.some.inj hg
    rw [hQ]
    exact W.iret (v := (-1)) hx hb hr (fun t ht hW => ⟨⟨(-1), (), rfl, hg, by rw [ht]; exact hP, hD⟩, hS.F ht⟩) hS.2.2 dX12_markOf_25
  · have hg := g_if hg c_2
    refine lv_iload_n hx hb dX12_markOf_8 rfl (lv_at hl 2 rfl) ?_
    obtain ⟨r_3, hr_3, hg⟩ := g_bd hg
    refine cc_i (va_runS (As := [.int p1]) (rest := []) ⟨hx, hb, hml, hown, htb⟩ (k_X12_isTick p1 r_3 hr_3) (cw_S 1 htb tg_1089 tg_13 tg_1087 tg_1088 rfl rfl (by decide +kernel) ⟨Nat.le_of_ble_eq_true rfl, Nat.le_of_ble_eq_true rfl⟩) ⟨PC.blind, PC.pre hK hT hP hD hS hA [] rfl (by decide)⟩ rfl rfl hl.1 rfl (lv_room (Nat.le_of_ble_eq_true rfl)) dX12_markOf_9 ⟨Nat.le_of_ble_eq_true rfl, Nat.le_of_ble_eq_true rfl⟩) hP hD hS hA [] [0, 1, 2, 3, 4, 5, 6, 7, 8, 9, 10, 11, 12, 13, 14] rfl rfl (by decide) (by decide) (fun r9 u9 H locs hw hP hD hS => ?_)
    have hw := hw.symm
    subst hw
    have hP : va_P D vwCl (WS_X12_markOf cI cJ cZ cY a0 a0_a a0_image a0_texts a0_board a0_taken a0_fars a0_before a0_tape a0_pile a0_rows a0_told a0_values a0_truth a0_keeps v0) H := hP.sub [0, 1, 2, 3, 4, 5, 6, 7, 8, 9, 10, 11, 12, 13, 14] rfl
    have hD : va_D A (WS_X12_markOf cI cJ cZ cY a0 a0_a a0_image a0_texts a0_board a0_taken a0_fars a0_before a0_tape a0_pile a0_rows a0_told a0_values a0_truth a0_keeps v0) := hD.sub [0, 1, 2, 3, 4, 5, 6, 7, 8, 9, 10, 11, 12, 13, 14] (by decide) rfl
    refine lv_if_eq (tgt := 24) hx hb dX12_markOf_12 (by decide) (fun c_4 => ?_) (fun c_4 => ?_)
    · have hg := g_it hg c_4
      refine lv_iconst (v := (-1)) hx hb dX12_markOf_24 (by decide) ?_
      have hg := Option.some.inj hg
      rw [hQ]
      exact W.iret (v := (-1)) hx hb hr (fun t ht hW => ⟨⟨(-1), (), rfl, hg, by rw [ht]; exact hP, hD⟩, hS.F ht⟩) hS.2.2 dX12_markOf_25
    · have hg := g_if hg c_4
      refine lv_aload_n hx hb dX12_markOf_15 rfl (lv_at hl 0 rfl) ?_
      refine lv_iload_n hx hb dX12_markOf_16 rfl (lv_at hl 1 rfl) ?_
      refine lv_iload_n hx hb dX12_markOf_17 rfl (lv_at hl 2 rfl) ?_
      obtain ⟨r_5, hr_5, hg⟩ := g_bd hg
      refine cc_i (va_runV (C := RX12) (As := [.int p0, .int p1]) (rest := []) ⟨hx, hb, hml, hown, htb⟩ (k_X12_markAt a0 a0_a a0_image a0_texts a0_board a0_taken a0_fars a0_before a0_tape a0_pile a0_rows a0_told a0_values a0_truth a0_keeps v0 p0 p1 r_5 hr_5) (cw_V 2 htb tg_1093 tg_13 tg_1090 tg_1092 ts_29 rfl rfl (by decide +kernel) ⟨Nat.le_of_ble_eq_true rfl, Nat.le_of_ble_eq_true rfl⟩) ⟨PC.blind, va_recv hK.1 hP (ci := 11) (q0 := 0) rfl rfl, PC.pre hK hT hP hD hS hA [0, 1, 2, 3, 4, 5, 6, 7, 8, 9, 10, 11, 12, 13, 14] rfl (by decide)⟩ rfl rfl hl.1 rfl (lv_room (Nat.le_of_ble_eq_true rfl)) dX12_markOf_18 ⟨Nat.le_of_ble_eq_true rfl, Nat.le_of_ble_eq_true rfl⟩) hP hD hS hA [0, 1, 2, 3, 4, 5, 6, 7, 8, 9, 10, 11, 12, 13, 14] [] rfl rfl (by decide) (by decide) (fun r9 u9 H locs hw hP hD hS => ?_)
      have hw := hw.symm
      subst hw
      have hP : va_P D vwCl (WS_X12_markOf cI cJ cZ cY a0 a0_a a0_image a0_texts a0_board a0_taken a0_fars a0_before a0_tape a0_pile a0_rows a0_told a0_values a0_truth a0_keeps v0) H := hP.sub [0, 1, 2, 3, 4, 5, 6, 7, 8, 9, 10, 11, 12, 13, 14] rfl
      have hD : va_D A (WS_X12_markOf cI cJ cZ cY a0 a0_a a0_image a0_texts a0_board a0_taken a0_fars a0_before a0_tape a0_pile a0_rows a0_told a0_values a0_truth a0_keeps v0) := hD.sub [0, 1, 2, 3, 4, 5, 6, 7, 8, 9, 10, 11, 12, 13, 14] (by decide) rfl
      refine lv_goto (tgt := 25) hx hb dX12_markOf_21 (by decide) ?_
      have hg := Option.some.inj hg
      rw [hQ]
      exact W.iret (v := r_5) hx hb hr (fun t ht hW => ⟨⟨r_5, (), rfl, hg, by rw [ht]; exact hP, hD⟩, hS.F ht⟩) hS.2.2 dX12_markOf_25

/-! ManyEyesModel.lay(I)V -/
def WS_X12_lay (cI cJ cZ cY : ClassId) (a0 a0_a a0_image a0_texts a0_board a0_taken a0_fars a0_before a0_tape a0_pile a0_rows a0_told a0_values a0_truth a0_keeps : Nat) (v0 : BX12) : va_W := (GX12 cI cJ cZ cY a0 a0_a a0_image a0_texts a0_board a0_taken a0_fars a0_before a0_tape a0_pile a0_rows a0_told a0_values a0_truth a0_keeps v0)
def f_X12_lay_b83 (J45 : (Int32 × Int32 × BX12) → Option (BX12)) (x1 : Int32) (x2 : Int32) (v0 : BX12) : Option (BX12) := g_lt (x2 + (-1) : Int32) (fun x2_1 => J45 (x1, x2_1, v0))
def f_X12_lay_b45B (J45 : Int32 × Int32 × BX12 → Option (BX12)) (x1 : Int32) (x2 : Int32) (v0 : BX12) : Option (BX12) := if (x2 : Int32) < 0 then (some (v0)) else ((f_X12_bodyAt v0 x2 x1).bind (fun r_3 => if (r_3 : Int32) < 0 then (f_X12_lay_b83 J45 x1 x2 v0) else ((f_X12_bodyAt v0 x2 x1).bind (fun r_5 => g_gd (inB (((590 : Int32) + ((4 : Int32) * x2)) + 3) 3170) (g_lt (((pX12_a v0) ((((590 : Int32) + ((4 : Int32) * x2)) + 3) : Int32).toNatClampNeg) : Int32) (fun x_7 => g_gd (inB r_5 576) (g_lt (sX12_board v0 (upd (pX12_board v0) (r_5 : Int32).toNatClampNeg x_7)) (fun v0_9 => f_X12_lay_b83 J45 x1 x2 v0_9))))))))
def f_X12_lay_b45 : Nat → (Int32 × Int32 × BX12) → Option (BX12) := g_lp (fun J z => f_X12_lay_b45B J z.1 z.2.1 z.2.2)
def f_X12_lay_b2B (J2 : Int32 × Int32 × BX12 → Option (BX12)) (x1 : Int32) (x2 : Int32) (v0 : BX12) : Option (BX12) := if (((pX12_w v0) * (pX12_h v0)) : Int32) ≤ x2 then (g_gd (inB 0 3170) (g_lt ((((pX12_a v0) (0 : Int32).toNatClampNeg) - 1) : Int32) (fun x2_12 => f_X12_lay_b45 fU (x1, x2_12, v0)))) else (g_gd (inB ((10 : Int32) + x2) 3170) (g_lt (((pX12_a v0) (((10 : Int32) + x2) : Int32).toNatClampNeg) : Int32) (fun x_14 => g_gd (inB x2 576) (g_lt (sX12_board v0 (upd (pX12_board v0) (x2 : Int32).toNatClampNeg x_14)) (fun v0_16 => g_lt (x2 + 1 : Int32) (fun x2_17 => J2 (x1, x2_17, v0_16)))))))
def f_X12_lay_b2 : Nat → (Int32 × Int32 × BX12) → Option (BX12) := g_lp (fun J z => f_X12_lay_b2B J z.1 z.2.1 z.2.2)
def f_X12_lay (v0 : BX12) (p0 : Int32) : Option (BX12) := f_X12_lay_b2 fU (p0, 0, v0)
abbrev rm_X12_lay : Room := { frames := 2, cells := 0, slots := 0, locals := 46 }
set_option maxHeartbeats 4000000 in
set_option maxRecDepth 100000 in
theorem k_X12_lay {l : Launch} {D : va_G} {cI cJ cZ cY : ClassId} {tX tY : Nat} {sz : Nat} (a0 a0_a a0_image a0_texts a0_board a0_taken a0_fars a0_before a0_tape a0_pile a0_rows a0_told a0_values a0_truth a0_keeps : Nat) (v0 : BX12) (p0 : Int32) (res : BX12) (hg : f_X12_lay v0 p0 = some res) : Met l yX12_lay (Cond.code yX12_lay cX12_lay 3 none :: TB) rm_X12_lay (PC D cI cJ cZ cY tX tY [.ref a0, .int p0] (WS_X12_lay cI cJ cZ cY a0 a0_a a0_image a0_texts a0_board a0_taken a0_fars a0_before a0_tape a0_pile a0_rows a0_told a0_values a0_truth a0_keeps v0) sz) (va_Qv (fun (u : BX12) => u = res) (BC D (fun u : BX12 => WS_X12_lay cI cJ cZ cY a0 a0_a a0_image a0_texts a0_board a0_taken a0_fars a0_before a0_tape a0_pile a0_rows a0_told a0_values a0_truth a0_keeps u) (va_A (WS_X12_lay cI cJ cZ cY a0 a0_a a0_image a0_texts a0_board a0_taken a0_fars a0_before a0_tape a0_pile a0_rows a0_told a0_values a0_truth a0_keeps v0) sz)) (va_A (WS_X12_lay cI cJ cZ cY a0 a0_a a0_image a0_texts a0_board a0_taken a0_fars a0_before a0_tape a0_pile a0_rows a0_told a0_values a0_truth a0_keeps v0) sz)) 0 0 (va_A (WS_X12_lay cI cJ cZ cY a0 a0_a a0_image a0_texts a0_board a0_taken a0_fars a0_before a0_tape a0_pile a0_rows a0_told a0_values a0_truth a0_keeps v0) sz) := by
  refine Met.ofW (cc := cX12_lay) (maxL := 3) (ret := none) (by decide) rfl ?_
  intro p e s m args below meth c s₁ B hml hv
  obtain ⟨hargs, hsz, hP, hK, hD0, hT⟩ := hv
  have hx := B.exec
  have hb := B.bytes
  have hr := B.returns
  have htb : ∀ w ∈ TB, w.before args s = true := fun w h => atoms_spec (ws := Cond.code yX12_lay cX12_lay 3 none :: TB) B.pre w (List.mem_cons_of_mem _ h)
  have hown : s.vm.findClass "ManyEyesModel" = some m.cls := findClass_of_methodNamed B.named
  have hlocks := B.notSynchronized
  subst hsz
  have hD := hD0.self (sz := s.heap.size)
  generalize hAe : va_A (WS_X12_lay cI cJ cZ cY a0 a0_a a0_image a0_texts a0_board a0_taken a0_fars a0_before a0_tape a0_pile a0_rows a0_told a0_values a0_truth a0_keeps v0) s.heap.size = A at hD hT ⊢
  have hA : ∀ q : Nat, s.heap.size ≤ q → A q := fun q h => by rw [← hAe]; exact Or.inr h
  have hS : va_S A s.heap s.heap [] := va_S.rf
  have hl := lv_entry ([.ref a0, .int p0]) (n := 3) (Nat.le_of_ble_eq_true rfl)
  have he : entryFrame m args 3 = F0 m 0 (lg_sl ([.ref a0, .int p0]) ++ List.replicate (3 - (lg_sl ([.ref a0, .int p0])).length) Slot.unset).toArray [] := by rw [hargs, lg_entry_eq]
  rw [he]
  generalize (lg_sl ([.ref a0, .int p0]) ++ List.replicate (3 - (lg_sl ([.ref a0, .int p0])).length) Slot.unset).toArray = ls at hl ⊢
  have hl : lv_has ls 3 [(0, .ref a0), (1, .int p0)] := hl
  show W p l e rm_X12_lay s m args below meth c s.heap [] 0 0 _ _
  refine W.genQ (fun Q hQ => ?_)
  have b_83 : ∀ (J45 : (Int32 × Int32 × BX12) → Option (BX12)) (hJ45 : ∀ (x1 : Int32) (x2 : Int32) (v0 : BX12) (H : Heap) (locs : List Loc) (ls : Array Slot), va_P D vwCl (WS_X12_lay cI cJ cZ cY a0 a0_a a0_image a0_texts a0_board a0_taken a0_fars a0_before a0_tape a0_pile a0_rows a0_told a0_values a0_truth a0_keeps v0) H → va_D A (WS_X12_lay cI cJ cZ cY a0 a0_a a0_image a0_texts a0_board a0_taken a0_fars a0_before a0_tape a0_pile a0_rows a0_told a0_values a0_truth a0_keeps v0) → va_S A s.heap H locs → lv_has ls 3 [(0, .ref a0), (1, .int x1), (2, .int x2)] → J45 (x1, x2, v0) = some res → W p l e rm_X12_lay s m args below meth c H locs 0 0 Q (F0 m 45 ls [])), ∀ (x1 : Int32) (x2 : Int32) (v0 : BX12) (H : Heap) (locs : List Loc) (ls : Array Slot), va_P D vwCl (WS_X12_lay cI cJ cZ cY a0 a0_a a0_image a0_texts a0_board a0_taken a0_fars a0_before a0_tape a0_pile a0_rows a0_told a0_values a0_truth a0_keeps v0) H → va_D A (WS_X12_lay cI cJ cZ cY a0 a0_a a0_image a0_texts a0_board a0_taken a0_fars a0_before a0_tape a0_pile a0_rows a0_told a0_values a0_truth a0_keeps v0) → va_S A s.heap H locs → lv_has ls 3 [(0, .ref a0), (1, .int x1), (2, .int x2)] → f_X12_lay_b83 J45 x1 x2 v0 = some res → W p l e rm_X12_lay s m args below meth c H locs 0 0 Q (F0 m 83 ls []) := by
    intro J45 hJ45 x1 x2 v0 H locs ls hP hD hS hl hg
    unfold f_X12_lay_b83 at hg
    obtain ⟨x2_1, ex2_1⟩ : ∃ z : Int32, z = x2 + (-1) := ⟨_, rfl⟩
    have hg := g_lte hg x2_1 ex2_1
    refine lv_iinc (v := x2_1) (lv' := [(2, .int x2_1), (0, .ref a0), (1, .int x1)]) hx hb dX12_lay_83 hl (k := 2) rfl (by rw [ex2_1]; rfl) (by decide) rfl (fun ls hl => ?_)
    refine lv_goto (tgt := 45) hx hb dX12_lay_86 (by decide) ?_
    exact hJ45 x1 x2_1 v0 H locs ls hP hD hS (lv_sub hl [1, 2, 0] rfl) hg
  have b_45 : ∀ (n : Nat), ∀ (x1 : Int32) (x2 : Int32) (v0 : BX12) (H : Heap) (locs : List Loc) (ls : Array Slot), va_P D vwCl (WS_X12_lay cI cJ cZ cY a0 a0_a a0_image a0_texts a0_board a0_taken a0_fars a0_before a0_tape a0_pile a0_rows a0_told a0_values a0_truth a0_keeps v0) H → va_D A (WS_X12_lay cI cJ cZ cY a0 a0_a a0_image a0_texts a0_board a0_taken a0_fars a0_before a0_tape a0_pile a0_rows a0_told a0_values a0_truth a0_keeps v0) → va_S A s.heap H locs → lv_has ls 3 [(0, .ref a0), (1, .int x1), (2, .int x2)] → f_X12_lay_b45 n (x1, x2, v0) = some res → W p l e rm_X12_lay s m args below meth c H locs 0 0 Q (F0 m 45 ls []) := by
    intro n
    induction n with
    | zero =>
      intro x1 x2 v0 H locs ls hP hD hS hl hg
      exact (g_lp0 hg).elim
    | succ n ih =>
      intro x1 x2 v0 H locs ls hP hD hS hl hg
      have hg : f_X12_lay_b45B (f_X12_lay_b45 n) x1 x2 v0 = some res := hg
      unfold f_X12_lay_b45B at hg
      refine lv_iload_n hx hb dX12_lay_45 rfl (lv_at hl 2 rfl) ?_
      refine lv_if_lt (tgt := 89) hx hb dX12_lay_46 (by decide) (fun c_2 => ?_) (fun c_2 => ?_)
      · have hg := g_it hg c_2
        have hg := Option.some.inj hg
        rw [hQ]
        exact W.vret hx hb hr (fun t ht hW => ⟨⟨(v0), rfl, hg, by rw [ht]; exact hP, hD⟩, hS.F ht⟩) hS.2.2 dX12_lay_89
      · have hg := g_if hg c_2
        refine lv_aload_n hx hb dX12_lay_49 rfl (lv_at hl 0 rfl) ?_
        refine lv_iload_n hx hb dX12_lay_50 rfl (lv_at hl 2 rfl) ?_
        refine lv_iload_n hx hb dX12_lay_51 rfl (lv_at hl 1 rfl) ?_
        obtain ⟨r_3, hr_3, hg⟩ := g_bd hg
        refine cc_i (va_runV (C := RX12) (As := [.int x2, .int x1]) (rest := []) ⟨hx, hb, hml, hown, htb⟩ (k_X12_bodyAt a0 a0_a a0_image a0_texts a0_board a0_taken a0_fars a0_before a0_tape a0_pile a0_rows a0_told a0_values a0_truth a0_keeps v0 x2 x1 r_3 hr_3) (cw_V 2 htb tg_1097 tg_13 tg_1094 tg_1096 ts_30 rfl rfl (by decide +kernel) ⟨Nat.le_of_ble_eq_true rfl, Nat.le_of_ble_eq_true rfl⟩) ⟨PC.blind, va_recv hK.1 hP (ci := 11) (q0 := 0) rfl rfl, PC.pre hK hT hP hD hS hA [0, 1, 2, 3, 4, 5, 6, 7, 8, 9, 10, 11, 12, 13, 14] rfl (by decide)⟩ rfl rfl hl.1 rfl (lv_room (Nat.le_of_ble_eq_true rfl)) dX12_lay_52 ⟨Nat.le_of_ble_eq_true rfl, Nat.le_of_ble_eq_true rfl⟩) hP hD hS hA [0, 1, 2, 3, 4, 5, 6, 7, 8, 9, 10, 11, 12, 13, 14] [] rfl rfl (by decide) (by decide) (fun r9 u9 H locs hw hP hD hS => ?_)
        have hw := hw.symm
        subst hw
        have hP : va_P D vwCl (WS_X12_lay cI cJ cZ cY a0 a0_a a0_image a0_texts a0_board a0_taken a0_fars a0_before a0_tape a0_pile a0_rows a0_told a0_values a0_truth a0_keeps v0) H := hP.sub [0, 1, 2, 3, 4, 5, 6, 7, 8, 9, 10, 11, 12, 13, 14] rfl
        have hD : va_D A (WS_X12_lay cI cJ cZ cY a0 a0_a a0_image a0_texts a0_board a0_taken a0_fars a0_before a0_tape a0_pile a0_rows a0_told a0_values a0_truth a0_keeps v0) := hD.sub [0, 1, 2, 3, 4, 5, 6, 7, 8, 9, 10, 11, 12, 13, 14] (by decide) rfl
        refine lv_if_lt (tgt := 83) hx hb dX12_lay_55 (by decide) (fun c_4 => ?_) (fun c_4 => ?_)
        · have hg := g_it hg c_4
          exact b_83 (f_X12_lay_b45 n) ih x1 x2 v0 H locs ls hP hD hS (lv_sub hl [0, 1, 2] rfl) hg
        · have hg := g_if hg c_4
          refine lv_aload_n hx hb dX12_lay_58 rfl (lv_at hl 0 rfl) ?_
          refine va_get (ci := 11) (v := .ref a0_board) (C := RX12) (T := TX12) (N := 43) hx hb htb uX12 hown hK.1 hP 0 rfl rfl 5 (by decide) (htb _ tg_941) (fun _ h9 => h9) rfl dX12_lay_59 ?_
          refine lv_aload_n hx hb dX12_lay_62 rfl (lv_at hl 0 rfl) ?_
          refine lv_iload_n hx hb dX12_lay_63 rfl (lv_at hl 2 rfl) ?_
          refine lv_iload_n hx hb dX12_lay_64 rfl (lv_at hl 1 rfl) ?_
          obtain ⟨r_5, hr_5, hg⟩ := g_bd hg
          refine cc_i (va_runV (C := RX12) (As := [.int x2, .int x1]) (rest := [.ref a0_board]) ⟨hx, hb, hml, hown, htb⟩ (k_X12_bodyAt a0 a0_a a0_image a0_texts a0_board a0_taken a0_fars a0_before a0_tape a0_pile a0_rows a0_told a0_values a0_truth a0_keeps v0 x2 x1 r_5 hr_5) (cw_V 2 htb tg_1097 tg_13 tg_1094 tg_1096 ts_30 rfl rfl (by decide +kernel) ⟨Nat.le_of_ble_eq_true rfl, Nat.le_of_ble_eq_true rfl⟩) ⟨PC.blind, va_recv hK.1 hP (ci := 11) (q0 := 0) rfl rfl, PC.pre hK hT hP hD hS hA [0, 1, 2, 3, 4, 5, 6, 7, 8, 9, 10, 11, 12, 13, 14] rfl (by decide)⟩ rfl rfl hl.1 rfl (lv_room (Nat.le_of_ble_eq_true rfl)) dX12_lay_65 ⟨Nat.le_of_ble_eq_true rfl, Nat.le_of_ble_eq_true rfl⟩) hP hD hS hA [0, 1, 2, 3, 4, 5, 6, 7, 8, 9, 10, 11, 12, 13, 14] [] rfl rfl (by decide) (by decide) (fun r9 u9 H locs hw hP hD hS => ?_)
          have hw := hw.symm
          subst hw
          have hP : va_P D vwCl (WS_X12_lay cI cJ cZ cY a0 a0_a a0_image a0_texts a0_board a0_taken a0_fars a0_before a0_tape a0_pile a0_rows a0_told a0_values a0_truth a0_keeps v0) H := hP.sub [0, 1, 2, 3, 4, 5, 6, 7, 8, 9, 10, 11, 12, 13, 14] rfl
          have hD : va_D A (WS_X12_lay cI cJ cZ cY a0 a0_a a0_image a0_texts a0_board a0_taken a0_fars a0_before a0_tape a0_pile a0_rows a0_told a0_values a0_truth a0_keeps v0) := hD.sub [0, 1, 2, 3, 4, 5, 6, 7, 8, 9, 10, 11, 12, 13, 14] (by decide) rfl
          refine lv_aload_n hx hb dX12_lay_68 rfl (lv_at hl 0 rfl) ?_
          refine va_get (ci := 11) (v := .ref a0_a) (C := RX12) (T := TX12) (N := 43) hx hb htb uX12 hown hK.1 hP 0 rfl rfl 2 (by decide) (htb _ tg_938) (fun _ h9 => h9) rfl dX12_lay_69 ?_
          refine lv_sipush (v := 590) hx hb dX12_lay_72 (by decide) ?_
          refine lv_iconst (v := 4) hx hb dX12_lay_75 (by decide) ?_
          refine lv_iload_n hx hb dX12_lay_76 rfl (lv_at hl 2 rfl) ?_
          refine lv_imul hx hb dX12_lay_77 ?_
          refine lv_iadd hx hb dX12_lay_78 ?_
          refine lv_iconst (v := 3) hx hb dX12_lay_79 (by decide) ?_
          refine lv_iadd hx hb dX12_lay_80 ?_
          obtain ⟨h_6, hg⟩ := g_gde hg
          refine va_iald hx hb hK.1 hP 1 0 rfl rfl (inB_vp h_6) dX12_lay_81 ?_
          refine lv_topi (fun x_7 ex_7 => ?_)
          have hg := g_lte hg x_7 ex_7
          obtain ⟨h_8, hg⟩ := g_gde hg
          refine va_iast hx hb hK.1 hP hD hS 4 0 rfl rfl (inB_vp h_8) dX12_lay_82 (fun H locs hP hD hS => ?_)
          obtain ⟨v0_9, ev0_9⟩ : ∃ z, z = sX12_board v0 (upd (pX12_board v0) (r_5 : Int32).toNatClampNeg x_7) := ⟨_, rfl⟩
          have hP : va_P D vwCl (WS_X12_lay cI cJ cZ cY a0 a0_a a0_image a0_texts a0_board a0_taken a0_fars a0_before a0_tape a0_pile a0_rows a0_told a0_values a0_truth a0_keeps v0_9) H := by rw [ev0_9]; exact hP
          have hD : va_D A (WS_X12_lay cI cJ cZ cY a0 a0_a a0_image a0_texts a0_board a0_taken a0_fars a0_before a0_tape a0_pile a0_rows a0_told a0_values a0_truth a0_keeps v0_9) := by rw [ev0_9]; exact hD
          have hg := g_lte hg v0_9 ev0_9
          exact b_83 (f_X12_lay_b45 n) ih x1 x2 v0_9 H locs ls hP hD hS (lv_sub hl [0, 1, 2] rfl) hg
  have b_2 : ∀ (n : Nat), ∀ (x1 : Int32) (x2 : Int32) (v0 : BX12) (H : Heap) (locs : List Loc) (ls : Array Slot), va_P D vwCl (WS_X12_lay cI cJ cZ cY a0 a0_a a0_image a0_texts a0_board a0_taken a0_fars a0_before a0_tape a0_pile a0_rows a0_told a0_values a0_truth a0_keeps v0) H → va_D A (WS_X12_lay cI cJ cZ cY a0 a0_a a0_image a0_texts a0_board a0_taken a0_fars a0_before a0_tape a0_pile a0_rows a0_told a0_values a0_truth a0_keeps v0) → va_S A s.heap H locs → lv_has ls 3 [(0, .ref a0), (1, .int x1), (2, .int x2)] → f_X12_lay_b2 n (x1, x2, v0) = some res → W p l e rm_X12_lay s m args below meth c H locs 0 0 Q (F0 m 2 ls []) := by
    intro n
    induction n with
    | zero =>
      intro x1 x2 v0 H locs ls hP hD hS hl hg
      exact (g_lp0 hg).elim
    | succ n ih =>
      intro x1 x2 v0 H locs ls hP hD hS hl hg
      have hg : f_X12_lay_b2B (f_X12_lay_b2 n) x1 x2 v0 = some res := hg
      unfold f_X12_lay_b2B at hg
      refine lv_iload_n hx hb dX12_lay_2 rfl (lv_at hl 2 rfl) ?_
      refine lv_aload_n hx hb dX12_lay_3 rfl (lv_at hl 0 rfl) ?_
      refine va_get (ci := 11) (v := .int (pX12_w v0)) (C := RX12) (T := TX12) (N := 43) hx hb htb uX12 hown hK.1 hP 0 rfl rfl 0 (by decide) (htb _ tg_936) (fun _ h9 => h9) rfl dX12_lay_4 ?_
      refine lv_aload_n hx hb dX12_lay_7 rfl (lv_at hl 0 rfl) ?_
      refine va_get (ci := 11) (v := .int (pX12_h v0)) (C := RX12) (T := TX12) (N := 43) hx hb htb uX12 hown hK.1 hP 0 rfl rfl 1 (by decide) (htb _ tg_937) (fun _ h9 => h9) rfl dX12_lay_8 ?_
      refine lv_imul hx hb dX12_lay_11 ?_
      refine lv_icmp_ge (tgt := 36) hx hb dX12_lay_12 (by decide) (fun c_10 => ?_) (fun c_10 => ?_)
      · have hg := g_it hg c_10
        refine lv_aload_n hx hb dX12_lay_36 rfl (lv_at hl 0 rfl) ?_
        refine va_get (ci := 11) (v := .ref a0_a) (C := RX12) (T := TX12) (N := 43) hx hb htb uX12 hown hK.1 hP 0 rfl rfl 2 (by decide) (htb _ tg_938) (fun _ h9 => h9) rfl dX12_lay_37 ?_
        refine lv_iconst (v := 0) hx hb dX12_lay_40 (by decide) ?_
        obtain ⟨h_11, hg⟩ := g_gde hg
        refine va_iald hx hb hK.1 hP 1 0 rfl rfl (inB_vp h_11) dX12_lay_41 ?_
        refine lv_iconst (v := 1) hx hb dX12_lay_42 (by decide) ?_
        refine lv_isub hx hb dX12_lay_43 ?_
        refine lv_topi (fun x2_12 ex2_12 => ?_)
        have hg := g_lte hg x2_12 ex2_12
        refine lv_istore_n (lv' := [(2, .int x2_12), (0, .ref a0), (1, .int x1)]) hx hb dX12_lay_44 rfl hl (by decide) rfl (fun ls hl => ?_)
        exact b_45 fU x1 x2_12 v0 H locs ls hP hD hS (lv_sub hl [1, 2, 0] rfl) hg
      · have hg := g_if hg c_10
        refine lv_aload_n hx hb dX12_lay_15 rfl (lv_at hl 0 rfl) ?_
        refine va_get (ci := 11) (v := .ref a0_board) (C := RX12) (T := TX12) (N := 43) hx hb htb uX12 hown hK.1 hP 0 rfl rfl 5 (by decide) (htb _ tg_941) (fun _ h9 => h9) rfl dX12_lay_16 ?_
        refine lv_iload_n hx hb dX12_lay_19 rfl (lv_at hl 2 rfl) ?_
        refine lv_aload_n hx hb dX12_lay_20 rfl (lv_at hl 0 rfl) ?_
        refine va_get (ci := 11) (v := .ref a0_a) (C := RX12) (T := TX12) (N := 43) hx hb htb uX12 hown hK.1 hP 0 rfl rfl 2 (by decide) (htb _ tg_938) (fun _ h9 => h9) rfl dX12_lay_21 ?_
        refine lv_bipush (v := 10) hx hb dX12_lay_24 (by decide) ?_
        refine lv_iload_n hx hb dX12_lay_26 rfl (lv_at hl 2 rfl) ?_
        refine lv_iadd hx hb dX12_lay_27 ?_
        obtain ⟨h_13, hg⟩ := g_gde hg
        refine va_iald hx hb hK.1 hP 1 0 rfl rfl (inB_vp h_13) dX12_lay_28 ?_
        refine lv_topi (fun x_14 ex_14 => ?_)
        have hg := g_lte hg x_14 ex_14
        obtain ⟨h_15, hg⟩ := g_gde hg
        refine va_iast hx hb hK.1 hP hD hS 4 0 rfl rfl (inB_vp h_15) dX12_lay_29 (fun H locs hP hD hS => ?_)
        obtain ⟨v0_16, ev0_16⟩ : ∃ z, z = sX12_board v0 (upd (pX12_board v0) (x2 : Int32).toNatClampNeg x_14) := ⟨_, rfl⟩
        have hP : va_P D vwCl (WS_X12_lay cI cJ cZ cY a0 a0_a a0_image a0_texts a0_board a0_taken a0_fars a0_before a0_tape a0_pile a0_rows a0_told a0_values a0_truth a0_keeps v0_16) H := by rw [ev0_16]; exact hP
        have hD : va_D A (WS_X12_lay cI cJ cZ cY a0 a0_a a0_image a0_texts a0_board a0_taken a0_fars a0_before a0_tape a0_pile a0_rows a0_told a0_values a0_truth a0_keeps v0_16) := by rw [ev0_16]; exact hD
        have hg := g_lte hg v0_16 ev0_16
        obtain ⟨x2_17, ex2_17⟩ : ∃ z : Int32, z = x2 + 1 := ⟨_, rfl⟩
        have hg := g_lte hg x2_17 ex2_17
        refine lv_iinc (v := x2_17) (lv' := [(2, .int x2_17), (0, .ref a0), (1, .int x1)]) hx hb dX12_lay_30 hl (k := 2) rfl (by rw [ex2_17]; rfl) (by decide) rfl (fun ls hl => ?_)
        refine lv_goto (tgt := 2) hx hb dX12_lay_33 (by decide) ?_
        exact ih x1 x2_17 v0_16 H locs ls hP hD hS (lv_sub hl [1, 2, 0] rfl) hg
  generalize hHe : s.heap = H at hP ⊢
  have hS : va_S A s.heap H [] := by rw [← hHe]; exact va_S.rf
  generalize ([] : List Loc) = locs at hS ⊢
  unfold f_X12_lay at hg
  refine lv_iconst (v := 0) hx hb dX12_lay_0 (by decide) ?_
  refine lv_istore_n (lv' := [(2, .int 0), (0, .ref a0), (1, .int p0)]) hx hb dX12_lay_1 rfl hl (by decide) rfl (fun ls hl => ?_)
  exact b_2 fU p0 0 v0 H locs ls hP hD hS (lv_sub hl [1, 2, 0] rfl) hg

/-! ManyEyesModel.wayX(I)I -/
def WS_X12_wayX (cI cJ cZ cY : ClassId) : va_W := []
def f_X12_wayX (p0 : Int32) : Option (Int32) := g_lt ((((2 : Int32) * (p0 - p0 / 16 * 16)) - 16) : Int32) (fun x1_2 => g_lt ((p0 / 16) : Int32) (fun x2_4 => if (x2_4 : Int32) = 0 then (some 16) else (if (x2_4 : Int32) = 1 then (some (-x1_2)) else (if (x2_4 : Int32) = 2 then (some (-16)) else (some x1_2)))))
abbrev rm_X12_wayX : Room := { frames := 0, cells := 0, slots := 0, locals := 0 }
set_option maxHeartbeats 4000000 in
set_option maxRecDepth 100000 in
theorem k_X12_wayX {l : Launch} {D : va_G} {cI cJ cZ cY : ClassId} {tX tY : Nat} {sz : Nat} (p0 : Int32) (res : Int32) (hg : f_X12_wayX p0 = some res) : Met l yX12_wayX (Cond.code yX12_wayX cX12_wayX 3 (some .int) :: TB) rm_X12_wayX (PC D cI cJ cZ cY tX tY [.int p0] (WS_X12_wayX cI cJ cZ cY) sz) (va_Qi (fun (r : Int32) (_ : Unit) => r = res) (BC D (fun _ : Unit => WS_X12_wayX cI cJ cZ cY) (va_A (WS_X12_wayX cI cJ cZ cY) sz)) (va_A (WS_X12_wayX cI cJ cZ cY) sz)) 0 0 (va_A (WS_X12_wayX cI cJ cZ cY) sz) := by
  refine Met.ofW (cc := cX12_wayX) (maxL := 3) (ret := (some .int)) (by decide) rfl ?_
  intro p e s m args below meth c s₁ B hml hv
  obtain ⟨hargs, hsz, hP, hK, hD0, hT⟩ := hv
  have hx := B.exec
  have hb := B.bytes
  have hr := B.returns
  have htb : ∀ w ∈ TB, w.before args s = true := fun w h => atoms_spec (ws := Cond.code yX12_wayX cX12_wayX 3 (some .int) :: TB) B.pre w (List.mem_cons_of_mem _ h)
  have hown : s.vm.findClass "ManyEyesModel" = some m.cls := findClass_of_methodNamed B.named
  have hlocks := B.notSynchronized
  subst hsz
  have hD := hD0.self (sz := s.heap.size)
  generalize hAe : va_A (WS_X12_wayX cI cJ cZ cY) s.heap.size = A at hD hT ⊢
  have hA : ∀ q : Nat, s.heap.size ≤ q → A q := fun q h => by rw [← hAe]; exact Or.inr h
  have hS : va_S A s.heap s.heap [] := va_S.rf
  have hl := lv_entry ([.int p0]) (n := 3) (Nat.le_of_ble_eq_true rfl)
  have he : entryFrame m args 3 = F0 m 0 (lg_sl ([.int p0]) ++ List.replicate (3 - (lg_sl ([.int p0])).length) Slot.unset).toArray [] := by rw [hargs, lg_entry_eq]
  rw [he]
  generalize (lg_sl ([.int p0]) ++ List.replicate (3 - (lg_sl ([.int p0])).length) Slot.unset).toArray = ls at hl ⊢
  have hl : lv_has ls 3 [(0, .int p0)] := hl
  show W p l e rm_X12_wayX s m args below meth c s.heap [] 0 0 _ _
  refine W.genQ (fun Q hQ => ?_)
  generalize hHe : s.heap = H at hP ⊢
  have hS : va_S A s.heap H [] := by rw [← hHe]; exact va_S.rf
  generalize ([] : List Loc) = locs at hS ⊢
  unfold f_X12_wayX at hg
  refine lv_iconst (v := 2) hx hb dX12_wayX_0 (by decide) ?_
  refine lv_iload_n hx hb dX12_wayX_1 rfl (lv_at hl 0 rfl) ?_
  refine lv_bipush (v := 16) hx hb dX12_wayX_2 (by decide) ?_
  refine lv_irem hx hb dX12_wayX_4 (by decide) ?_
  refine lv_imul hx hb dX12_wayX_5 ?_
  refine lv_bipush (v := 16) hx hb dX12_wayX_6 (by decide) ?_
  refine lv_isub hx hb dX12_wayX_8 ?_
  refine lv_topi (fun x1_2 ex1_2 => ?_)
  have hg := g_lte hg x1_2 ex1_2
  refine lv_istore_n (lv' := [(1, .int x1_2), (0, .int p0)]) hx hb dX12_wayX_9 rfl hl (by decide) rfl (fun ls hl => ?_)
  refine lv_iload_n hx hb dX12_wayX_10 rfl (lv_at hl 1 rfl) ?_
  refine lv_bipush (v := 16) hx hb dX12_wayX_11 (by decide) ?_
  refine lv_idiv hx hb dX12_wayX_13 (by decide) ?_
  refine lv_topi (fun x2_4 ex2_4 => ?_)
  have hg := g_lte hg x2_4 ex2_4
  refine lv_istore_n (lv' := [(2, .int x2_4), (1, .int x1_2), (0, .int p0)]) hx hb dX12_wayX_14 rfl hl (by decide) rfl (fun ls hl => ?_)
  refine lv_iload_n hx hb dX12_wayX_15 rfl (lv_at hl 0 rfl) ?_
  refine lv_if_ne (tgt := 24) hx hb dX12_wayX_16 (by decide) (fun c_5 => ?_) (fun c_5 => ?_)
  · have hg := g_if hg c_5
    refine lv_iload_n hx hb dX12_wayX_24 rfl (lv_at hl 0 rfl) ?_
    refine lv_iconst (v := 1) hx hb dX12_wayX_25 (by decide) ?_
    refine lv_icmp_ne (tgt := 34) hx hb dX12_wayX_26 (by decide) (fun c_6 => ?_) (fun c_6 => ?_)
    · have hg := g_if hg c_6
      refine lv_iload_n hx hb dX12_wayX_34 rfl (lv_at hl 0 rfl) ?_
      refine lv_iconst (v := 2) hx hb dX12_wayX_35 (by decide) ?_
      refine lv_icmp_ne (tgt := 44) hx hb dX12_wayX_36 (by decide) (fun c_7 => ?_) (fun c_7 => ?_)
      · have hg := g_if hg c_7
        refine lv_iload_n hx hb dX12_wayX_44 rfl (lv_at hl 1 rfl) ?_
        have hg := Option.some.inj hg
        rw [hQ]
        exact W.iret (v := x1_2) hx hb hr (fun t ht hW => ⟨⟨x1_2, (), rfl, hg, by rw [ht]; exact hP, hD⟩, hS.F ht⟩) hS.2.2 dX12_wayX_45
      · have hg := g_it hg c_7
        refine lv_bipush (v := (-16)) hx hb dX12_wayX_39 (by decide) ?_
        refine lv_goto (tgt := 45) hx hb dX12_wayX_41 (by decide) ?_
        have hg := Option.some.inj hg
        rw [hQ]
        exact W.iret (v := (-16)) hx hb hr (fun t ht hW => ⟨⟨(-16), (), rfl, hg, by rw [ht]; exact hP, hD⟩, hS.F ht⟩) hS.2.2 dX12_wayX_45
    · have hg := g_it hg c_6
      refine lv_iload_n hx hb dX12_wayX_29 rfl (lv_at hl 1 rfl) ?_
      refine lv_ineg hx hb dX12_wayX_30 ?_
      refine lv_goto (tgt := 45) hx hb dX12_wayX_31 (by decide) ?_
      have hg := Option.some.inj hg
      rw [hQ]
      exact W.iret (v := (-x1_2)) hx hb hr (fun t ht hW => ⟨⟨(-x1_2), (), rfl, hg, by rw [ht]; exact hP, hD⟩, hS.F ht⟩) hS.2.2 dX12_wayX_45
  · have hg := g_it hg c_5
    refine lv_bipush (v := 16) hx hb dX12_wayX_19 (by decide) ?_
    refine lv_goto (tgt := 45) hx hb dX12_wayX_21 (by decide) ?_
    have hg := Option.some.inj hg
    rw [hQ]
    exact W.iret (v := 16) hx hb hr (fun t ht hW => ⟨⟨16, (), rfl, hg, by rw [ht]; exact hP, hD⟩, hS.F ht⟩) hS.2.2 dX12_wayX_45

/-! ManyEyesModel.wayY(I)I -/
def WS_X12_wayY (cI cJ cZ cY : ClassId) : va_W := []
def f_X12_wayY (p0 : Int32) : Option (Int32) := g_lt ((((2 : Int32) * (p0 - p0 / 16 * 16)) - 16) : Int32) (fun x1_2 => g_lt ((p0 / 16) : Int32) (fun x2_4 => if (x2_4 : Int32) = 0 then (some x1_2) else (if (x2_4 : Int32) = 1 then (some 16) else (if (x2_4 : Int32) = 2 then (some (-x1_2)) else (some (-16))))))
abbrev rm_X12_wayY : Room := { frames := 0, cells := 0, slots := 0, locals := 0 }
set_option maxHeartbeats 4000000 in
set_option maxRecDepth 100000 in
theorem k_X12_wayY {l : Launch} {D : va_G} {cI cJ cZ cY : ClassId} {tX tY : Nat} {sz : Nat} (p0 : Int32) (res : Int32) (hg : f_X12_wayY p0 = some res) : Met l yX12_wayY (Cond.code yX12_wayY cX12_wayY 3 (some .int) :: TB) rm_X12_wayY (PC D cI cJ cZ cY tX tY [.int p0] (WS_X12_wayY cI cJ cZ cY) sz) (va_Qi (fun (r : Int32) (_ : Unit) => r = res) (BC D (fun _ : Unit => WS_X12_wayY cI cJ cZ cY) (va_A (WS_X12_wayY cI cJ cZ cY) sz)) (va_A (WS_X12_wayY cI cJ cZ cY) sz)) 0 0 (va_A (WS_X12_wayY cI cJ cZ cY) sz) := by
  refine Met.ofW (cc := cX12_wayY) (maxL := 3) (ret := (some .int)) (by decide) rfl ?_
  intro p e s m args below meth c s₁ B hml hv
  obtain ⟨hargs, hsz, hP, hK, hD0, hT⟩ := hv
  have hx := B.exec
  have hb := B.bytes
  have hr := B.returns
  have htb : ∀ w ∈ TB, w.before args s = true := fun w h => atoms_spec (ws := Cond.code yX12_wayY cX12_wayY 3 (some .int) :: TB) B.pre w (List.mem_cons_of_mem _ h)
  have hown : s.vm.findClass "ManyEyesModel" = some m.cls := findClass_of_methodNamed B.named
  have hlocks := B.notSynchronized
  subst hsz
  have hD := hD0.self (sz := s.heap.size)
  generalize hAe : va_A (WS_X12_wayY cI cJ cZ cY) s.heap.size = A at hD hT ⊢
  have hA : ∀ q : Nat, s.heap.size ≤ q → A q := fun q h => by rw [← hAe]; exact Or.inr h
  have hS : va_S A s.heap s.heap [] := va_S.rf
  have hl := lv_entry ([.int p0]) (n := 3) (Nat.le_of_ble_eq_true rfl)
  have he : entryFrame m args 3 = F0 m 0 (lg_sl ([.int p0]) ++ List.replicate (3 - (lg_sl ([.int p0])).length) Slot.unset).toArray [] := by rw [hargs, lg_entry_eq]
  rw [he]
  generalize (lg_sl ([.int p0]) ++ List.replicate (3 - (lg_sl ([.int p0])).length) Slot.unset).toArray = ls at hl ⊢
  have hl : lv_has ls 3 [(0, .int p0)] := hl
  show W p l e rm_X12_wayY s m args below meth c s.heap [] 0 0 _ _
  refine W.genQ (fun Q hQ => ?_)
  generalize hHe : s.heap = H at hP ⊢
  have hS : va_S A s.heap H [] := by rw [← hHe]; exact va_S.rf
  generalize ([] : List Loc) = locs at hS ⊢
  unfold f_X12_wayY at hg
  refine lv_iconst (v := 2) hx hb dX12_wayY_0 (by decide) ?_
  refine lv_iload_n hx hb dX12_wayY_1 rfl (lv_at hl 0 rfl) ?_
  refine lv_bipush (v := 16) hx hb dX12_wayY_2 (by decide) ?_
  refine lv_irem hx hb dX12_wayY_4 (by decide) ?_
  refine lv_imul hx hb dX12_wayY_5 ?_
  refine lv_bipush (v := 16) hx hb dX12_wayY_6 (by decide) ?_
  refine lv_isub hx hb dX12_wayY_8 ?_
  refine lv_topi (fun x1_2 ex1_2 => ?_)
  have hg := g_lte hg x1_2 ex1_2
  refine lv_istore_n (lv' := [(1, .int x1_2), (0, .int p0)]) hx hb dX12_wayY_9 rfl hl (by decide) rfl (fun ls hl => ?_)
  refine lv_iload_n hx hb dX12_wayY_10 rfl (lv_at hl 1 rfl) ?_
  refine lv_bipush (v := 16) hx hb dX12_wayY_11 (by decide) ?_
  refine lv_idiv hx hb dX12_wayY_13 (by decide) ?_
  refine lv_topi (fun x2_4 ex2_4 => ?_)
  have hg := g_lte hg x2_4 ex2_4
  refine lv_istore_n (lv' := [(2, .int x2_4), (1, .int x1_2), (0, .int p0)]) hx hb dX12_wayY_14 rfl hl (by decide) rfl (fun ls hl => ?_)
  refine lv_iload_n hx hb dX12_wayY_15 rfl (lv_at hl 0 rfl) ?_
  refine lv_if_ne (tgt := 23) hx hb dX12_wayY_16 (by decide) (fun c_5 => ?_) (fun c_5 => ?_)
  · have hg := g_if hg c_5
    refine lv_iload_n hx hb dX12_wayY_23 rfl (lv_at hl 0 rfl) ?_
    refine lv_iconst (v := 1) hx hb dX12_wayY_24 (by decide) ?_
    refine lv_icmp_ne (tgt := 33) hx hb dX12_wayY_25 (by decide) (fun c_6 => ?_) (fun c_6 => ?_)
    · have hg := g_if hg c_6
      refine lv_iload_n hx hb dX12_wayY_33 rfl (lv_at hl 0 rfl) ?_
      refine lv_iconst (v := 2) hx hb dX12_wayY_34 (by decide) ?_
      refine lv_icmp_ne (tgt := 43) hx hb dX12_wayY_35 (by decide) (fun c_7 => ?_) (fun c_7 => ?_)
      · have hg := g_if hg c_7
        refine lv_bipush (v := (-16)) hx hb dX12_wayY_43 (by decide) ?_
        have hg := Option.some.inj hg
        rw [hQ]
        exact W.iret (v := (-16)) hx hb hr (fun t ht hW => ⟨⟨(-16), (), rfl, hg, by rw [ht]; exact hP, hD⟩, hS.F ht⟩) hS.2.2 dX12_wayY_45
      · have hg := g_it hg c_7
        refine lv_iload_n hx hb dX12_wayY_38 rfl (lv_at hl 1 rfl) ?_
        refine lv_ineg hx hb dX12_wayY_39 ?_
        refine lv_goto (tgt := 45) hx hb dX12_wayY_40 (by decide) ?_
        have hg := Option.some.inj hg
        rw [hQ]
        exact W.iret (v := (-x1_2)) hx hb hr (fun t ht hW => ⟨⟨(-x1_2), (), rfl, hg, by rw [ht]; exact hP, hD⟩, hS.F ht⟩) hS.2.2 dX12_wayY_45
    · have hg := g_it hg c_6
      refine lv_bipush (v := 16) hx hb dX12_wayY_28 (by decide) ?_
      refine lv_goto (tgt := 45) hx hb dX12_wayY_30 (by decide) ?_
      have hg := Option.some.inj hg
      rw [hQ]
      exact W.iret (v := 16) hx hb hr (fun t ht hW => ⟨⟨16, (), rfl, hg, by rw [ht]; exact hP, hD⟩, hS.F ht⟩) hS.2.2 dX12_wayY_45
  · have hg := g_it hg c_5
    refine lv_iload_n hx hb dX12_wayY_19 rfl (lv_at hl 1 rfl) ?_
    refine lv_goto (tgt := 45) hx hb dX12_wayY_20 (by decide) ?_
    have hg := Option.some.inj hg
    rw [hQ]
    exact W.iret (v := x1_2) hx hb hr (fun t ht hW => ⟨⟨x1_2, (), rfl, hg, by rw [ht]; exact hP, hD⟩, hS.F ht⟩) hS.2.2 dX12_wayY_45

/-! ManyEyesModel.shoot(III)V -/
def WS_X12_shoot (cI cJ cZ cY : ClassId) (a0 a0_a a0_image a0_texts a0_board a0_taken a0_fars a0_before a0_tape a0_pile a0_rows a0_told a0_values a0_truth a0_keeps : Nat) (v0 : BX12) : va_W := (GX12 cI cJ cZ cY a0 a0_a a0_image a0_texts a0_board a0_taken a0_fars a0_before a0_tape a0_pile a0_rows a0_told a0_values a0_truth a0_keeps v0)
def f_X12_shoot_b18B (J18 : Int32 × Int32 × Int32 × Int32 × BX12 → Option (BX12)) (x1 : Int32) (x2 : Int32) (x3 : Int32) (x4 : Int32) (v0 : BX12) : Option (BX12) := if (40 : Int32) < x4 then (some (v0)) else ((f_X12_wayX x3).bind (fun r_2 => (f_X12_floor (x1 + (x4 * r_2)) 16).bind (fun r_3 => (f_X12_wayY x3).bind (fun r_4 => (f_X12_floor (x2 + (x4 * r_4)) 16).bind (fun r_5 => (f_X12_isIn r_3 0 ((pX12_w v0) - 1)).bind (fun r_6 => if (r_6 : Int32) = 0 then (some (v0)) else ((f_X12_isIn r_5 0 ((pX12_h v0) - 1)).bind (fun r_8 => if (r_8 : Int32) = 0 then (some (v0)) else (g_gd (inB ((r_5 * (pX12_w v0)) + r_3) 576) (if (((pX12_board v0) (((r_5 * (pX12_w v0)) + r_3) : Int32).toNatClampNeg) : Int32) = 0 then (g_lt (x4 + 1 : Int32) (fun x4_18 => J18 (x1, x2, x3, x4_18, v0))) else (g_gd (inB ((r_5 * (pX12_w v0)) + r_3) 576) (g_lt (((pX12_board v0) (((r_5 * (pX12_w v0)) + r_3) : Int32).toNatClampNeg) : Int32) (fun x_13 => g_gd (inB x3 64) (g_lt (sX12_taken v0 (upd (pX12_taken v0) (x3 : Int32).toNatClampNeg x_13)) (fun v0_15 => g_gd (inB x3 64) (g_lt (sX12_fars v0_15 (upd (pX12_fars v0_15) (x3 : Int32).toNatClampNeg x4)) (fun v0_17 => some (v0_17))))))))))))))))))
def f_X12_shoot_b18 : Nat → (Int32 × Int32 × Int32 × Int32 × BX12) → Option (BX12) := g_lp (fun J z => f_X12_shoot_b18B J z.1 z.2.1 z.2.2.1 z.2.2.2.1 z.2.2.2.2)
def f_X12_shoot (v0 : BX12) (p0 : Int32) (p1 : Int32) (p2 : Int32) : Option (BX12) := g_gd (inB p2 64) (g_lt (sX12_taken v0 (upd (pX12_taken v0) (p2 : Int32).toNatClampNeg 0)) (fun v0_20 => g_gd (inB p2 64) (g_lt (sX12_fars v0_20 (upd (pX12_fars v0_20) (p2 : Int32).toNatClampNeg 41)) (fun v0_22 => f_X12_shoot_b18 fU (p0, p1, p2, 1, v0_22)))))
abbrev rm_X12_shoot : Room := { frames := 1, cells := 0, slots := 0, locals := 22 }
set_option maxHeartbeats 4000000 in
set_option maxRecDepth 100000 in
theorem k_X12_shoot {l : Launch} {D : va_G} {cI cJ cZ cY : ClassId} {tX tY : Nat} {sz : Nat} (a0 a0_a a0_image a0_texts a0_board a0_taken a0_fars a0_before a0_tape a0_pile a0_rows a0_told a0_values a0_truth a0_keeps : Nat) (v0 : BX12) (p0 : Int32) (p1 : Int32) (p2 : Int32) (res : BX12) (hg : f_X12_shoot v0 p0 p1 p2 = some res) : Met l yX12_shoot (Cond.code yX12_shoot cX12_shoot 7 none :: TB) rm_X12_shoot (PC D cI cJ cZ cY tX tY [.ref a0, .int p0, .int p1, .int p2] (WS_X12_shoot cI cJ cZ cY a0 a0_a a0_image a0_texts a0_board a0_taken a0_fars a0_before a0_tape a0_pile a0_rows a0_told a0_values a0_truth a0_keeps v0) sz) (va_Qv (fun (u : BX12) => u = res) (BC D (fun u : BX12 => WS_X12_shoot cI cJ cZ cY a0 a0_a a0_image a0_texts a0_board a0_taken a0_fars a0_before a0_tape a0_pile a0_rows a0_told a0_values a0_truth a0_keeps u) (va_A (WS_X12_shoot cI cJ cZ cY a0 a0_a a0_image a0_texts a0_board a0_taken a0_fars a0_before a0_tape a0_pile a0_rows a0_told a0_values a0_truth a0_keeps v0) sz)) (va_A (WS_X12_shoot cI cJ cZ cY a0 a0_a a0_image a0_texts a0_board a0_taken a0_fars a0_before a0_tape a0_pile a0_rows a0_told a0_values a0_truth a0_keeps v0) sz)) 0 0 (va_A (WS_X12_shoot cI cJ cZ cY a0 a0_a a0_image a0_texts a0_board a0_taken a0_fars a0_before a0_tape a0_pile a0_rows a0_told a0_values a0_truth a0_keeps v0) sz) := by
  refine Met.ofW (cc := cX12_shoot) (maxL := 7) (ret := none) (by decide) rfl ?_
  intro p e s m args below meth c s₁ B hml hv
  obtain ⟨hargs, hsz, hP, hK, hD0, hT⟩ := hv
  have hx := B.exec
  have hb := B.bytes
  have hr := B.returns
  have htb : ∀ w ∈ TB, w.before args s = true := fun w h => atoms_spec (ws := Cond.code yX12_shoot cX12_shoot 7 none :: TB) B.pre w (List.mem_cons_of_mem _ h)
  have hown : s.vm.findClass "ManyEyesModel" = some m.cls := findClass_of_methodNamed B.named
  have hlocks := B.notSynchronized
  subst hsz
  have hD := hD0.self (sz := s.heap.size)
  generalize hAe : va_A (WS_X12_shoot cI cJ cZ cY a0 a0_a a0_image a0_texts a0_board a0_taken a0_fars a0_before a0_tape a0_pile a0_rows a0_told a0_values a0_truth a0_keeps v0) s.heap.size = A at hD hT ⊢
  have hA : ∀ q : Nat, s.heap.size ≤ q → A q := fun q h => by rw [← hAe]; exact Or.inr h
  have hS : va_S A s.heap s.heap [] := va_S.rf
  have hl := lv_entry ([.ref a0, .int p0, .int p1, .int p2]) (n := 7) (Nat.le_of_ble_eq_true rfl)
  have he : entryFrame m args 7 = F0 m 0 (lg_sl ([.ref a0, .int p0, .int p1, .int p2]) ++ List.replicate (7 - (lg_sl ([.ref a0, .int p0, .int p1, .int p2])).length) Slot.unset).toArray [] := by rw [hargs, lg_entry_eq]
  rw [he]
  generalize (lg_sl ([.ref a0, .int p0, .int p1, .int p2]) ++ List.replicate (7 - (lg_sl ([.ref a0, .int p0, .int p1, .int p2])).length) Slot.unset).toArray = ls at hl ⊢
  have hl : lv_has ls 7 [(0, .ref a0), (1, .int p0), (2, .int p1), (3, .int p2)] := hl
  show W p l e rm_X12_shoot s m args below meth c s.heap [] 0 0 _ _
  refine W.genQ (fun Q hQ => ?_)
  have b_18 : ∀ (n : Nat), ∀ (x1 : Int32) (x2 : Int32) (x3 : Int32) (x4 : Int32) (v0 : BX12) (H : Heap) (locs : List Loc) (ls : Array Slot), va_P D vwCl (WS_X12_shoot cI cJ cZ cY a0 a0_a a0_image a0_texts a0_board a0_taken a0_fars a0_before a0_tape a0_pile a0_rows a0_told a0_values a0_truth a0_keeps v0) H → va_D A (WS_X12_shoot cI cJ cZ cY a0 a0_a a0_image a0_texts a0_board a0_taken a0_fars a0_before a0_tape a0_pile a0_rows a0_told a0_values a0_truth a0_keeps v0) → va_S A s.heap H locs → lv_has ls 7 [(0, .ref a0), (1, .int x1), (2, .int x2), (3, .int x3), (4, .int x4)] → f_X12_shoot_b18 n (x1, x2, x3, x4, v0) = some res → W p l e rm_X12_shoot s m args below meth c H locs 0 0 Q (F0 m 18 ls []) := by
    intro n
    induction n with
    | zero =>
      intro x1 x2 x3 x4 v0 H locs ls hP hD hS hl hg
      exact (g_lp0 hg).elim
    | succ n ih =>
      intro x1 x2 x3 x4 v0 H locs ls hP hD hS hl hg
      have hg : f_X12_shoot_b18B (f_X12_shoot_b18 n) x1 x2 x3 x4 v0 = some res := hg
      unfold f_X12_shoot_b18B at hg
      refine lv_iload hx hb dX12_shoot_18 (lv_at hl 4 rfl) ?_
      refine lv_bipush (v := 40) hx hb dX12_shoot_20 (by decide) ?_
      refine lv_icmp_gt (tgt := 145) hx hb dX12_shoot_22 (by decide) (fun c_1 => ?_) (fun c_1 => ?_)
      · have hg := g_it hg c_1
        have hg := Option.some.inj hg
        rw [hQ]
        exact W.vret hx hb hr (fun t ht hW => ⟨⟨(v0), rfl, hg, by rw [ht]; exact hP, hD⟩, hS.F ht⟩) hS.2.2 dX12_shoot_145
      · have hg := g_if hg c_1
        refine lv_iload_n hx hb dX12_shoot_25 rfl (lv_at hl 1 rfl) ?_
        refine lv_iload hx hb dX12_shoot_26 (lv_at hl 4 rfl) ?_
        refine lv_iload_n hx hb dX12_shoot_28 rfl (lv_at hl 3 rfl) ?_
        obtain ⟨r_2, hr_2, hg⟩ := g_bd hg
        refine cc_i (va_runS (As := [.int x3]) (rest := [.int x4, .int x1]) ⟨hx, hb, hml, hown, htb⟩ (k_X12_wayX x3 r_2 hr_2) (cw_S 1 htb tg_1119 tg_13 tg_1117 tg_1118 rfl rfl (by decide +kernel) ⟨Nat.le_of_ble_eq_true rfl, Nat.le_of_ble_eq_true rfl⟩) ⟨PC.blind, PC.pre hK hT hP hD hS hA [] rfl (by decide)⟩ rfl rfl hl.1 rfl (lv_room (Nat.le_of_ble_eq_true rfl)) dX12_shoot_29 ⟨Nat.le_of_ble_eq_true rfl, Nat.le_of_ble_eq_true rfl⟩) hP hD hS hA [] [0, 1, 2, 3, 4, 5, 6, 7, 8, 9, 10, 11, 12, 13, 14] rfl rfl (by decide) (by decide) (fun r9 u9 H locs hw hP hD hS => ?_)
        have hw := hw.symm
        subst hw
        have hP : va_P D vwCl (WS_X12_shoot cI cJ cZ cY a0 a0_a a0_image a0_texts a0_board a0_taken a0_fars a0_before a0_tape a0_pile a0_rows a0_told a0_values a0_truth a0_keeps v0) H := hP.sub [0, 1, 2, 3, 4, 5, 6, 7, 8, 9, 10, 11, 12, 13, 14] rfl
        have hD : va_D A (WS_X12_shoot cI cJ cZ cY a0 a0_a a0_image a0_texts a0_board a0_taken a0_fars a0_before a0_tape a0_pile a0_rows a0_told a0_values a0_truth a0_keeps v0) := hD.sub [0, 1, 2, 3, 4, 5, 6, 7, 8, 9, 10, 11, 12, 13, 14] (by decide) rfl
        refine lv_imul hx hb dX12_shoot_32 ?_
        refine lv_iadd hx hb dX12_shoot_33 ?_
        refine lv_bipush (v := 16) hx hb dX12_shoot_34 (by decide) ?_
        obtain ⟨r_3, hr_3, hg⟩ := g_bd hg
        refine cc_i (va_runS (As := [.int (x1 + (x4 * r_2)), .int 16]) (rest := []) ⟨hx, hb, hml, hown, htb⟩ (k_X12_floor (x1 + (x4 * r_2)) 16 r_3 hr_3) (cw_S 2 htb tg_1122 tg_13 tg_1120 tg_1121 rfl rfl (by decide +kernel) ⟨Nat.le_of_ble_eq_true rfl, Nat.le_of_ble_eq_true rfl⟩) ⟨PC.blind, PC.pre hK hT hP hD hS hA [] rfl (by decide)⟩ rfl rfl hl.1 rfl (lv_room (Nat.le_of_ble_eq_true rfl)) dX12_shoot_36 ⟨Nat.le_of_ble_eq_true rfl, Nat.le_of_ble_eq_true rfl⟩) hP hD hS hA [] [0, 1, 2, 3, 4, 5, 6, 7, 8, 9, 10, 11, 12, 13, 14] rfl rfl (by decide) (by decide) (fun r9 u9 H locs hw hP hD hS => ?_)
        have hw := hw.symm
        subst hw
        have hP : va_P D vwCl (WS_X12_shoot cI cJ cZ cY a0 a0_a a0_image a0_texts a0_board a0_taken a0_fars a0_before a0_tape a0_pile a0_rows a0_told a0_values a0_truth a0_keeps v0) H := hP.sub [0, 1, 2, 3, 4, 5, 6, 7, 8, 9, 10, 11, 12, 13, 14] rfl
        have hD : va_D A (WS_X12_shoot cI cJ cZ cY a0 a0_a a0_image a0_texts a0_board a0_taken a0_fars a0_before a0_tape a0_pile a0_rows a0_told a0_values a0_truth a0_keeps v0) := hD.sub [0, 1, 2, 3, 4, 5, 6, 7, 8, 9, 10, 11, 12, 13, 14] (by decide) rfl
        refine lv_istore (lv' := [(5, .int r_3), (0, .ref a0), (1, .int x1), (2, .int x2), (3, .int x3), (4, .int x4)]) hx hb dX12_shoot_39 hl (by decide) rfl (fun ls hl => ?_)
        refine lv_iload_n hx hb dX12_shoot_41 rfl (lv_at hl 3 rfl) ?_
        refine lv_iload hx hb dX12_shoot_42 (lv_at hl 5 rfl) ?_
        refine lv_iload_n hx hb dX12_shoot_44 rfl (lv_at hl 4 rfl) ?_
        obtain ⟨r_4, hr_4, hg⟩ := g_bd hg
        refine cc_i (va_runS (As := [.int x3]) (rest := [.int x4, .int x2]) ⟨hx, hb, hml, hown, htb⟩ (k_X12_wayY x3 r_4 hr_4) (cw_S 1 htb tg_1125 tg_13 tg_1123 tg_1124 rfl rfl (by decide +kernel) ⟨Nat.le_of_ble_eq_true rfl, Nat.le_of_ble_eq_true rfl⟩) ⟨PC.blind, PC.pre hK hT hP hD hS hA [] rfl (by decide)⟩ rfl rfl hl.1 rfl (lv_room (Nat.le_of_ble_eq_true rfl)) dX12_shoot_45 ⟨Nat.le_of_ble_eq_true rfl, Nat.le_of_ble_eq_true rfl⟩) hP hD hS hA [] [0, 1, 2, 3, 4, 5, 6, 7, 8, 9, 10, 11, 12, 13, 14] rfl rfl (by decide) (by decide) (fun r9 u9 H locs hw hP hD hS => ?_)
        have hw := hw.symm
        subst hw
        have hP : va_P D vwCl (WS_X12_shoot cI cJ cZ cY a0 a0_a a0_image a0_texts a0_board a0_taken a0_fars a0_before a0_tape a0_pile a0_rows a0_told a0_values a0_truth a0_keeps v0) H := hP.sub [0, 1, 2, 3, 4, 5, 6, 7, 8, 9, 10, 11, 12, 13, 14] rfl
        have hD : va_D A (WS_X12_shoot cI cJ cZ cY a0 a0_a a0_image a0_texts a0_board a0_taken a0_fars a0_before a0_tape a0_pile a0_rows a0_told a0_values a0_truth a0_keeps v0) := hD.sub [0, 1, 2, 3, 4, 5, 6, 7, 8, 9, 10, 11, 12, 13, 14] (by decide) rfl
        refine lv_imul hx hb dX12_shoot_48 ?_
        refine lv_iadd hx hb dX12_shoot_49 ?_
        refine lv_bipush (v := 16) hx hb dX12_shoot_50 (by decide) ?_
        obtain ⟨r_5, hr_5, hg⟩ := g_bd hg
        refine cc_i (va_runS (As := [.int (x2 + (x4 * r_4)), .int 16]) (rest := []) ⟨hx, hb, hml, hown, htb⟩ (k_X12_floor (x2 + (x4 * r_4)) 16 r_5 hr_5) (cw_S 2 htb tg_1122 tg_13 tg_1120 tg_1121 rfl rfl (by decide +kernel) ⟨Nat.le_of_ble_eq_true rfl, Nat.le_of_ble_eq_true rfl⟩) ⟨PC.blind, PC.pre hK hT hP hD hS hA [] rfl (by decide)⟩ rfl rfl hl.1 rfl (lv_room (Nat.le_of_ble_eq_true rfl)) dX12_shoot_52 ⟨Nat.le_of_ble_eq_true rfl, Nat.le_of_ble_eq_true rfl⟩) hP hD hS hA [] [0, 1, 2, 3, 4, 5, 6, 7, 8, 9, 10, 11, 12, 13, 14] rfl rfl (by decide) (by decide) (fun r9 u9 H locs hw hP hD hS => ?_)
        have hw := hw.symm
        subst hw
        have hP : va_P D vwCl (WS_X12_shoot cI cJ cZ cY a0 a0_a a0_image a0_texts a0_board a0_taken a0_fars a0_before a0_tape a0_pile a0_rows a0_told a0_values a0_truth a0_keeps v0) H := hP.sub [0, 1, 2, 3, 4, 5, 6, 7, 8, 9, 10, 11, 12, 13, 14] rfl
        have hD : va_D A (WS_X12_shoot cI cJ cZ cY a0 a0_a a0_image a0_texts a0_board a0_taken a0_fars a0_before a0_tape a0_pile a0_rows a0_told a0_values a0_truth a0_keeps v0) := hD.sub [0, 1, 2, 3, 4, 5, 6, 7, 8, 9, 10, 11, 12, 13, 14] (by decide) rfl
        refine lv_istore (lv' := [(6, .int r_5), (5, .int r_3), (0, .ref a0), (1, .int x1), (2, .int x2), (3, .int x3), (4, .int x4)]) hx hb dX12_shoot_55 hl (by decide) rfl (fun ls hl => ?_)
        refine lv_iload hx hb dX12_shoot_57 (lv_at hl 1 rfl) ?_
        refine lv_iconst (v := 0) hx hb dX12_shoot_59 (by decide) ?_
        refine lv_aload_n hx hb dX12_shoot_60 rfl (lv_at hl 2 rfl) ?_
        refine va_get (ci := 11) (v := .int (pX12_w v0)) (C := RX12) (T := TX12) (N := 43) hx hb htb uX12 hown hK.1 hP 0 rfl rfl 0 (by decide) (htb _ tg_936) (fun _ h9 => h9) rfl dX12_shoot_61 ?_
        refine lv_iconst (v := 1) hx hb dX12_shoot_64 (by decide) ?_
        refine lv_isub hx hb dX12_shoot_65 ?_
        obtain ⟨r_6, hr_6, hg⟩ := g_bd hg
        refine cc_i (va_runS (As := [.int r_3, .int 0, .int ((pX12_w v0) - 1)]) (rest := []) ⟨hx, hb, hml, hown, htb⟩ (k_X12_isIn r_3 0 ((pX12_w v0) - 1) r_6 hr_6) (cw_S 3 htb tg_1078 tg_13 tg_1076 tg_1077 rfl rfl (by decide +kernel) ⟨Nat.le_of_ble_eq_true rfl, Nat.le_of_ble_eq_true rfl⟩) ⟨PC.blind, PC.pre hK hT hP hD hS hA [] rfl (by decide)⟩ rfl rfl hl.1 rfl (lv_room (Nat.le_of_ble_eq_true rfl)) dX12_shoot_66 ⟨Nat.le_of_ble_eq_true rfl, Nat.le_of_ble_eq_true rfl⟩) hP hD hS hA [] [0, 1, 2, 3, 4, 5, 6, 7, 8, 9, 10, 11, 12, 13, 14] rfl rfl (by decide) (by decide) (fun r9 u9 H locs hw hP hD hS => ?_)
        have hw := hw.symm
        subst hw
        have hP : va_P D vwCl (WS_X12_shoot cI cJ cZ cY a0 a0_a a0_image a0_texts a0_board a0_taken a0_fars a0_before a0_tape a0_pile a0_rows a0_told a0_values a0_truth a0_keeps v0) H := hP.sub [0, 1, 2, 3, 4, 5, 6, 7, 8, 9, 10, 11, 12, 13, 14] rfl
        have hD : va_D A (WS_X12_shoot cI cJ cZ cY a0 a0_a a0_image a0_texts a0_board a0_taken a0_fars a0_before a0_tape a0_pile a0_rows a0_told a0_values a0_truth a0_keeps v0) := hD.sub [0, 1, 2, 3, 4, 5, 6, 7, 8, 9, 10, 11, 12, 13, 14] (by decide) rfl
        refine lv_if_eq (tgt := 87) hx hb dX12_shoot_69 (by decide) (fun c_7 => ?_) (fun c_7 => ?_)
        · have hg := g_it hg c_7
          have hg := Option.some.inj hg
          rw [hQ]
          exact W.vret hx hb hr (fun t ht hW => ⟨⟨(v0), rfl, hg, by rw [ht]; exact hP, hD⟩, hS.F ht⟩) hS.2.2 dX12_shoot_87
        · have hg := g_if hg c_7
          refine lv_iload hx hb dX12_shoot_72 (lv_at hl 0 rfl) ?_
          refine lv_iconst (v := 0) hx hb dX12_shoot_74 (by decide) ?_
          refine lv_aload_n hx hb dX12_shoot_75 rfl (lv_at hl 2 rfl) ?_
          refine va_get (ci := 11) (v := .int (pX12_h v0)) (C := RX12) (T := TX12) (N := 43) hx hb htb uX12 hown hK.1 hP 0 rfl rfl 1 (by decide) (htb _ tg_937) (fun _ h9 => h9) rfl dX12_shoot_76 ?_
          refine lv_iconst (v := 1) hx hb dX12_shoot_79 (by decide) ?_
          refine lv_isub hx hb dX12_shoot_80 ?_
          obtain ⟨r_8, hr_8, hg⟩ := g_bd hg
          refine cc_i (va_runS (As := [.int r_5, .int 0, .int ((pX12_h v0) - 1)]) (rest := []) ⟨hx, hb, hml, hown, htb⟩ (k_X12_isIn r_5 0 ((pX12_h v0) - 1) r_8 hr_8) (cw_S 3 htb tg_1078 tg_13 tg_1076 tg_1077 rfl rfl (by decide +kernel) ⟨Nat.le_of_ble_eq_true rfl, Nat.le_of_ble_eq_true rfl⟩) ⟨PC.blind, PC.pre hK hT hP hD hS hA [] rfl (by decide)⟩ rfl rfl hl.1 rfl (lv_room (Nat.le_of_ble_eq_true rfl)) dX12_shoot_81 ⟨Nat.le_of_ble_eq_true rfl, Nat.le_of_ble_eq_true rfl⟩) hP hD hS hA [] [0, 1, 2, 3, 4, 5, 6, 7, 8, 9, 10, 11, 12, 13, 14] rfl rfl (by decide) (by decide) (fun r9 u9 H locs hw hP hD hS => ?_)
          have hw := hw.symm
          subst hw
          have hP : va_P D vwCl (WS_X12_shoot cI cJ cZ cY a0 a0_a a0_image a0_texts a0_board a0_taken a0_fars a0_before a0_tape a0_pile a0_rows a0_told a0_values a0_truth a0_keeps v0) H := hP.sub [0, 1, 2, 3, 4, 5, 6, 7, 8, 9, 10, 11, 12, 13, 14] rfl
          have hD : va_D A (WS_X12_shoot cI cJ cZ cY a0 a0_a a0_image a0_texts a0_board a0_taken a0_fars a0_before a0_tape a0_pile a0_rows a0_told a0_values a0_truth a0_keeps v0) := hD.sub [0, 1, 2, 3, 4, 5, 6, 7, 8, 9, 10, 11, 12, 13, 14] (by decide) rfl
          refine lv_if_ne (tgt := 88) hx hb dX12_shoot_84 (by decide) (fun c_9 => ?_) (fun c_9 => ?_)
          · have hg := g_if hg c_9
            refine lv_aload_n hx hb dX12_shoot_88 rfl (lv_at hl 2 rfl) ?_
            refine va_get (ci := 11) (v := .ref a0_board) (C := RX12) (T := TX12) (N := 43) hx hb htb uX12 hown hK.1 hP 0 rfl rfl 5 (by decide) (htb _ tg_941) (fun _ h9 => h9) rfl dX12_shoot_89 ?_
            refine lv_iload hx hb dX12_shoot_92 (lv_at hl 0 rfl) ?_
            refine lv_aload_n hx hb dX12_shoot_94 rfl (lv_at hl 2 rfl) ?_
            refine va_get (ci := 11) (v := .int (pX12_w v0)) (C := RX12) (T := TX12) (N := 43) hx hb htb uX12 hown hK.1 hP 0 rfl rfl 0 (by decide) (htb _ tg_936) (fun _ h9 => h9) rfl dX12_shoot_95 ?_
            refine lv_imul hx hb dX12_shoot_98 ?_
            refine lv_iload hx hb dX12_shoot_99 (lv_at hl 1 rfl) ?_
            refine lv_iadd hx hb dX12_shoot_101 ?_
            obtain ⟨h_10, hg⟩ := g_gde hg
            refine va_iald hx hb hK.1 hP 4 0 rfl rfl (inB_vp h_10) dX12_shoot_102 ?_
            refine lv_if_ne (tgt := 109) hx hb dX12_shoot_103 (by decide) (fun c_11 => ?_) (fun c_11 => ?_)
            · have hg := g_if hg c_11
              refine lv_aload_n hx hb dX12_shoot_109 rfl (lv_at hl 2 rfl) ?_
              refine va_get (ci := 11) (v := .ref a0_taken) (C := RX12) (T := TX12) (N := 43) hx hb htb uX12 hown hK.1 hP 0 rfl rfl 6 (by decide) (htb _ tg_942) (fun _ h9 => h9) rfl dX12_shoot_110 ?_
              refine lv_iload_n hx hb dX12_shoot_113 rfl (lv_at hl 5 rfl) ?_
              refine lv_aload_n hx hb dX12_shoot_114 rfl (lv_at hl 2 rfl) ?_
              refine va_get (ci := 11) (v := .ref a0_board) (C := RX12) (T := TX12) (N := 43) hx hb htb uX12 hown hK.1 hP 0 rfl rfl 5 (by decide) (htb _ tg_941) (fun _ h9 => h9) rfl dX12_shoot_115 ?_
              refine lv_iload hx hb dX12_shoot_118 (lv_at hl 0 rfl) ?_
              refine lv_aload_n hx hb dX12_shoot_120 rfl (lv_at hl 2 rfl) ?_
              refine va_get (ci := 11) (v := .int (pX12_w v0)) (C := RX12) (T := TX12) (N := 43) hx hb htb uX12 hown hK.1 hP 0 rfl rfl 0 (by decide) (htb _ tg_936) (fun _ h9 => h9) rfl dX12_shoot_121 ?_
              refine lv_imul hx hb dX12_shoot_124 ?_
              refine lv_iload hx hb dX12_shoot_125 (lv_at hl 1 rfl) ?_
              refine lv_iadd hx hb dX12_shoot_127 ?_
              obtain ⟨h_12, hg⟩ := g_gde hg
              refine va_iald hx hb hK.1 hP 4 0 rfl rfl (inB_vp h_12) dX12_shoot_128 ?_
              refine lv_topi (fun x_13 ex_13 => ?_)
              have hg := g_lte hg x_13 ex_13
              obtain ⟨h_14, hg⟩ := g_gde hg
              refine va_iast hx hb hK.1 hP hD hS 5 0 rfl rfl (inB_vp h_14) dX12_shoot_129 (fun H locs hP hD hS => ?_)
              obtain ⟨v0_15, ev0_15⟩ : ∃ z, z = sX12_taken v0 (upd (pX12_taken v0) (x3 : Int32).toNatClampNeg x_13) := ⟨_, rfl⟩
              have hP : va_P D vwCl (WS_X12_shoot cI cJ cZ cY a0 a0_a a0_image a0_texts a0_board a0_taken a0_fars a0_before a0_tape a0_pile a0_rows a0_told a0_values a0_truth a0_keeps v0_15) H := by rw [ev0_15]; exact hP
              have hD : va_D A (WS_X12_shoot cI cJ cZ cY a0 a0_a a0_image a0_texts a0_board a0_taken a0_fars a0_before a0_tape a0_pile a0_rows a0_told a0_values a0_truth a0_keeps v0_15) := by rw [ev0_15]; exact hD
              have hg := g_lte hg v0_15 ev0_15
              refine lv_aload_n hx hb dX12_shoot_130 rfl (lv_at hl 2 rfl) ?_
              refine va_get (ci := 11) (v := .ref a0_fars) (C := RX12) (T := TX12) (N := 43) hx hb htb uX12 hown hK.1 hP 0 rfl rfl 7 (by decide) (htb _ tg_943) (fun _ h9 => h9) rfl dX12_shoot_131 ?_
              refine lv_iload_n hx hb dX12_shoot_134 rfl (lv_at hl 5 rfl) ?_
              refine lv_iload hx hb dX12_shoot_135 (lv_at hl 6 rfl) ?_
              obtain ⟨h_16, hg⟩ := g_gde hg
              refine va_iast hx hb hK.1 hP hD hS 6 0 rfl rfl (inB_vp h_16) dX12_shoot_137 (fun H locs hP hD hS => ?_)
              obtain ⟨v0_17, ev0_17⟩ : ∃ z, z = sX12_fars v0_15 (upd (pX12_fars v0_15) (x3 : Int32).toNatClampNeg x4) := ⟨_, rfl⟩
              have hP : va_P D vwCl (WS_X12_shoot cI cJ cZ cY a0 a0_a a0_image a0_texts a0_board a0_taken a0_fars a0_before a0_tape a0_pile a0_rows a0_told a0_values a0_truth a0_keeps v0_17) H := by rw [ev0_17]; exact hP
              have hD : va_D A (WS_X12_shoot cI cJ cZ cY a0 a0_a a0_image a0_texts a0_board a0_taken a0_fars a0_before a0_tape a0_pile a0_rows a0_told a0_values a0_truth a0_keeps v0_17) := by rw [ev0_17]; exact hD
              have hg := g_lte hg v0_17 ev0_17
              have hg := Option.some.inj hg
              rw [hQ]
              exact W.vret hx hb hr (fun t ht hW => ⟨⟨(v0_17), rfl, hg, by rw [ht]; exact hP, hD⟩, hS.F ht⟩) hS.2.2 dX12_shoot_138
            · have hg := g_it hg c_11
              refine lv_goto (tgt := 139) hx hb dX12_shoot_106 (by decide) ?_
              obtain ⟨x4_18, ex4_18⟩ : ∃ z : Int32, z = x4 + 1 := ⟨_, rfl⟩
              have hg := g_lte hg x4_18 ex4_18
              refine lv_iinc (v := x4_18) (lv' := [(4, .int x4_18), (6, .int r_5), (5, .int r_3), (0, .ref a0), (1, .int x1), (2, .int x2), (3, .int x3)]) hx hb dX12_shoot_139 hl (k := 6) rfl (by rw [ex4_18]; rfl) (by decide) rfl (fun ls hl => ?_)
              refine lv_goto (tgt := 18) hx hb dX12_shoot_142 (by decide) ?_
              exact ih x1 x2 x3 x4_18 v0 H locs ls hP hD hS (lv_sub hl [3, 4, 5, 6, 0] rfl) hg
          · have hg := g_it hg c_9
            have hg := Option.some.inj hg
            rw [hQ]
            exact W.vret hx hb hr (fun t ht hW => ⟨⟨(v0), rfl, hg, by rw [ht]; exact hP, hD⟩, hS.F ht⟩) hS.2.2 dX12_shoot_87
  generalize hHe : s.heap = H at hP ⊢
  have hS : va_S A s.heap H [] := by rw [← hHe]; exact va_S.rf
  generalize ([] : List Loc) = locs at hS ⊢
  unfold f_X12_shoot at hg
  refine lv_aload_n hx hb dX12_shoot_0 rfl (lv_at hl 0 rfl) ?_
  refine va_get (ci := 11) (v := .ref a0_taken) (C := RX12) (T := TX12) (N := 43) hx hb htb uX12 hown hK.1 hP 0 rfl rfl 6 (by decide) (htb _ tg_942) (fun _ h9 => h9) rfl dX12_shoot_1 ?_
  refine lv_iload_n hx hb dX12_shoot_4 rfl (lv_at hl 3 rfl) ?_
  refine lv_iconst (v := 0) hx hb dX12_shoot_5 (by decide) ?_
  obtain ⟨h_19, hg⟩ := g_gde hg
  refine va_iast hx hb hK.1 hP hD hS 5 0 rfl rfl (inB_vp h_19) dX12_shoot_6 (fun H locs hP hD hS => ?_)
  obtain ⟨v0_20, ev0_20⟩ : ∃ z, z = sX12_taken v0 (upd (pX12_taken v0) (p2 : Int32).toNatClampNeg 0) := ⟨_, rfl⟩
  have hP : va_P D vwCl (WS_X12_shoot cI cJ cZ cY a0 a0_a a0_image a0_texts a0_board a0_taken a0_fars a0_before a0_tape a0_pile a0_rows a0_told a0_values a0_truth a0_keeps v0_20) H := by rw [ev0_20]; exact hP
  have hD : va_D A (WS_X12_shoot cI cJ cZ cY a0 a0_a a0_image a0_texts a0_board a0_taken a0_fars a0_before a0_tape a0_pile a0_rows a0_told a0_values a0_truth a0_keeps v0_20) := by rw [ev0_20]; exact hD
  have hg := g_lte hg v0_20 ev0_20
  refine lv_aload_n hx hb dX12_shoot_7 rfl (lv_at hl 0 rfl) ?_
  refine va_get (ci := 11) (v := .ref a0_fars) (C := RX12) (T := TX12) (N := 43) hx hb htb uX12 hown hK.1 hP 0 rfl rfl 7 (by decide) (htb _ tg_943) (fun _ h9 => h9) rfl dX12_shoot_8 ?_
  refine lv_iload_n hx hb dX12_shoot_11 rfl (lv_at hl 3 rfl) ?_
  refine lv_bipush (v := 41) hx hb dX12_shoot_12 (by decide) ?_
  obtain ⟨h_21, hg⟩ := g_gde hg
  refine va_iast hx hb hK.1 hP hD hS 6 0 rfl rfl (inB_vp h_21) dX12_shoot_14 (fun H locs hP hD hS => ?_)
  obtain ⟨v0_22, ev0_22⟩ : ∃ z, z = sX12_fars v0_20 (upd (pX12_fars v0_20) (p2 : Int32).toNatClampNeg 41) := ⟨_, rfl⟩
  have hP : va_P D vwCl (WS_X12_shoot cI cJ cZ cY a0 a0_a a0_image a0_texts a0_board a0_taken a0_fars a0_before a0_tape a0_pile a0_rows a0_told a0_values a0_truth a0_keeps v0_22) H := by rw [ev0_22]; exact hP
  have hD : va_D A (WS_X12_shoot cI cJ cZ cY a0 a0_a a0_image a0_texts a0_board a0_taken a0_fars a0_before a0_tape a0_pile a0_rows a0_told a0_values a0_truth a0_keeps v0_22) := by rw [ev0_22]; exact hD
  have hg := g_lte hg v0_22 ev0_22
  refine lv_iconst (v := 1) hx hb dX12_shoot_15 (by decide) ?_
  refine lv_istore (lv' := [(4, .int 1), (0, .ref a0), (1, .int p0), (2, .int p1), (3, .int p2)]) hx hb dX12_shoot_16 hl (by decide) rfl (fun ls hl => ?_)
  exact b_18 fU p0 p1 p2 1 v0_22 H locs ls hP hD hS (lv_sub hl [1, 2, 3, 4, 0] rfl) hg

/-! ManyEyesModel.look(III)V -/
def WS_X12_look (cI cJ cZ cY : ClassId) (a0 a0_a a0_image a0_texts a0_board a0_taken a0_fars a0_before a0_tape a0_pile a0_rows a0_told a0_values a0_truth a0_keeps : Nat) (v0 : BX12) : va_W := (GX12 cI cJ cZ cY a0 a0_a a0_image a0_texts a0_board a0_taken a0_fars a0_before a0_tape a0_pile a0_rows a0_told a0_values a0_truth a0_keeps v0)
def f_X12_look_b8B (J8 : Int32 × Int32 × Int32 × BX12 → Option (BX12)) (x1 : Int32) (x2 : Int32) (x4 : Int32) (v0 : BX12) : Option (BX12) := if (64 : Int32) ≤ x4 then (some (v0)) else ((f_X12_shoot v0 x1 x2 x4).bind (fun r_2 => g_lt (x4 + 1 : Int32) (fun x4_3 => J8 (x1, x2, x4_3, r_2))))
def f_X12_look_b8 : Nat → (Int32 × Int32 × Int32 × BX12) → Option (BX12) := g_lp (fun J z => f_X12_look_b8B J z.1 z.2.1 z.2.2.1 z.2.2.2)
def f_X12_look (v0 : BX12) (p0 : Int32) (p1 : Int32) (p2 : Int32) : Option (BX12) := (f_X12_lay v0 p2).bind (fun r_4 => f_X12_look_b8 fU (p0, p1, 0, r_4))
abbrev rm_X12_look : Room := { frames := 3, cells := 0, slots := 0, locals := 68 }
set_option maxHeartbeats 4000000 in
set_option maxRecDepth 100000 in
theorem k_X12_look {l : Launch} {D : va_G} {cI cJ cZ cY : ClassId} {tX tY : Nat} {sz : Nat} (a0 a0_a a0_image a0_texts a0_board a0_taken a0_fars a0_before a0_tape a0_pile a0_rows a0_told a0_values a0_truth a0_keeps : Nat) (v0 : BX12) (p0 : Int32) (p1 : Int32) (p2 : Int32) (res : BX12) (hg : f_X12_look v0 p0 p1 p2 = some res) : Met l yX12_look (Cond.code yX12_look cX12_look 5 none :: TB) rm_X12_look (PC D cI cJ cZ cY tX tY [.ref a0, .int p0, .int p1, .int p2] (WS_X12_look cI cJ cZ cY a0 a0_a a0_image a0_texts a0_board a0_taken a0_fars a0_before a0_tape a0_pile a0_rows a0_told a0_values a0_truth a0_keeps v0) sz) (va_Qv (fun (u : BX12) => u = res) (BC D (fun u : BX12 => WS_X12_look cI cJ cZ cY a0 a0_a a0_image a0_texts a0_board a0_taken a0_fars a0_before a0_tape a0_pile a0_rows a0_told a0_values a0_truth a0_keeps u) (va_A (WS_X12_look cI cJ cZ cY a0 a0_a a0_image a0_texts a0_board a0_taken a0_fars a0_before a0_tape a0_pile a0_rows a0_told a0_values a0_truth a0_keeps v0) sz)) (va_A (WS_X12_look cI cJ cZ cY a0 a0_a a0_image a0_texts a0_board a0_taken a0_fars a0_before a0_tape a0_pile a0_rows a0_told a0_values a0_truth a0_keeps v0) sz)) 0 0 (va_A (WS_X12_look cI cJ cZ cY a0 a0_a a0_image a0_texts a0_board a0_taken a0_fars a0_before a0_tape a0_pile a0_rows a0_told a0_values a0_truth a0_keeps v0) sz) := by
  refine Met.ofW (cc := cX12_look) (maxL := 5) (ret := none) (by decide) rfl ?_
  intro p e s m args below meth c s₁ B hml hv
  obtain ⟨hargs, hsz, hP, hK, hD0, hT⟩ := hv
  have hx := B.exec
  have hb := B.bytes
  have hr := B.returns
  have htb : ∀ w ∈ TB, w.before args s = true := fun w h => atoms_spec (ws := Cond.code yX12_look cX12_look 5 none :: TB) B.pre w (List.mem_cons_of_mem _ h)
  have hown : s.vm.findClass "ManyEyesModel" = some m.cls := findClass_of_methodNamed B.named
  have hlocks := B.notSynchronized
  subst hsz
  have hD := hD0.self (sz := s.heap.size)
  generalize hAe : va_A (WS_X12_look cI cJ cZ cY a0 a0_a a0_image a0_texts a0_board a0_taken a0_fars a0_before a0_tape a0_pile a0_rows a0_told a0_values a0_truth a0_keeps v0) s.heap.size = A at hD hT ⊢
  have hA : ∀ q : Nat, s.heap.size ≤ q → A q := fun q h => by rw [← hAe]; exact Or.inr h
  have hS : va_S A s.heap s.heap [] := va_S.rf
  have hl := lv_entry ([.ref a0, .int p0, .int p1, .int p2]) (n := 5) (Nat.le_of_ble_eq_true rfl)
  have he : entryFrame m args 5 = F0 m 0 (lg_sl ([.ref a0, .int p0, .int p1, .int p2]) ++ List.replicate (5 - (lg_sl ([.ref a0, .int p0, .int p1, .int p2])).length) Slot.unset).toArray [] := by rw [hargs, lg_entry_eq]
  rw [he]
  generalize (lg_sl ([.ref a0, .int p0, .int p1, .int p2]) ++ List.replicate (5 - (lg_sl ([.ref a0, .int p0, .int p1, .int p2])).length) Slot.unset).toArray = ls at hl ⊢
  have hl : lv_has ls 5 [(0, .ref a0), (1, .int p0), (2, .int p1), (3, .int p2)] := hl
  show W p l e rm_X12_look s m args below meth c s.heap [] 0 0 _ _
  refine W.genQ (fun Q hQ => ?_)
  have b_8 : ∀ (n : Nat), ∀ (x1 : Int32) (x2 : Int32) (x4 : Int32) (v0 : BX12) (H : Heap) (locs : List Loc) (ls : Array Slot), va_P D vwCl (WS_X12_look cI cJ cZ cY a0 a0_a a0_image a0_texts a0_board a0_taken a0_fars a0_before a0_tape a0_pile a0_rows a0_told a0_values a0_truth a0_keeps v0) H → va_D A (WS_X12_look cI cJ cZ cY a0 a0_a a0_image a0_texts a0_board a0_taken a0_fars a0_before a0_tape a0_pile a0_rows a0_told a0_values a0_truth a0_keeps v0) → va_S A s.heap H locs → lv_has ls 5 [(0, .ref a0), (1, .int x1), (2, .int x2), (4, .int x4)] → f_X12_look_b8 n (x1, x2, x4, v0) = some res → W p l e rm_X12_look s m args below meth c H locs 0 0 Q (F0 m 8 ls []) := by
    intro n
    induction n with
    | zero =>
      intro x1 x2 x4 v0 H locs ls hP hD hS hl hg
      exact (g_lp0 hg).elim
    | succ n ih =>
      intro x1 x2 x4 v0 H locs ls hP hD hS hl hg
      have hg : f_X12_look_b8B (f_X12_look_b8 n) x1 x2 x4 v0 = some res := hg
      unfold f_X12_look_b8B at hg
      refine lv_iload hx hb dX12_look_8 (lv_at hl 3 rfl) ?_
      refine lv_bipush (v := 64) hx hb dX12_look_10 (by decide) ?_
      refine lv_icmp_ge (tgt := 29) hx hb dX12_look_12 (by decide) (fun c_1 => ?_) (fun c_1 => ?_)
      · have hg := g_it hg c_1
        have hg := Option.some.inj hg
        rw [hQ]
        exact W.vret hx hb hr (fun t ht hW => ⟨⟨(v0), rfl, hg, by rw [ht]; exact hP, hD⟩, hS.F ht⟩) hS.2.2 dX12_look_29
      · have hg := g_if hg c_1
        refine lv_aload_n hx hb dX12_look_15 rfl (lv_at hl 0 rfl) ?_
        refine lv_iload_n hx hb dX12_look_16 rfl (lv_at hl 1 rfl) ?_
        refine lv_iload_n hx hb dX12_look_17 rfl (lv_at hl 2 rfl) ?_
        refine lv_iload hx hb dX12_look_18 (lv_at hl 3 rfl) ?_
        obtain ⟨r_2, hr_2, hg⟩ := g_bd hg
        refine cc_v (va_runV (C := RX12) (As := [.int x1, .int x2, .int x4]) (rest := []) ⟨hx, hb, hml, hown, htb⟩ (k_X12_shoot a0 a0_a a0_image a0_texts a0_board a0_taken a0_fars a0_before a0_tape a0_pile a0_rows a0_told a0_values a0_truth a0_keeps v0 x1 x2 x4 r_2 hr_2) (cw_V 3 htb tg_1116 tg_13 tg_1113 tg_1115 ts_33 rfl rfl (by decide +kernel) ⟨Nat.le_of_ble_eq_true rfl, Nat.le_of_ble_eq_true rfl⟩) ⟨PC.blind, va_recv hK.1 hP (ci := 11) (q0 := 0) rfl rfl, PC.pre hK hT hP hD hS hA [0, 1, 2, 3, 4, 5, 6, 7, 8, 9, 10, 11, 12, 13, 14] rfl (by decide)⟩ rfl rfl hl.1 rfl (lv_room (Nat.le_of_ble_eq_true rfl)) dX12_look_20 ⟨Nat.le_of_ble_eq_true rfl, Nat.le_of_ble_eq_true rfl⟩) hP hD hS hA [0, 1, 2, 3, 4, 5, 6, 7, 8, 9, 10, 11, 12, 13, 14] [] rfl rfl (by decide) (by decide) (fun u9 H locs hw hP hD hS => ?_)
        have hw := hw.symm
        subst hw
        have hP : va_P D vwCl (WS_X12_look cI cJ cZ cY a0 a0_a a0_image a0_texts a0_board a0_taken a0_fars a0_before a0_tape a0_pile a0_rows a0_told a0_values a0_truth a0_keeps r_2) H := hP.sub [0, 1, 2, 3, 4, 5, 6, 7, 8, 9, 10, 11, 12, 13, 14] rfl
        have hD : va_D A (WS_X12_look cI cJ cZ cY a0 a0_a a0_image a0_texts a0_board a0_taken a0_fars a0_before a0_tape a0_pile a0_rows a0_told a0_values a0_truth a0_keeps r_2) := hD.sub [0, 1, 2, 3, 4, 5, 6, 7, 8, 9, 10, 11, 12, 13, 14] (by decide) rfl
        obtain ⟨x4_3, ex4_3⟩ : ∃ z : Int32, z = x4 + 1 := ⟨_, rfl⟩
        have hg := g_lte hg x4_3 ex4_3
        refine lv_iinc (v := x4_3) (lv' := [(4, .int x4_3), (0, .ref a0), (1, .int x1), (2, .int x2)]) hx hb dX12_look_23 hl (k := 3) rfl (by rw [ex4_3]; rfl) (by decide) rfl (fun ls hl => ?_)
        refine lv_goto (tgt := 8) hx hb dX12_look_26 (by decide) ?_
        exact ih x1 x2 x4_3 r_2 H locs ls hP hD hS (lv_sub hl [1, 2, 3, 0] rfl) hg
  generalize hHe : s.heap = H at hP ⊢
  have hS : va_S A s.heap H [] := by rw [← hHe]; exact va_S.rf
  generalize ([] : List Loc) = locs at hS ⊢
  unfold f_X12_look at hg
  refine lv_aload_n hx hb dX12_look_0 rfl (lv_at hl 0 rfl) ?_
  refine lv_iload_n hx hb dX12_look_1 rfl (lv_at hl 3 rfl) ?_
  obtain ⟨r_4, hr_4, hg⟩ := g_bd hg
  refine cc_v (va_runV (C := RX12) (As := [.int p2]) (rest := []) ⟨hx, hb, hml, hown, htb⟩ (k_X12_lay a0 a0_a a0_image a0_texts a0_board a0_taken a0_fars a0_before a0_tape a0_pile a0_rows a0_told a0_values a0_truth a0_keeps v0 p2 r_4 hr_4) (cw_V 1 htb tg_1112 tg_13 tg_1109 tg_1111 ts_32 rfl rfl (by decide +kernel) ⟨Nat.le_of_ble_eq_true rfl, Nat.le_of_ble_eq_true rfl⟩) ⟨PC.blind, va_recv hK.1 hP (ci := 11) (q0 := 0) rfl rfl, PC.pre hK hT hP hD hS hA [0, 1, 2, 3, 4, 5, 6, 7, 8, 9, 10, 11, 12, 13, 14] rfl (by decide)⟩ rfl rfl hl.1 rfl (lv_room (Nat.le_of_ble_eq_true rfl)) dX12_look_2 ⟨Nat.le_of_ble_eq_true rfl, Nat.le_of_ble_eq_true rfl⟩) hP hD hS hA [0, 1, 2, 3, 4, 5, 6, 7, 8, 9, 10, 11, 12, 13, 14] [] rfl rfl (by decide) (by decide) (fun u9 H locs hw hP hD hS => ?_)
  have hw := hw.symm
  subst hw
  have hP : va_P D vwCl (WS_X12_look cI cJ cZ cY a0 a0_a a0_image a0_texts a0_board a0_taken a0_fars a0_before a0_tape a0_pile a0_rows a0_told a0_values a0_truth a0_keeps r_4) H := hP.sub [0, 1, 2, 3, 4, 5, 6, 7, 8, 9, 10, 11, 12, 13, 14] rfl
  have hD : va_D A (WS_X12_look cI cJ cZ cY a0 a0_a a0_image a0_texts a0_board a0_taken a0_fars a0_before a0_tape a0_pile a0_rows a0_told a0_values a0_truth a0_keeps r_4) := hD.sub [0, 1, 2, 3, 4, 5, 6, 7, 8, 9, 10, 11, 12, 13, 14] (by decide) rfl
  refine lv_iconst (v := 0) hx hb dX12_look_5 (by decide) ?_
  refine lv_istore (lv' := [(4, .int 0), (0, .ref a0), (1, .int p0), (2, .int p1), (3, .int p2)]) hx hb dX12_look_6 hl (by decide) rfl (fun ls hl => ?_)
  exact b_8 fU p0 p1 0 r_4 H locs ls hP hD hS (lv_sub hl [1, 2, 3, 0] rfl) hg
