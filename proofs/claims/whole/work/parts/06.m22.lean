/-! ManyEyesModel.tick(II)I -/
def WS_X12_tick (cI cJ cZ cY : ClassId) (a0 a0_a a0_image a0_texts a0_board a0_taken a0_fars a0_before a0_tape a0_pile a0_rows a0_told a0_values a0_truth a0_keeps : Nat) (v0 : BX12) : va_W := (GX12 cI cJ cZ cY a0 a0_a a0_image a0_texts a0_board a0_taken a0_fars a0_before a0_tape a0_pile a0_rows a0_told a0_values a0_truth a0_keeps v0)
def f_X12_tick_b125 (v0 : BX12) : Option (Int32) := some (-10000000)
def f_X12_tick_b84 (v0 : BX12) (x2 : Int32) (x3 : Int32) : Option (Int32) := if (x2 : Int32) < 200 then (f_X12_tick_b125 v0 ) else (g_gd (inB 888 3170) (if (((200 : Int32) + ((pX12_a v0) (888 : Int32).toNatClampNeg)) : Int32) ≤ x2 then (f_X12_tick_b125 v0 ) else (g_gd (inB (((x3 + 21) + x2) - 200) 3170) (some ((pX12_a v0) ((((x3 + 21) + x2) - 200) : Int32).toNatClampNeg)))))
def f_X12_tick (v0 : BX12) (p0 : Int32) (p1 : Int32) : Option (Int32) := g_gd (inB 880 3170) ((f_X12_isIn p0 0 (((pX12_a v0) (880 : Int32).toNatClampNeg) - 1)).bind (fun r_6 => if (r_6 : Int32) = 0 then (some (-10000000)) else (g_lt (((890 : Int32) + ((38 : Int32) * p0)) : Int32) (fun x3_8 => (f_X12_isIn p1 0 4).bind (fun r_9 => if (r_9 : Int32) = 0 then (if (p1 : Int32) < 100 then (f_X12_tick_b84 v0 p1 x3_8) else (g_gd (inB 887 3170) (if (((100 : Int32) + ((pX12_a v0) (887 : Int32).toNatClampNeg)) : Int32) ≤ p1 then (f_X12_tick_b84 v0 p1 x3_8) else (g_gd (inB (((x3_8 + 5) + p1) - 100) 3170) (some ((pX12_a v0) ((((x3_8 + 5) + p1) - 100) : Int32).toNatClampNeg)))))) else (g_gd (inB (x3_8 + p1) 3170) (some ((pX12_a v0) ((x3_8 + p1) : Int32).toNatClampNeg))))))))
abbrev rm_X12_tick : Room := { frames := 1, cells := 0, slots := 0, locals := 22 }
set_option maxHeartbeats 4000000 in
set_option maxRecDepth 100000 in
theorem k_X12_tick {l : Launch} {D : va_G} {cI cJ cZ cY : ClassId} {tX tY : Nat} {sz : Nat} (a0 a0_a a0_image a0_texts a0_board a0_taken a0_fars a0_before a0_tape a0_pile a0_rows a0_told a0_values a0_truth a0_keeps : Nat) (v0 : BX12) (p0 : Int32) (p1 : Int32) (res : Int32) (hg : f_X12_tick v0 p0 p1 = some res) : Met l yX12_tick (Cond.code yX12_tick cX12_tick 4 (some .int) :: TB) rm_X12_tick (PC D cI cJ cZ cY tX tY [.ref a0, .int p0, .int p1] (WS_X12_tick cI cJ cZ cY a0 a0_a a0_image a0_texts a0_board a0_taken a0_fars a0_before a0_tape a0_pile a0_rows a0_told a0_values a0_truth a0_keeps v0) sz) (va_Qi (fun (r : Int32) (_ : Unit) => r = res) (BC D (fun _ : Unit => WS_X12_tick cI cJ cZ cY a0 a0_a a0_image a0_texts a0_board a0_taken a0_fars a0_before a0_tape a0_pile a0_rows a0_told a0_values a0_truth a0_keeps v0) (va_A (WS_X12_tick cI cJ cZ cY a0 a0_a a0_image a0_texts a0_board a0_taken a0_fars a0_before a0_tape a0_pile a0_rows a0_told a0_values a0_truth a0_keeps v0) sz)) (va_A (WS_X12_tick cI cJ cZ cY a0 a0_a a0_image a0_texts a0_board a0_taken a0_fars a0_before a0_tape a0_pile a0_rows a0_told a0_values a0_truth a0_keeps v0) sz)) 0 0 (va_A (WS_X12_tick cI cJ cZ cY a0 a0_a a0_image a0_texts a0_board a0_taken a0_fars a0_before a0_tape a0_pile a0_rows a0_told a0_values a0_truth a0_keeps v0) sz) := by
  refine Met.ofW (cc := cX12_tick) (maxL := 4) (ret := (some .int)) (by decide) rfl ?_
  intro p e s m args below meth c s₁ B hml hv
  obtain ⟨hargs, hsz, hP, hK, hD0, hT⟩ := hv
  have hx := B.exec
  have hb := B.bytes
  have hr := B.returns
  have htb : ∀ w ∈ TB, w.before args s = true := fun w h => atoms_spec (ws := Cond.code yX12_tick cX12_tick 4 (some .int) :: TB) B.pre w (List.mem_cons_of_mem _ h)
  have hown : s.vm.findClass "ManyEyesModel" = some m.cls := findClass_of_methodNamed B.named
  have hlocks := B.notSynchronized
  subst hsz
  have hD := hD0.self (sz := s.heap.size)
  generalize hAe : va_A (WS_X12_tick cI cJ cZ cY a0 a0_a a0_image a0_texts a0_board a0_taken a0_fars a0_before a0_tape a0_pile a0_rows a0_told a0_values a0_truth a0_keeps v0) s.heap.size = A at hD hT ⊢
  have hA : ∀ q : Nat, s.heap.size ≤ q → A q := fun q h => by rw [← hAe]; exact Or.inr h
  have hS : va_S A s.heap s.heap [] := va_S.rf
  have hl := lv_entry ([.ref a0, .int p0, .int p1]) (n := 4) (Nat.le_of_ble_eq_true rfl)
  have he : entryFrame m args 4 = F0 m 0 (lg_sl ([.ref a0, .int p0, .int p1]) ++ List.replicate (4 - (lg_sl ([.ref a0, .int p0, .int p1])).length) Slot.unset).toArray [] := by rw [hargs, lg_entry_eq]
  rw [he]
  generalize (lg_sl ([.ref a0, .int p0, .int p1]) ++ List.replicate (4 - (lg_sl ([.ref a0, .int p0, .int p1])).length) Slot.unset).toArray = ls at hl ⊢
  have hl : lv_has ls 4 [(0, .ref a0), (1, .int p0), (2, .int p1)] := hl
  show W p l e rm_X12_tick s m args below meth c s.heap [] 0 0 _ _
  refine W.genQ (fun Q hQ => ?_)
  have b_125 : ∀ (H : Heap) (locs : List Loc) (ls : Array Slot), va_P D vwCl (WS_X12_tick cI cJ cZ cY a0 a0_a a0_image a0_texts a0_board a0_taken a0_fars a0_before a0_tape a0_pile a0_rows a0_told a0_values a0_truth a0_keeps v0) H → va_D A (WS_X12_tick cI cJ cZ cY a0 a0_a a0_image a0_texts a0_board a0_taken a0_fars a0_before a0_tape a0_pile a0_rows a0_told a0_values a0_truth a0_keeps v0) → va_S A s.heap H locs → lv_has ls 4 [] → f_X12_tick_b125 v0  = some res → W p l e rm_X12_tick s m args below meth c H locs 0 0 Q (F0 m 125 ls []) := by
    intro  H locs ls hP hD hS hl hg
    unfold f_X12_tick_b125 at hg
    refine lv_ldcw (v := (-10000000)) hx hb hown (htb _ tg_1353) dX12_tick_125 ?_
    have hg := Option.some.inj hg
    rw [hQ]
    exact W.iret (v := (-10000000)) hx hb hr (fun t ht hW => ⟨⟨(-10000000), (), rfl, hg, by rw [ht]; exact hP, hD⟩, hS.F ht⟩) hS.2.2 dX12_tick_128
  have b_84 : ∀ (x2 : Int32) (x3 : Int32) (H : Heap) (locs : List Loc) (ls : Array Slot), va_P D vwCl (WS_X12_tick cI cJ cZ cY a0 a0_a a0_image a0_texts a0_board a0_taken a0_fars a0_before a0_tape a0_pile a0_rows a0_told a0_values a0_truth a0_keeps v0) H → va_D A (WS_X12_tick cI cJ cZ cY a0 a0_a a0_image a0_texts a0_board a0_taken a0_fars a0_before a0_tape a0_pile a0_rows a0_told a0_values a0_truth a0_keeps v0) → va_S A s.heap H locs → lv_has ls 4 [(0, .ref a0), (2, .int x2), (3, .int x3)] → f_X12_tick_b84 v0 x2 x3 = some res → W p l e rm_X12_tick s m args below meth c H locs 0 0 Q (F0 m 84 ls []) := by
    intro x2 x3 H locs ls hP hD hS hl hg
    unfold f_X12_tick_b84 at hg
    refine lv_iload_n hx hb dX12_tick_84 rfl (lv_at hl 1 rfl) ?_
    refine lv_sipush (v := 200) hx hb dX12_tick_85 (by decide) ?_
    refine lv_icmp_lt (tgt := 125) hx hb dX12_tick_88 (by decide) (fun c_1 => ?_) (fun c_1 => ?_)
    · have hg := g_it hg c_1
      exact b_125  H locs ls hP hD hS (lv_sub hl [] rfl) hg
    · have hg := g_if hg c_1
      refine lv_iload_n hx hb dX12_tick_91 rfl (lv_at hl 1 rfl) ?_
      refine lv_sipush (v := 200) hx hb dX12_tick_92 (by decide) ?_
      refine lv_aload_n hx hb dX12_tick_95 rfl (lv_at hl 0 rfl) ?_
      refine va_get (ci := 11) (v := .ref a0_a) (C := RX12) (T := TX12) (N := 43) hx hb htb uX12 hown hK.1 hP 0 rfl rfl 2 (by decide) (htb _ tg_938) (fun _ h9 => h9) rfl dX12_tick_96 ?_
      refine lv_sipush (v := 888) hx hb dX12_tick_99 (by decide) ?_
      obtain ⟨h_2, hg⟩ := g_gde hg
      refine va_iald hx hb hK.1 hP 1 0 rfl rfl (inB_vp h_2) dX12_tick_102 ?_
      refine lv_iadd hx hb dX12_tick_103 ?_
      refine lv_icmp_ge (tgt := 125) hx hb dX12_tick_104 (by decide) (fun c_3 => ?_) (fun c_3 => ?_)
      · have hg := g_it hg c_3
        exact b_125  H locs ls hP hD hS (lv_sub hl [] rfl) hg
      · have hg := g_if hg c_3
        refine lv_aload_n hx hb dX12_tick_107 rfl (lv_at hl 0 rfl) ?_
        refine va_get (ci := 11) (v := .ref a0_a) (C := RX12) (T := TX12) (N := 43) hx hb htb uX12 hown hK.1 hP 0 rfl rfl 2 (by decide) (htb _ tg_938) (fun _ h9 => h9) rfl dX12_tick_108 ?_
        refine lv_iload_n hx hb dX12_tick_111 rfl (lv_at hl 2 rfl) ?_
        refine lv_bipush (v := 21) hx hb dX12_tick_112 (by decide) ?_
        refine lv_iadd hx hb dX12_tick_114 ?_
        refine lv_iload_n hx hb dX12_tick_115 rfl (lv_at hl 1 rfl) ?_
        refine lv_iadd hx hb dX12_tick_116 ?_
        refine lv_sipush (v := 200) hx hb dX12_tick_117 (by decide) ?_
        refine lv_isub hx hb dX12_tick_120 ?_
        obtain ⟨h_4, hg⟩ := g_gde hg
        refine va_iald hx hb hK.1 hP 1 0 rfl rfl (inB_vp h_4) dX12_tick_121 ?_
        refine lv_goto (tgt := 128) hx hb dX12_tick_122 (by decide) ?_
        have hg := Option.some.inj hg
        rw [hQ]
        exact W.iret (v := ((pX12_a v0) ((((x3 + 21) + x2) - 200) : Int32).toNatClampNeg)) hx hb hr (fun t ht hW => ⟨⟨((pX12_a v0) ((((x3 + 21) + x2) - 200) : Int32).toNatClampNeg), (), rfl, hg, by rw [ht]; exact hP, hD⟩, hS.F ht⟩) hS.2.2 dX12_tick_128
  generalize hHe : s.heap = H at hP ⊢
  have hS : va_S A s.heap H [] := by rw [← hHe]; exact va_S.rf
  generalize ([] : List Loc) = locs at hS ⊢
  unfold f_X12_tick at hg
  refine lv_iload_n hx hb dX12_tick_0 rfl (lv_at hl 1 rfl) ?_
  refine lv_iconst (v := 0) hx hb dX12_tick_1 (by decide) ?_
  refine lv_aload_n hx hb dX12_tick_2 rfl (lv_at hl 0 rfl) ?_
  refine va_get (ci := 11) (v := .ref a0_a) (C := RX12) (T := TX12) (N := 43) hx hb htb uX12 hown hK.1 hP 0 rfl rfl 2 (by decide) (htb _ tg_938) (fun _ h9 => h9) rfl dX12_tick_3 ?_
  refine lv_sipush (v := 880) hx hb dX12_tick_6 (by decide) ?_
  obtain ⟨h_5, hg⟩ := g_gde hg
  refine va_iald hx hb hK.1 hP 1 0 rfl rfl (inB_vp h_5) dX12_tick_9 ?_
  refine lv_iconst (v := 1) hx hb dX12_tick_10 (by decide) ?_
  refine lv_isub hx hb dX12_tick_11 ?_
  obtain ⟨r_6, hr_6, hg⟩ := g_bd hg
  refine cc_i (va_runS (As := [.int p0, .int 0, .int (((pX12_a v0) (880 : Int32).toNatClampNeg) - 1)]) (rest := []) ⟨hx, hb, hml, hown, htb⟩ (k_X12_isIn p0 0 (((pX12_a v0) (880 : Int32).toNatClampNeg) - 1) r_6 hr_6) (cw_S 3 htb tg_1078 tg_13 tg_1076 tg_1077 rfl rfl (by decide +kernel) ⟨Nat.le_of_ble_eq_true rfl, Nat.le_of_ble_eq_true rfl⟩) ⟨PC.blind, PC.pre hK hT hP hD hS hA [] rfl (by decide)⟩ rfl rfl hl.1 rfl (lv_room (Nat.le_of_ble_eq_true rfl)) dX12_tick_12 ⟨Nat.le_of_ble_eq_true rfl, Nat.le_of_ble_eq_true rfl⟩) hP hD hS hA [] [0, 1, 2, 3, 4, 5, 6, 7, 8, 9, 10, 11, 12, 13, 14] rfl rfl (by decide) (by decide) (fun r9 u9 H locs hw hP hD hS => ?_)
  have hw := hw.symm
  subst hw
  have hP : va_P D vwCl (WS_X12_tick cI cJ cZ cY a0 a0_a a0_image a0_texts a0_board a0_taken a0_fars a0_before a0_tape a0_pile a0_rows a0_told a0_values a0_truth a0_keeps v0) H := hP.sub [0, 1, 2, 3, 4, 5, 6, 7, 8, 9, 10, 11, 12, 13, 14] rfl
  have hD : va_D A (WS_X12_tick cI cJ cZ cY a0 a0_a a0_image a0_texts a0_board a0_taken a0_fars a0_before a0_tape a0_pile a0_rows a0_told a0_values a0_truth a0_keeps v0) := hD.sub [0, 1, 2, 3, 4, 5, 6, 7, 8, 9, 10, 11, 12, 13, 14] (by decide) rfl
  refine lv_if_ne (tgt := 22) hx hb dX12_tick_15 (by decide) (fun c_7 => ?_) (fun c_7 => ?_)
  · have hg := g_if hg c_7
    refine lv_sipush (v := 890) hx hb dX12_tick_22 (by decide) ?_
    refine lv_bipush (v := 38) hx hb dX12_tick_25 (by decide) ?_
    refine lv_iload_n hx hb dX12_tick_27 rfl (lv_at hl 1 rfl) ?_
    refine lv_imul hx hb dX12_tick_28 ?_
    refine lv_iadd hx hb dX12_tick_29 ?_
    refine lv_topi (fun x3_8 ex3_8 => ?_)
    have hg := g_lte hg x3_8 ex3_8
    refine lv_istore_n (lv' := [(3, .int x3_8), (0, .ref a0), (1, .int p0), (2, .int p1)]) hx hb dX12_tick_30 rfl hl (by decide) rfl (fun ls hl => ?_)
    refine lv_iload_n hx hb dX12_tick_31 rfl (lv_at hl 3 rfl) ?_
    refine lv_iconst (v := 0) hx hb dX12_tick_32 (by decide) ?_
    refine lv_iconst (v := 4) hx hb dX12_tick_33 (by decide) ?_
    obtain ⟨r_9, hr_9, hg⟩ := g_bd hg
    refine cc_i (va_runS (As := [.int p1, .int 0, .int 4]) (rest := []) ⟨hx, hb, hml, hown, htb⟩ (k_X12_isIn p1 0 4 r_9 hr_9) (cw_S 3 htb tg_1078 tg_13 tg_1076 tg_1077 rfl rfl (by decide +kernel) ⟨Nat.le_of_ble_eq_true rfl, Nat.le_of_ble_eq_true rfl⟩) ⟨PC.blind, PC.pre hK hT hP hD hS hA [] rfl (by decide)⟩ rfl rfl hl.1 rfl (lv_room (Nat.le_of_ble_eq_true rfl)) dX12_tick_34 ⟨Nat.le_of_ble_eq_true rfl, Nat.le_of_ble_eq_true rfl⟩) hP hD hS hA [] [0, 1, 2, 3, 4, 5, 6, 7, 8, 9, 10, 11, 12, 13, 14] rfl rfl (by decide) (by decide) (fun r9 u9 H locs hw hP hD hS => ?_)
    have hw := hw.symm
    subst hw
    have hP : va_P D vwCl (WS_X12_tick cI cJ cZ cY a0 a0_a a0_image a0_texts a0_board a0_taken a0_fars a0_before a0_tape a0_pile a0_rows a0_told a0_values a0_truth a0_keeps v0) H := hP.sub [0, 1, 2, 3, 4, 5, 6, 7, 8, 9, 10, 11, 12, 13, 14] rfl
    have hD : va_D A (WS_X12_tick cI cJ cZ cY a0 a0_a a0_image a0_texts a0_board a0_taken a0_fars a0_before a0_tape a0_pile a0_rows a0_told a0_values a0_truth a0_keeps v0) := hD.sub [0, 1, 2, 3, 4, 5, 6, 7, 8, 9, 10, 11, 12, 13, 14] (by decide) rfl
    refine lv_if_eq (tgt := 49) hx hb dX12_tick_37 (by decide) (fun c_10 => ?_) (fun c_10 => ?_)
    · have hg := g_it hg c_10
      refine lv_iload_n hx hb dX12_tick_49 rfl (lv_at hl 3 rfl) ?_
      refine lv_bipush (v := 100) hx hb dX12_tick_50 (by decide) ?_
      refine lv_icmp_lt (tgt := 84) hx hb dX12_tick_52 (by decide) (fun c_11 => ?_) (fun c_11 => ?_)
      · have hg := g_it hg c_11
        exact b_84 p1 x3_8 H locs ls hP hD hS (lv_sub hl [1, 3, 0] rfl) hg
      · have hg := g_if hg c_11
        refine lv_iload_n hx hb dX12_tick_55 rfl (lv_at hl 3 rfl) ?_
        refine lv_bipush (v := 100) hx hb dX12_tick_56 (by decide) ?_
        refine lv_aload_n hx hb dX12_tick_58 rfl (lv_at hl 1 rfl) ?_
        refine va_get (ci := 11) (v := .ref a0_a) (C := RX12) (T := TX12) (N := 43) hx hb htb uX12 hown hK.1 hP 0 rfl rfl 2 (by decide) (htb _ tg_938) (fun _ h9 => h9) rfl dX12_tick_59 ?_
        refine lv_sipush (v := 887) hx hb dX12_tick_62 (by decide) ?_
        obtain ⟨h_12, hg⟩ := g_gde hg
        refine va_iald hx hb hK.1 hP 1 0 rfl rfl (inB_vp h_12) dX12_tick_65 ?_
        refine lv_iadd hx hb dX12_tick_66 ?_
        refine lv_icmp_ge (tgt := 84) hx hb dX12_tick_67 (by decide) (fun c_13 => ?_) (fun c_13 => ?_)
        · have hg := g_it hg c_13
          exact b_84 p1 x3_8 H locs ls hP hD hS (lv_sub hl [1, 3, 0] rfl) hg
        · have hg := g_if hg c_13
          refine lv_aload_n hx hb dX12_tick_70 rfl (lv_at hl 1 rfl) ?_
          refine va_get (ci := 11) (v := .ref a0_a) (C := RX12) (T := TX12) (N := 43) hx hb htb uX12 hown hK.1 hP 0 rfl rfl 2 (by decide) (htb _ tg_938) (fun _ h9 => h9) rfl dX12_tick_71 ?_
          refine lv_iload_n hx hb dX12_tick_74 rfl (lv_at hl 0 rfl) ?_
          refine lv_iconst (v := 5) hx hb dX12_tick_75 (by decide) ?_
          refine lv_iadd hx hb dX12_tick_76 ?_
          refine lv_iload_n hx hb dX12_tick_77 rfl (lv_at hl 3 rfl) ?_
          refine lv_iadd hx hb dX12_tick_78 ?_
          refine lv_bipush (v := 100) hx hb dX12_tick_79 (by decide) ?_
          refine lv_isub hx hb dX12_tick_81 ?_
          obtain ⟨h_14, hg⟩ := g_gde hg
          refine va_iald hx hb hK.1 hP 1 0 rfl rfl (inB_vp h_14) dX12_tick_82 ?_
          have hg := Option.some.inj hg
          rw [hQ]
          exact W.iret (v := ((pX12_a v0) ((((x3_8 + 5) + p1) - 100) : Int32).toNatClampNeg)) hx hb hr (fun t ht hW => ⟨⟨((pX12_a v0) ((((x3_8 + 5) + p1) - 100) : Int32).toNatClampNeg), (), rfl, hg, by rw [ht]; exact hP, hD⟩, hS.F ht⟩) hS.2.2 dX12_tick_83
    · have hg := g_if hg c_10
      refine lv_aload_n hx hb dX12_tick_40 rfl (lv_at hl 1 rfl) ?_
      refine va_get (ci := 11) (v := .ref a0_a) (C := RX12) (T := TX12) (N := 43) hx hb htb uX12 hown hK.1 hP 0 rfl rfl 2 (by decide) (htb _ tg_938) (fun _ h9 => h9) rfl dX12_tick_41 ?_
      refine lv_iload_n hx hb dX12_tick_44 rfl (lv_at hl 0 rfl) ?_
      refine lv_iload_n hx hb dX12_tick_45 rfl (lv_at hl 3 rfl) ?_
      refine lv_iadd hx hb dX12_tick_46 ?_
      obtain ⟨h_15, hg⟩ := g_gde hg
      refine va_iald hx hb hK.1 hP 1 0 rfl rfl (inB_vp h_15) dX12_tick_47 ?_
      have hg := Option.some.inj hg
      rw [hQ]
      exact W.iret (v := ((pX12_a v0) ((x3_8 + p1) : Int32).toNatClampNeg)) hx hb hr (fun t ht hW => ⟨⟨((pX12_a v0) ((x3_8 + p1) : Int32).toNatClampNeg), (), rfl, hg, by rw [ht]; exact hP, hD⟩, hS.F ht⟩) hS.2.2 dX12_tick_48
  · have hg := g_it hg c_7
    refine lv_ldcw (v := (-10000000)) hx hb hown (htb _ tg_1353) dX12_tick_18 ?_
    have hg := Option.some.inj hg
    rw [hQ]
    exact W.iret (v := (-10000000)) hx hb hr (fun t ht hW => ⟨⟨(-10000000), (), rfl, hg, by rw [ht]; exact hP, hD⟩, hS.F ht⟩) hS.2.2 dX12_tick_21

/-! java/lang/Integer.bitCount(I)I -/
def WS_J6_bitCount_0f7a4 (cI cJ cZ cY : ClassId) : va_W := []
def f_J6_bitCount_0f7a4 (p0 : Int32) : Option (Int32) := g_lt ((p0 - ((((p0 : Int32).toUInt32 >>> ((1 : Int32).toUInt32 &&& Int32.toUInt32 31)).toInt32) &&& 1431655765)) : Int32) (fun x0_1 => g_lt (((x0_1 &&& 858993459) + ((((x0_1 : Int32).toUInt32 >>> ((2 : Int32).toUInt32 &&& Int32.toUInt32 31)).toInt32) &&& 858993459)) : Int32) (fun x0_2 => g_lt (((x0_2 + (((x0_2 : Int32).toUInt32 >>> ((4 : Int32).toUInt32 &&& Int32.toUInt32 31)).toInt32)) &&& 252645135) : Int32) (fun x0_3 => g_lt ((x0_3 + (((x0_3 : Int32).toUInt32 >>> ((8 : Int32).toUInt32 &&& Int32.toUInt32 31)).toInt32)) : Int32) (fun x0_4 => g_lt ((x0_4 + (((x0_4 : Int32).toUInt32 >>> ((16 : Int32).toUInt32 &&& Int32.toUInt32 31)).toInt32)) : Int32) (fun x0_5 => some (x0_5 &&& 63))))))
abbrev rm_J6_bitCount_0f7a4 : Room := { frames := 0, cells := 0, slots := 0, locals := 0 }
set_option maxHeartbeats 4000000 in
set_option maxRecDepth 100000 in
theorem k_J6_bitCount_0f7a4 {l : Launch} {D : va_G} {cI cJ cZ cY : ClassId} {tX tY : Nat} {sz : Nat} (p0 : Int32) (res : Int32) (hg : f_J6_bitCount_0f7a4 p0 = some res) : Met l yJ6_bitCount_0f7a4 (Cond.code yJ6_bitCount_0f7a4 cJ6_bitCount_0f7a4 1 (some .int) :: TB) rm_J6_bitCount_0f7a4 (PC D cI cJ cZ cY tX tY [.int p0] (WS_J6_bitCount_0f7a4 cI cJ cZ cY) sz) (va_Qi (fun (r : Int32) (_ : Unit) => r = res) (BC D (fun _ : Unit => WS_J6_bitCount_0f7a4 cI cJ cZ cY) (va_A (WS_J6_bitCount_0f7a4 cI cJ cZ cY) sz)) (va_A (WS_J6_bitCount_0f7a4 cI cJ cZ cY) sz)) 0 0 (va_A (WS_J6_bitCount_0f7a4 cI cJ cZ cY) sz) := by
  refine Met.ofW (cc := cJ6_bitCount_0f7a4) (maxL := 1) (ret := (some .int)) (by decide) rfl ?_
  intro p e s m args below meth c s₁ B hml hv
  obtain ⟨hargs, hsz, hP, hK, hD0, hT⟩ := hv
  have hx := B.exec
  have hb := B.bytes
  have hr := B.returns
  have htb : ∀ w ∈ TB, w.before args s = true := fun w h => atoms_spec (ws := Cond.code yJ6_bitCount_0f7a4 cJ6_bitCount_0f7a4 1 (some .int) :: TB) B.pre w (List.mem_cons_of_mem _ h)
  have hown : s.vm.findClass "java/lang/Integer" = some m.cls := findClass_of_methodNamed B.named
  have hlocks := B.notSynchronized
  subst hsz
  have hD := hD0.self (sz := s.heap.size)
  generalize hAe : va_A (WS_J6_bitCount_0f7a4 cI cJ cZ cY) s.heap.size = A at hD hT ⊢
  have hA : ∀ q : Nat, s.heap.size ≤ q → A q := fun q h => by rw [← hAe]; exact Or.inr h
  have hS : va_S A s.heap s.heap [] := va_S.rf
  have hl := lv_entry ([.int p0]) (n := 1) (Nat.le_of_ble_eq_true rfl)
  have he : entryFrame m args 1 = F0 m 0 (lg_sl ([.int p0]) ++ List.replicate (1 - (lg_sl ([.int p0])).length) Slot.unset).toArray [] := by rw [hargs, lg_entry_eq]
  rw [he]
  generalize (lg_sl ([.int p0]) ++ List.replicate (1 - (lg_sl ([.int p0])).length) Slot.unset).toArray = ls at hl ⊢
  have hl : lv_has ls 1 [(0, .int p0)] := hl
  show W p l e rm_J6_bitCount_0f7a4 s m args below meth c s.heap [] 0 0 _ _
  refine W.genQ (fun Q hQ => ?_)
  generalize hHe : s.heap = H at hP ⊢
  have hS : va_S A s.heap H [] := by rw [← hHe]; exact va_S.rf
  generalize ([] : List Loc) = locs at hS ⊢
  unfold f_J6_bitCount_0f7a4 at hg
  refine lv_iload_n hx hb dJ6_bitCount_0f7a4_0 rfl (lv_at hl 0 rfl) ?_
  refine lv_iload_n hx hb dJ6_bitCount_0f7a4_1 rfl (lv_at hl 0 rfl) ?_
  refine lv_iconst (v := 1) hx hb dJ6_bitCount_0f7a4_2 (by decide) ?_
  refine lv_iushr (v := ((p0 : Int32).toUInt32 >>> ((1 : Int32).toUInt32 &&& Int32.toUInt32 31)).toInt32) hx hb dJ6_bitCount_0f7a4_3 rfl ?_
  refine lv_ldcw (v := 1431655765) hx hb hown (htb _ tg_869) dJ6_bitCount_0f7a4_4 ?_
  refine lv_iand hx hb dJ6_bitCount_0f7a4_7 ?_
  refine lv_isub hx hb dJ6_bitCount_0f7a4_8 ?_
  refine lv_topi (fun x0_1 ex0_1 => ?_)
  have hg := g_lte hg x0_1 ex0_1
  refine lv_istore_n (lv' := [(0, .int x0_1)]) hx hb dJ6_bitCount_0f7a4_9 rfl hl (by decide) rfl (fun ls hl => ?_)
  refine lv_iload_n hx hb dJ6_bitCount_0f7a4_10 rfl (lv_at hl 0 rfl) ?_
  refine lv_ldcw (v := 858993459) hx hb hown (htb _ tg_870) dJ6_bitCount_0f7a4_11 ?_
  refine lv_iand hx hb dJ6_bitCount_0f7a4_14 ?_
  refine lv_iload_n hx hb dJ6_bitCount_0f7a4_15 rfl (lv_at hl 0 rfl) ?_
  refine lv_iconst (v := 2) hx hb dJ6_bitCount_0f7a4_16 (by decide) ?_
  refine lv_iushr (v := ((x0_1 : Int32).toUInt32 >>> ((2 : Int32).toUInt32 &&& Int32.toUInt32 31)).toInt32) hx hb dJ6_bitCount_0f7a4_17 rfl ?_
  refine lv_ldcw (v := 858993459) hx hb hown (htb _ tg_870) dJ6_bitCount_0f7a4_18 ?_
  refine lv_iand hx hb dJ6_bitCount_0f7a4_21 ?_
  refine lv_iadd hx hb dJ6_bitCount_0f7a4_22 ?_
  refine lv_topi (fun x0_2 ex0_2 => ?_)
  have hg := g_lte hg x0_2 ex0_2
  refine lv_istore_n (lv' := [(0, .int x0_2)]) hx hb dJ6_bitCount_0f7a4_23 rfl hl (by decide) rfl (fun ls hl => ?_)
  refine lv_iload_n hx hb dJ6_bitCount_0f7a4_24 rfl (lv_at hl 0 rfl) ?_
  refine lv_iload_n hx hb dJ6_bitCount_0f7a4_25 rfl (lv_at hl 0 rfl) ?_
  refine lv_iconst (v := 4) hx hb dJ6_bitCount_0f7a4_26 (by decide) ?_
  refine lv_iushr (v := ((x0_2 : Int32).toUInt32 >>> ((4 : Int32).toUInt32 &&& Int32.toUInt32 31)).toInt32) hx hb dJ6_bitCount_0f7a4_27 rfl ?_
  refine lv_iadd hx hb dJ6_bitCount_0f7a4_28 ?_
  refine lv_ldcw (v := 252645135) hx hb hown (htb _ tg_871) dJ6_bitCount_0f7a4_29 ?_
  refine lv_iand hx hb dJ6_bitCount_0f7a4_32 ?_
  refine lv_topi (fun x0_3 ex0_3 => ?_)
  have hg := g_lte hg x0_3 ex0_3
  refine lv_istore_n (lv' := [(0, .int x0_3)]) hx hb dJ6_bitCount_0f7a4_33 rfl hl (by decide) rfl (fun ls hl => ?_)
  refine lv_iload_n hx hb dJ6_bitCount_0f7a4_34 rfl (lv_at hl 0 rfl) ?_
  refine lv_iload_n hx hb dJ6_bitCount_0f7a4_35 rfl (lv_at hl 0 rfl) ?_
  refine lv_bipush (v := 8) hx hb dJ6_bitCount_0f7a4_36 (by decide) ?_
  refine lv_iushr (v := ((x0_3 : Int32).toUInt32 >>> ((8 : Int32).toUInt32 &&& Int32.toUInt32 31)).toInt32) hx hb dJ6_bitCount_0f7a4_38 rfl ?_
  refine lv_iadd hx hb dJ6_bitCount_0f7a4_39 ?_
  refine lv_topi (fun x0_4 ex0_4 => ?_)
  have hg := g_lte hg x0_4 ex0_4
  refine lv_istore_n (lv' := [(0, .int x0_4)]) hx hb dJ6_bitCount_0f7a4_40 rfl hl (by decide) rfl (fun ls hl => ?_)
  refine lv_iload_n hx hb dJ6_bitCount_0f7a4_41 rfl (lv_at hl 0 rfl) ?_
  refine lv_iload_n hx hb dJ6_bitCount_0f7a4_42 rfl (lv_at hl 0 rfl) ?_
  refine lv_bipush (v := 16) hx hb dJ6_bitCount_0f7a4_43 (by decide) ?_
  refine lv_iushr (v := ((x0_4 : Int32).toUInt32 >>> ((16 : Int32).toUInt32 &&& Int32.toUInt32 31)).toInt32) hx hb dJ6_bitCount_0f7a4_45 rfl ?_
  refine lv_iadd hx hb dJ6_bitCount_0f7a4_46 ?_
  refine lv_topi (fun x0_5 ex0_5 => ?_)
  have hg := g_lte hg x0_5 ex0_5
  refine lv_istore_n (lv' := [(0, .int x0_5)]) hx hb dJ6_bitCount_0f7a4_47 rfl hl (by decide) rfl (fun ls hl => ?_)
  refine lv_iload_n hx hb dJ6_bitCount_0f7a4_48 rfl (lv_at hl 0 rfl) ?_
  refine lv_bipush (v := 63) hx hb dJ6_bitCount_0f7a4_49 (by decide) ?_
  refine lv_iand hx hb dJ6_bitCount_0f7a4_51 ?_
  have hg := Option.some.inj hg
  rw [hQ]
  exact W.iret (v := (x0_5 &&& 63)) hx hb hr (fun t ht hW => ⟨⟨(x0_5 &&& 63), (), rfl, hg, by rw [ht]; exact hP, hD⟩, hS.F ht⟩) hS.2.2 dJ6_bitCount_0f7a4_52

/-! ManyEyes.tick(II)I -/
def WS_X11_tick (cI cJ cZ cY : ClassId) (a0 a0_tape a0_firstTakes r0_saved r0_sight r0_flyer r0_parser a1 a1_codes r1_world r1_reads a2 a2_lensSide a2_lensWidth a2_pairA a2_pairB a2_pairDelay a3 a3_rows a3_takes : Nat) (v0 : BX11) (v1 : BX8) (v2 : BX1) (v3 : BX2) : va_W := (GX11o cI cJ cZ cY a0 a0_tape a0_firstTakes a1 r0_saved r0_sight r0_flyer r0_parser v0) ++ ((GX8 cI cJ cZ cY a1 a1_codes r1_world a2 r1_reads a3 v1) ++ ((GX1 cI cJ cZ cY a2 a2_lensSide a2_lensWidth a2_pairA a2_pairB a2_pairDelay v2) ++ ((GX2 cI cJ cZ cY a3 a3_rows a3_takes v3))))
def f_X11_tick (v0 : BX11) (v1 : BX8) (v2 : BX1) (v3 : BX2) (p0 : Int32) (p1 : Int32) : Option (Int32) := (f_X11_isWithin p0 0 ((pX2_count v3) - 1)).bind (fun r_1 => if (r_1 : Int32) = 0 then (some (-10000000)) else ((f_X11_isWithin p1 0 4).bind (fun r_3 => if (r_3 : Int32) = 0 then ((f_X11_isWithin p1 100 (((100 : Int32) + (pX2_lenses v3)) - 1)).bind (fun r_5 => if (r_5 : Int32) = 0 then ((f_X11_isWithin p1 200 (((200 : Int32) + (pX2_pairs v3)) - 1)).bind (fun r_7 => if (r_7 : Int32) = 0 then (some (-10000000)) else ((f_X2_comparedBy v2 v3 (p1 - 200) p0).bind (fun r_9 => some r_9)))) else ((f_X2_takenBy v3 (p1 - 100) p0).bind (fun r_10 => some r_10)))) else ((f_X2_noted v3 p0 p1).bind (fun r_11 => some r_11)))))
abbrev rm_X11_tick : Room := { frames := 2, cells := 0, slots := 0, locals := 49 }
set_option maxHeartbeats 4000000 in
set_option maxRecDepth 100000 in
theorem k_X11_tick {l : Launch} {D : va_G} {cI cJ cZ cY : ClassId} {tX tY : Nat} {sz : Nat} (a0 a0_tape a0_firstTakes r0_saved r0_sight r0_flyer r0_parser a1 a1_codes r1_world r1_reads a2 a2_lensSide a2_lensWidth a2_pairA a2_pairB a2_pairDelay a3 a3_rows a3_takes : Nat) (v0 : BX11) (v1 : BX8) (v2 : BX1) (v3 : BX2) (p0 : Int32) (p1 : Int32) (res : Int32) (hg : f_X11_tick v0 v1 v2 v3 p0 p1 = some res) : Met l yX11_tick (Cond.code yX11_tick cX11_tick 4 (some .int) :: TB) rm_X11_tick (PC D cI cJ cZ cY tX tY [.ref a0, .int p0, .int p1] (WS_X11_tick cI cJ cZ cY a0 a0_tape a0_firstTakes r0_saved r0_sight r0_flyer r0_parser a1 a1_codes r1_world r1_reads a2 a2_lensSide a2_lensWidth a2_pairA a2_pairB a2_pairDelay a3 a3_rows a3_takes v0 v1 v2 v3) sz) (va_Qi (fun (r : Int32) (_ : Unit) => r = res) (BC D (fun _ : Unit => WS_X11_tick cI cJ cZ cY a0 a0_tape a0_firstTakes r0_saved r0_sight r0_flyer r0_parser a1 a1_codes r1_world r1_reads a2 a2_lensSide a2_lensWidth a2_pairA a2_pairB a2_pairDelay a3 a3_rows a3_takes v0 v1 v2 v3) (va_A (WS_X11_tick cI cJ cZ cY a0 a0_tape a0_firstTakes r0_saved r0_sight r0_flyer r0_parser a1 a1_codes r1_world r1_reads a2 a2_lensSide a2_lensWidth a2_pairA a2_pairB a2_pairDelay a3 a3_rows a3_takes v0 v1 v2 v3) sz)) (va_A (WS_X11_tick cI cJ cZ cY a0 a0_tape a0_firstTakes r0_saved r0_sight r0_flyer r0_parser a1 a1_codes r1_world r1_reads a2 a2_lensSide a2_lensWidth a2_pairA a2_pairB a2_pairDelay a3 a3_rows a3_takes v0 v1 v2 v3) sz)) 0 0 (va_A (WS_X11_tick cI cJ cZ cY a0 a0_tape a0_firstTakes r0_saved r0_sight r0_flyer r0_parser a1 a1_codes r1_world r1_reads a2 a2_lensSide a2_lensWidth a2_pairA a2_pairB a2_pairDelay a3 a3_rows a3_takes v0 v1 v2 v3) sz) := by
  refine Met.ofW (cc := cX11_tick) (maxL := 4) (ret := (some .int)) (by decide) rfl ?_
  intro p e s m args below meth c s₁ B hml hv
  obtain ⟨hargs, hsz, hP, hK, hD0, hT⟩ := hv
  have hx := B.exec
  have hb := B.bytes
  have hr := B.returns
  have htb : ∀ w ∈ TB, w.before args s = true := fun w h => atoms_spec (ws := Cond.code yX11_tick cX11_tick 4 (some .int) :: TB) B.pre w (List.mem_cons_of_mem _ h)
  have hown : s.vm.findClass "ManyEyes" = some m.cls := findClass_of_methodNamed B.named
  have hlocks := B.notSynchronized
  subst hsz
  have hD := hD0.self (sz := s.heap.size)
  generalize hAe : va_A (WS_X11_tick cI cJ cZ cY a0 a0_tape a0_firstTakes r0_saved r0_sight r0_flyer r0_parser a1 a1_codes r1_world r1_reads a2 a2_lensSide a2_lensWidth a2_pairA a2_pairB a2_pairDelay a3 a3_rows a3_takes v0 v1 v2 v3) s.heap.size = A at hD hT ⊢
  have hA : ∀ q : Nat, s.heap.size ≤ q → A q := fun q h => by rw [← hAe]; exact Or.inr h
  have hS : va_S A s.heap s.heap [] := va_S.rf
  have hl := lv_entry ([.ref a0, .int p0, .int p1]) (n := 4) (Nat.le_of_ble_eq_true rfl)
  have he : entryFrame m args 4 = F0 m 0 (lg_sl ([.ref a0, .int p0, .int p1]) ++ List.replicate (4 - (lg_sl ([.ref a0, .int p0, .int p1])).length) Slot.unset).toArray [] := by rw [hargs, lg_entry_eq]
  rw [he]
  generalize (lg_sl ([.ref a0, .int p0, .int p1]) ++ List.replicate (4 - (lg_sl ([.ref a0, .int p0, .int p1])).length) Slot.unset).toArray = ls at hl ⊢
  have hl : lv_has ls 4 [(0, .ref a0), (1, .int p0), (2, .int p1)] := hl
  show W p l e rm_X11_tick s m args below meth c s.heap [] 0 0 _ _
  refine W.genQ (fun Q hQ => ?_)
  generalize hHe : s.heap = H at hP ⊢
  have hS : va_S A s.heap H [] := by rw [← hHe]; exact va_S.rf
  generalize ([] : List Loc) = locs at hS ⊢
  unfold f_X11_tick at hg
  refine lv_aload_n hx hb dX11_tick_0 rfl (lv_at hl 0 rfl) ?_
  refine va_get (ci := 10) (v := .ref a1) (C := RX11) (T := TX11) (N := 9) hx hb htb uX11 hown hK.1 hP 0 rfl rfl 0 (by decide) (htb _ tg_412) (fun _ h9 => h9) rfl dX11_tick_1 ?_
  refine va_get (ci := 7) (v := .ref a3) (C := RX8) (T := TX8) (N := 6) hx hb htb uX8 hown hK.1 hP 1 rfl rfl 3 (by decide) (htb _ tg_242) (fun _ h9 => h9) rfl dX11_tick_4 ?_
  refine lv_astore_n (lv' := [(3, .ref a3), (0, .ref a0), (1, .int p0), (2, .int p1)]) hx hb dX11_tick_7 rfl hl (by decide) rfl (fun ls hl => ?_)
  refine lv_iload_n hx hb dX11_tick_8 rfl (lv_at hl 2 rfl) ?_
  refine lv_iconst (v := 0) hx hb dX11_tick_9 (by decide) ?_
  refine lv_aload_n hx hb dX11_tick_10 rfl (lv_at hl 0 rfl) ?_
  refine va_get (ci := 1) (v := .int (pX2_count v3)) (C := RX2) (T := TX2) (N := 12) hx hb htb uX2 hown hK.1 hP 9 rfl rfl 5 (by decide) (htb _ tg_186) (fun _ h9 => h9) rfl dX11_tick_11 ?_
  refine lv_iconst (v := 1) hx hb dX11_tick_14 (by decide) ?_
  refine lv_isub hx hb dX11_tick_15 ?_
  obtain ⟨r_1, hr_1, hg⟩ := g_bd hg
  refine cc_i (va_runS (As := [.int p0, .int 0, .int ((pX2_count v3) - 1)]) (rest := []) ⟨hx, hb, hml, hown, htb⟩ (k_X11_isWithin p0 0 ((pX2_count v3) - 1) r_1 hr_1) (cw_S 3 htb tg_450 tg_1 tg_451 tg_449 rfl rfl (by decide +kernel) ⟨Nat.le_of_ble_eq_true rfl, Nat.le_of_ble_eq_true rfl⟩) ⟨PC.blind, PC.pre hK hT hP hD hS hA [] rfl (by decide)⟩ rfl rfl hl.1 rfl (lv_room (Nat.le_of_ble_eq_true rfl)) dX11_tick_16 ⟨Nat.le_of_ble_eq_true rfl, Nat.le_of_ble_eq_true rfl⟩) hP hD hS hA [] [0, 1, 2, 3, 4, 5, 6, 7, 8, 9, 10, 11] rfl rfl (by decide) (by decide) (fun r9 u9 H locs hw hP hD hS => ?_)
  have hw := hw.symm
  subst hw
  have hP : va_P D vwCl (WS_X11_tick cI cJ cZ cY a0 a0_tape a0_firstTakes r0_saved r0_sight r0_flyer r0_parser a1 a1_codes r1_world r1_reads a2 a2_lensSide a2_lensWidth a2_pairA a2_pairB a2_pairDelay a3 a3_rows a3_takes v0 v1 v2 v3) H := hP.sub [0, 1, 2, 3, 4, 5, 6, 7, 8, 9, 10, 11] rfl
  have hD : va_D A (WS_X11_tick cI cJ cZ cY a0 a0_tape a0_firstTakes r0_saved r0_sight r0_flyer r0_parser a1 a1_codes r1_world r1_reads a2 a2_lensSide a2_lensWidth a2_pairA a2_pairB a2_pairDelay a3 a3_rows a3_takes v0 v1 v2 v3) := hD.sub [0, 1, 2, 3, 4, 5, 6, 7, 8, 9, 10, 11] (by decide) rfl
  refine lv_if_ne (tgt := 26) hx hb dX11_tick_19 (by decide) (fun c_2 => ?_) (fun c_2 => ?_)
  · have hg := g_if hg c_2
    refine lv_iload_n hx hb dX11_tick_26 rfl (lv_at hl 3 rfl) ?_
    refine lv_iconst (v := 0) hx hb dX11_tick_27 (by decide) ?_
    refine lv_iconst (v := 4) hx hb dX11_tick_28 (by decide) ?_
    obtain ⟨r_3, hr_3, hg⟩ := g_bd hg
    refine cc_i (va_runS (As := [.int p1, .int 0, .int 4]) (rest := []) ⟨hx, hb, hml, hown, htb⟩ (k_X11_isWithin p1 0 4 r_3 hr_3) (cw_S 3 htb tg_450 tg_1 tg_451 tg_449 rfl rfl (by decide +kernel) ⟨Nat.le_of_ble_eq_true rfl, Nat.le_of_ble_eq_true rfl⟩) ⟨PC.blind, PC.pre hK hT hP hD hS hA [] rfl (by decide)⟩ rfl rfl hl.1 rfl (lv_room (Nat.le_of_ble_eq_true rfl)) dX11_tick_29 ⟨Nat.le_of_ble_eq_true rfl, Nat.le_of_ble_eq_true rfl⟩) hP hD hS hA [] [0, 1, 2, 3, 4, 5, 6, 7, 8, 9, 10, 11] rfl rfl (by decide) (by decide) (fun r9 u9 H locs hw hP hD hS => ?_)
    have hw := hw.symm
    subst hw
    have hP : va_P D vwCl (WS_X11_tick cI cJ cZ cY a0 a0_tape a0_firstTakes r0_saved r0_sight r0_flyer r0_parser a1 a1_codes r1_world r1_reads a2 a2_lensSide a2_lensWidth a2_pairA a2_pairB a2_pairDelay a3 a3_rows a3_takes v0 v1 v2 v3) H := hP.sub [0, 1, 2, 3, 4, 5, 6, 7, 8, 9, 10, 11] rfl
    have hD : va_D A (WS_X11_tick cI cJ cZ cY a0 a0_tape a0_firstTakes r0_saved r0_sight r0_flyer r0_parser a1 a1_codes r1_world r1_reads a2 a2_lensSide a2_lensWidth a2_pairA a2_pairB a2_pairDelay a3 a3_rows a3_takes v0 v1 v2 v3) := hD.sub [0, 1, 2, 3, 4, 5, 6, 7, 8, 9, 10, 11] (by decide) rfl
    refine lv_if_eq (tgt := 42) hx hb dX11_tick_32 (by decide) (fun c_4 => ?_) (fun c_4 => ?_)
    · have hg := g_it hg c_4
      refine lv_iload_n hx hb dX11_tick_42 rfl (lv_at hl 3 rfl) ?_
      refine lv_bipush (v := 100) hx hb dX11_tick_43 (by decide) ?_
      refine lv_bipush (v := 100) hx hb dX11_tick_45 (by decide) ?_
      refine lv_aload_n hx hb dX11_tick_47 rfl (lv_at hl 0 rfl) ?_
      refine va_get (ci := 1) (v := .int (pX2_lenses v3)) (C := RX2) (T := TX2) (N := 12) hx hb htb uX2 hown hK.1 hP 9 rfl rfl 10 (by decide) (htb _ tg_201) (fun _ h9 => h9) rfl dX11_tick_48 ?_
      refine lv_iadd hx hb dX11_tick_51 ?_
      refine lv_iconst (v := 1) hx hb dX11_tick_52 (by decide) ?_
      refine lv_isub hx hb dX11_tick_53 ?_
      obtain ⟨r_5, hr_5, hg⟩ := g_bd hg
      refine cc_i (va_runS (As := [.int p1, .int 100, .int (((100 : Int32) + (pX2_lenses v3)) - 1)]) (rest := []) ⟨hx, hb, hml, hown, htb⟩ (k_X11_isWithin p1 100 (((100 : Int32) + (pX2_lenses v3)) - 1) r_5 hr_5) (cw_S 3 htb tg_450 tg_1 tg_451 tg_449 rfl rfl (by decide +kernel) ⟨Nat.le_of_ble_eq_true rfl, Nat.le_of_ble_eq_true rfl⟩) ⟨PC.blind, PC.pre hK hT hP hD hS hA [] rfl (by decide)⟩ rfl rfl hl.1 rfl (lv_room (Nat.le_of_ble_eq_true rfl)) dX11_tick_54 ⟨Nat.le_of_ble_eq_true rfl, Nat.le_of_ble_eq_true rfl⟩) hP hD hS hA [] [0, 1, 2, 3, 4, 5, 6, 7, 8, 9, 10, 11] rfl rfl (by decide) (by decide) (fun r9 u9 H locs hw hP hD hS => ?_)
      have hw := hw.symm
      subst hw
      have hP : va_P D vwCl (WS_X11_tick cI cJ cZ cY a0 a0_tape a0_firstTakes r0_saved r0_sight r0_flyer r0_parser a1 a1_codes r1_world r1_reads a2 a2_lensSide a2_lensWidth a2_pairA a2_pairB a2_pairDelay a3 a3_rows a3_takes v0 v1 v2 v3) H := hP.sub [0, 1, 2, 3, 4, 5, 6, 7, 8, 9, 10, 11] rfl
      have hD : va_D A (WS_X11_tick cI cJ cZ cY a0 a0_tape a0_firstTakes r0_saved r0_sight r0_flyer r0_parser a1 a1_codes r1_world r1_reads a2 a2_lensSide a2_lensWidth a2_pairA a2_pairB a2_pairDelay a3 a3_rows a3_takes v0 v1 v2 v3) := hD.sub [0, 1, 2, 3, 4, 5, 6, 7, 8, 9, 10, 11] (by decide) rfl
      refine lv_if_eq (tgt := 70) hx hb dX11_tick_57 (by decide) (fun c_6 => ?_) (fun c_6 => ?_)
      · have hg := g_it hg c_6
        refine lv_iload_n hx hb dX11_tick_70 rfl (lv_at hl 3 rfl) ?_
        refine lv_sipush (v := 200) hx hb dX11_tick_71 (by decide) ?_
        refine lv_sipush (v := 200) hx hb dX11_tick_74 (by decide) ?_
        refine lv_aload_n hx hb dX11_tick_77 rfl (lv_at hl 0 rfl) ?_
        refine va_get (ci := 1) (v := .int (pX2_pairs v3)) (C := RX2) (T := TX2) (N := 12) hx hb htb uX2 hown hK.1 hP 9 rfl rfl 11 (by decide) (htb _ tg_204) (fun _ h9 => h9) rfl dX11_tick_78 ?_
        refine lv_iadd hx hb dX11_tick_81 ?_
        refine lv_iconst (v := 1) hx hb dX11_tick_82 (by decide) ?_
        refine lv_isub hx hb dX11_tick_83 ?_
        obtain ⟨r_7, hr_7, hg⟩ := g_bd hg
        refine cc_i (va_runS (As := [.int p1, .int 200, .int (((200 : Int32) + (pX2_pairs v3)) - 1)]) (rest := []) ⟨hx, hb, hml, hown, htb⟩ (k_X11_isWithin p1 200 (((200 : Int32) + (pX2_pairs v3)) - 1) r_7 hr_7) (cw_S 3 htb tg_450 tg_1 tg_451 tg_449 rfl rfl (by decide +kernel) ⟨Nat.le_of_ble_eq_true rfl, Nat.le_of_ble_eq_true rfl⟩) ⟨PC.blind, PC.pre hK hT hP hD hS hA [] rfl (by decide)⟩ rfl rfl hl.1 rfl (lv_room (Nat.le_of_ble_eq_true rfl)) dX11_tick_84 ⟨Nat.le_of_ble_eq_true rfl, Nat.le_of_ble_eq_true rfl⟩) hP hD hS hA [] [0, 1, 2, 3, 4, 5, 6, 7, 8, 9, 10, 11] rfl rfl (by decide) (by decide) (fun r9 u9 H locs hw hP hD hS => ?_)
        have hw := hw.symm
        subst hw
        have hP : va_P D vwCl (WS_X11_tick cI cJ cZ cY a0 a0_tape a0_firstTakes r0_saved r0_sight r0_flyer r0_parser a1 a1_codes r1_world r1_reads a2 a2_lensSide a2_lensWidth a2_pairA a2_pairB a2_pairDelay a3 a3_rows a3_takes v0 v1 v2 v3) H := hP.sub [0, 1, 2, 3, 4, 5, 6, 7, 8, 9, 10, 11] rfl
        have hD : va_D A (WS_X11_tick cI cJ cZ cY a0 a0_tape a0_firstTakes r0_saved r0_sight r0_flyer r0_parser a1 a1_codes r1_world r1_reads a2 a2_lensSide a2_lensWidth a2_pairA a2_pairB a2_pairDelay a3 a3_rows a3_takes v0 v1 v2 v3) := hD.sub [0, 1, 2, 3, 4, 5, 6, 7, 8, 9, 10, 11] (by decide) rfl
        refine lv_if_eq (tgt := 108) hx hb dX11_tick_87 (by decide) (fun c_8 => ?_) (fun c_8 => ?_)
        · have hg := g_it hg c_8
          refine lv_ldcw (v := (-10000000)) hx hb hown (htb _ tg_826) dX11_tick_108 ?_
          have hg := Option.some.inj hg
          rw [hQ]
          exact W.iret (v := (-10000000)) hx hb hr (fun t ht hW => ⟨⟨(-10000000), (), rfl, hg, by rw [ht]; exact hP, hD⟩, hS.F ht⟩) hS.2.2 dX11_tick_111
        · have hg := g_if hg c_8
          refine lv_aload_n hx hb dX11_tick_90 rfl (lv_at hl 0 rfl) ?_
          refine lv_aload_n hx hb dX11_tick_91 rfl (lv_at hl 1 rfl) ?_
          refine va_get (ci := 10) (v := .ref a1) (C := RX11) (T := TX11) (N := 9) hx hb htb uX11 hown hK.1 hP 0 rfl rfl 0 (by decide) (htb _ tg_412) (fun _ h9 => h9) rfl dX11_tick_92 ?_
          refine va_get (ci := 7) (v := .ref a2) (C := RX8) (T := TX8) (N := 6) hx hb htb uX8 hown hK.1 hP 1 rfl rfl 1 (by decide) (htb _ tg_237) (fun _ h9 => h9) rfl dX11_tick_95 ?_
          refine lv_iload_n hx hb dX11_tick_98 rfl (lv_at hl 3 rfl) ?_
          refine lv_sipush (v := 200) hx hb dX11_tick_99 (by decide) ?_
          refine lv_isub hx hb dX11_tick_102 ?_
          refine lv_iload_n hx hb dX11_tick_103 rfl (lv_at hl 2 rfl) ?_
          obtain ⟨r_9, hr_9, hg⟩ := g_bd hg
          refine cc_i (va_runV (C := RX2) (As := [.ref a2, .int (p1 - 200), .int p0]) (rest := []) ⟨hx, hb, hml, hown, htb⟩ (k_X2_comparedBy a2 a2_lensSide a2_lensWidth a2_pairA a2_pairB a2_pairDelay a3 a3_rows a3_takes v2 v3 (p1 - 200) p0 r_9 hr_9) (cw_V 3 htb tg_783 tg_7 tg_832 tg_781 tg_782 rfl rfl (by decide +kernel) ⟨Nat.le_of_ble_eq_true rfl, Nat.le_of_ble_eq_true rfl⟩) ⟨PC.blind, va_recv hK.1 hP (ci := 1) (q0 := 9) rfl rfl, PC.pre hK hT hP hD hS hA [3, 4, 5, 6, 7, 8, 9, 10, 11] rfl (by decide)⟩ rfl rfl hl.1 rfl (lv_room (Nat.le_of_ble_eq_true rfl)) dX11_tick_104 ⟨Nat.le_of_ble_eq_true rfl, Nat.le_of_ble_eq_true rfl⟩) hP hD hS hA [3, 4, 5, 6, 7, 8, 9, 10, 11] [0, 1, 2] rfl rfl (by decide) (by decide) (fun r9 u9 H locs hw hP hD hS => ?_)
          have hw := hw.symm
          subst hw
          have hP : va_P D vwCl (WS_X11_tick cI cJ cZ cY a0 a0_tape a0_firstTakes r0_saved r0_sight r0_flyer r0_parser a1 a1_codes r1_world r1_reads a2 a2_lensSide a2_lensWidth a2_pairA a2_pairB a2_pairDelay a3 a3_rows a3_takes v0 v1 v2 v3) H := hP.sub [0, 1, 2, 3, 4, 5, 6, 7, 8, 9, 10, 11] rfl
          have hD : va_D A (WS_X11_tick cI cJ cZ cY a0 a0_tape a0_firstTakes r0_saved r0_sight r0_flyer r0_parser a1 a1_codes r1_world r1_reads a2 a2_lensSide a2_lensWidth a2_pairA a2_pairB a2_pairDelay a3 a3_rows a3_takes v0 v1 v2 v3) := hD.sub [0, 1, 2, 3, 4, 5, 6, 7, 8, 9, 10, 11] (by decide) rfl
          have hg := Option.some.inj hg
          rw [hQ]
          exact W.iret (v := r_9) hx hb hr (fun t ht hW => ⟨⟨r_9, (), rfl, hg, by rw [ht]; exact hP, hD⟩, hS.F ht⟩) hS.2.2 dX11_tick_107
      · have hg := g_if hg c_6
        refine lv_aload_n hx hb dX11_tick_60 rfl (lv_at hl 0 rfl) ?_
        refine lv_iload_n hx hb dX11_tick_61 rfl (lv_at hl 3 rfl) ?_
        refine lv_bipush (v := 100) hx hb dX11_tick_62 (by decide) ?_
        refine lv_isub hx hb dX11_tick_64 ?_
        refine lv_iload_n hx hb dX11_tick_65 rfl (lv_at hl 2 rfl) ?_
        obtain ⟨r_10, hr_10, hg⟩ := g_bd hg
        refine cc_i (va_runV (C := RX2) (As := [.int (p1 - 100), .int p0]) (rest := []) ⟨hx, hb, hml, hown, htb⟩ (k_X2_takenBy a3 a3_rows a3_takes v3 (p1 - 100) p0 r_10 hr_10) (cw_V 2 htb tg_779 tg_7 tg_831 tg_777 tg_778 rfl rfl (by decide +kernel) ⟨Nat.le_of_ble_eq_true rfl, Nat.le_of_ble_eq_true rfl⟩) ⟨PC.blind, va_recv hK.1 hP (ci := 1) (q0 := 9) rfl rfl, PC.pre hK hT hP hD hS hA [9, 10, 11] rfl (by decide)⟩ rfl rfl hl.1 rfl (lv_room (Nat.le_of_ble_eq_true rfl)) dX11_tick_66 ⟨Nat.le_of_ble_eq_true rfl, Nat.le_of_ble_eq_true rfl⟩) hP hD hS hA [9, 10, 11] [0, 1, 2, 3, 4, 5, 6, 7, 8] rfl rfl (by decide) (by decide) (fun r9 u9 H locs hw hP hD hS => ?_)
        have hw := hw.symm
        subst hw
        have hP : va_P D vwCl (WS_X11_tick cI cJ cZ cY a0 a0_tape a0_firstTakes r0_saved r0_sight r0_flyer r0_parser a1 a1_codes r1_world r1_reads a2 a2_lensSide a2_lensWidth a2_pairA a2_pairB a2_pairDelay a3 a3_rows a3_takes v0 v1 v2 v3) H := hP.sub [0, 1, 2, 3, 4, 5, 6, 7, 8, 9, 10, 11] rfl
        have hD : va_D A (WS_X11_tick cI cJ cZ cY a0 a0_tape a0_firstTakes r0_saved r0_sight r0_flyer r0_parser a1 a1_codes r1_world r1_reads a2 a2_lensSide a2_lensWidth a2_pairA a2_pairB a2_pairDelay a3 a3_rows a3_takes v0 v1 v2 v3) := hD.sub [0, 1, 2, 3, 4, 5, 6, 7, 8, 9, 10, 11] (by decide) rfl
        have hg := Option.some.inj hg
        rw [hQ]
        exact W.iret (v := r_10) hx hb hr (fun t ht hW => ⟨⟨r_10, (), rfl, hg, by rw [ht]; exact hP, hD⟩, hS.F ht⟩) hS.2.2 dX11_tick_69
    · have hg := g_if hg c_4
      refine lv_aload_n hx hb dX11_tick_35 rfl (lv_at hl 0 rfl) ?_
      refine lv_iload_n hx hb dX11_tick_36 rfl (lv_at hl 2 rfl) ?_
      refine lv_iload_n hx hb dX11_tick_37 rfl (lv_at hl 3 rfl) ?_
      obtain ⟨r_11, hr_11, hg⟩ := g_bd hg
      refine cc_i (va_runV (C := RX2) (As := [.int p0, .int p1]) (rest := []) ⟨hx, hb, hml, hown, htb⟩ (k_X2_noted a3 a3_rows a3_takes v3 p0 p1 r_11 hr_11) (cw_V 2 htb tg_830 tg_7 tg_827 tg_828 tg_829 rfl rfl (by decide +kernel) ⟨Nat.le_of_ble_eq_true rfl, Nat.le_of_ble_eq_true rfl⟩) ⟨PC.blind, va_recv hK.1 hP (ci := 1) (q0 := 9) rfl rfl, PC.pre hK hT hP hD hS hA [9, 10, 11] rfl (by decide)⟩ rfl rfl hl.1 rfl (lv_room (Nat.le_of_ble_eq_true rfl)) dX11_tick_38 ⟨Nat.le_of_ble_eq_true rfl, Nat.le_of_ble_eq_true rfl⟩) hP hD hS hA [9, 10, 11] [0, 1, 2, 3, 4, 5, 6, 7, 8] rfl rfl (by decide) (by decide) (fun r9 u9 H locs hw hP hD hS => ?_)
      have hw := hw.symm
      subst hw
      have hP : va_P D vwCl (WS_X11_tick cI cJ cZ cY a0 a0_tape a0_firstTakes r0_saved r0_sight r0_flyer r0_parser a1 a1_codes r1_world r1_reads a2 a2_lensSide a2_lensWidth a2_pairA a2_pairB a2_pairDelay a3 a3_rows a3_takes v0 v1 v2 v3) H := hP.sub [0, 1, 2, 3, 4, 5, 6, 7, 8, 9, 10, 11] rfl
      have hD : va_D A (WS_X11_tick cI cJ cZ cY a0 a0_tape a0_firstTakes r0_saved r0_sight r0_flyer r0_parser a1 a1_codes r1_world r1_reads a2 a2_lensSide a2_lensWidth a2_pairA a2_pairB a2_pairDelay a3 a3_rows a3_takes v0 v1 v2 v3) := hD.sub [0, 1, 2, 3, 4, 5, 6, 7, 8, 9, 10, 11] (by decide) rfl
      have hg := Option.some.inj hg
      rw [hQ]
      exact W.iret (v := r_11) hx hb hr (fun t ht hW => ⟨⟨r_11, (), rfl, hg, by rw [ht]; exact hP, hD⟩, hS.F ht⟩) hS.2.2 dX11_tick_41
  · have hg := g_it hg c_2
    refine lv_ldcw (v := (-10000000)) hx hb hown (htb _ tg_826) dX11_tick_22 ?_
    have hg := Option.some.inj hg
    rw [hQ]
    exact W.iret (v := (-10000000)) hx hb hr (fun t ht hW => ⟨⟨(-10000000), (), rfl, hg, by rw [ht]; exact hP, hD⟩, hS.F ht⟩) hS.2.2 dX11_tick_25
