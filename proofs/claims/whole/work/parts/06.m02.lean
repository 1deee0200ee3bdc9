/-! ManyEyes.about(I)I -/
def WS_X11_about (cI cJ cZ cY : ClassId) (a0 a0_tape a0_firstTakes r0_saved r0_sight r0_flyer r0_parser a1 a1_codes r1_flight a2 a2_lensSide a2_lensWidth a2_pairA a2_pairB a2_pairDelay a3 a3_x a3_y a3_head a3_size a3_turns a4 a4_own a4_bodyX a4_bodyY a4_bodyWayX a4_bodyWayY a4_bodyMark : Nat) (v0 : BX11) (v1 : BX8) (v2 : BX1) (v3 : BX5) (v4 : BX10) : va_W := (GX11o cI cJ cZ cY a0 a0_tape a0_firstTakes a1 r0_saved r0_sight r0_flyer r0_parser v0) ++ ((GX8 cI cJ cZ cY a1 a1_codes a4 a2 a3 r1_flight v1) ++ ((GX1 cI cJ cZ cY a2 a2_lensSide a2_lensWidth a2_pairA a2_pairB a2_pairDelay v2) ++ ((GX5 cI cJ cZ cY a3 a3_x a3_y a3_head a3_size a3_turns v3) ++ ((GX10 cI cJ cZ cY a4 a4_own a4_bodyX a4_bodyY a4_bodyWayX a4_bodyWayY a4_bodyMark v4)))))
def f_X11_about (v0 : BX11) (v1 : BX8) (v2 : BX1) (v3 : BX5) (v4 : BX10) (p0 : Int32) : Option (Int32) := if p0 = 0 then (some (pX10_w v4)) else (if p0 = 1 then (some (pX10_h v4)) else (if p0 = 2 then (some (pX10_bodies v4)) else (if p0 = 3 then (some (pX1_lenses v2)) else (if p0 = 4 then (some (pX1_pairs v2)) else (if p0 = 5 then (some (pX8_rules v1)) else (if p0 = 6 then (some (pX5_count v3)) else (if p0 = 7 then (some (pX11_tapeSize v0)) else (if p0 = 8 then ((f_X10_countOwnMarks v4).bind (fun r_10 => some r_10)) else (some (-1))))))))))
abbrev rm_X11_about : Room := { frames := 1, cells := 0, slots := 0, locals := 22 }
set_option maxHeartbeats 4000000 in
set_option maxRecDepth 100000 in
theorem k_X11_about {l : Launch} {D : va_G} {cI cJ cZ cY : ClassId} {tX tY : Nat} {sz : Nat} (a0 a0_tape a0_firstTakes r0_saved r0_sight r0_flyer r0_parser a1 a1_codes r1_flight a2 a2_lensSide a2_lensWidth a2_pairA a2_pairB a2_pairDelay a3 a3_x a3_y a3_head a3_size a3_turns a4 a4_own a4_bodyX a4_bodyY a4_bodyWayX a4_bodyWayY a4_bodyMark : Nat) (v0 : BX11) (v1 : BX8) (v2 : BX1) (v3 : BX5) (v4 : BX10) (p0 : Int32) (res : Int32) (hg : f_X11_about v0 v1 v2 v3 v4 p0 = some res) : Met l yX11_about (Cond.code yX11_about cX11_about 2 (some .int) :: TB) rm_X11_about (PC D cI cJ cZ cY tX tY [.ref a0, .int p0] (WS_X11_about cI cJ cZ cY a0 a0_tape a0_firstTakes r0_saved r0_sight r0_flyer r0_parser a1 a1_codes r1_flight a2 a2_lensSide a2_lensWidth a2_pairA a2_pairB a2_pairDelay a3 a3_x a3_y a3_head a3_size a3_turns a4 a4_own a4_bodyX a4_bodyY a4_bodyWayX a4_bodyWayY a4_bodyMark v0 v1 v2 v3 v4) sz) (va_Qi (fun (r : Int32) (_ : Unit) => r = res) (BC D (fun _ : Unit => WS_X11_about cI cJ cZ cY a0 a0_tape a0_firstTakes r0_saved r0_sight r0_flyer r0_parser a1 a1_codes r1_flight a2 a2_lensSide a2_lensWidth a2_pairA a2_pairB a2_pairDelay a3 a3_x a3_y a3_head a3_size a3_turns a4 a4_own a4_bodyX a4_bodyY a4_bodyWayX a4_bodyWayY a4_bodyMark v0 v1 v2 v3 v4) (va_A (WS_X11_about cI cJ cZ cY a0 a0_tape a0_firstTakes r0_saved r0_sight r0_flyer r0_parser a1 a1_codes r1_flight a2 a2_lensSide a2_lensWidth a2_pairA a2_pairB a2_pairDelay a3 a3_x a3_y a3_head a3_size a3_turns a4 a4_own a4_bodyX a4_bodyY a4_bodyWayX a4_bodyWayY a4_bodyMark v0 v1 v2 v3 v4) sz)) (va_A (WS_X11_about cI cJ cZ cY a0 a0_tape a0_firstTakes r0_saved r0_sight r0_flyer r0_parser a1 a1_codes r1_flight a2 a2_lensSide a2_lensWidth a2_pairA a2_pairB a2_pairDelay a3 a3_x a3_y a3_head a3_size a3_turns a4 a4_own a4_bodyX a4_bodyY a4_bodyWayX a4_bodyWayY a4_bodyMark v0 v1 v2 v3 v4) sz)) 0 0 (va_A (WS_X11_about cI cJ cZ cY a0 a0_tape a0_firstTakes r0_saved r0_sight r0_flyer r0_parser a1 a1_codes r1_flight a2 a2_lensSide a2_lensWidth a2_pairA a2_pairB a2_pairDelay a3 a3_x a3_y a3_head a3_size a3_turns a4 a4_own a4_bodyX a4_bodyY a4_bodyWayX a4_bodyWayY a4_bodyMark v0 v1 v2 v3 v4) sz) := by
  refine Met.ofW (cc := cX11_about) (maxL := 2) (ret := (some .int)) (by decide) rfl ?_
  intro p e s m args below meth c s₁ B hml hv
  obtain ⟨hargs, hsz, hP, hK, hD0, hT⟩ := hv
  have hx := B.exec
  have hb := B.bytes
  have hr := B.returns
  have htb : ∀ w ∈ TB, w.before args s = true := fun w h => atoms_spec (ws := Cond.code yX11_about cX11_about 2 (some .int) :: TB) B.pre w (List.mem_cons_of_mem _ h)
  have hown : s.vm.findClass "ManyEyes" = some m.cls := findClass_of_methodNamed B.named
  have hlocks := B.notSynchronized
  subst hsz
  have hD := hD0.self (sz := s.heap.size)
  generalize hAe : va_A (WS_X11_about cI cJ cZ cY a0 a0_tape a0_firstTakes r0_saved r0_sight r0_flyer r0_parser a1 a1_codes r1_flight a2 a2_lensSide a2_lensWidth a2_pairA a2_pairB a2_pairDelay a3 a3_x a3_y a3_head a3_size a3_turns a4 a4_own a4_bodyX a4_bodyY a4_bodyWayX a4_bodyWayY a4_bodyMark v0 v1 v2 v3 v4) s.heap.size = A at hD hT ⊢
  have hA : ∀ q : Nat, s.heap.size ≤ q → A q := fun q h => by rw [← hAe]; exact Or.inr h
  have hS : va_S A s.heap s.heap [] := va_S.rf
  have hl := lv_entry ([.ref a0, .int p0]) (n := 2) (Nat.le_of_ble_eq_true rfl)
  have he : entryFrame m args 2 = F0 m 0 (lg_sl ([.ref a0, .int p0]) ++ List.replicate (2 - (lg_sl ([.ref a0, .int p0])).length) Slot.unset).toArray [] := by rw [hargs, lg_entry_eq]
  rw [he]
  generalize (lg_sl ([.ref a0, .int p0]) ++ List.replicate (2 - (lg_sl ([.ref a0, .int p0])).length) Slot.unset).toArray = ls at hl ⊢
  have hl : lv_has ls 2 [(0, .ref a0), (1, .int p0)] := hl
  show W p l e rm_X11_about s m args below meth c s.heap [] 0 0 _ _
  refine W.genQ (fun Q hQ => ?_)
  generalize hHe : s.heap = H at hP ⊢
  have hS : va_S A s.heap H [] := by rw [← hHe]; exact va_S.rf
  generalize ([] : List Loc) = locs at hS ⊢
  unfold f_X11_about at hg
  refine lv_iload_n hx hb dX11_about_0 rfl (lv_at hl 1 rfl) ?_
  by_cases c_1 : p0 = 0
  · have hg := g_it hg c_1
    refine lv_tableIn (tgt := 52) (off := 51) hx hb dX11_about_1 (by rw [c_1]; decide) (by rw [c_1]; decide) (by rw [c_1]; decide +kernel) (by decide) ?_
    refine lv_aload_n hx hb dX11_about_52 rfl (lv_at hl 0 rfl) ?_
    refine va_get (ci := 10) (v := .ref a1) (C := RX11) (T := TX11) (N := 9) hx hb htb uX11 hown hK.1 hP 0 rfl rfl 0 (by decide) (htb _ tg_412) (fun _ h9 => h9) rfl dX11_about_53 ?_
    refine va_get (ci := 7) (v := .ref a4) (C := RX8) (T := TX8) (N := 6) hx hb htb uX8 hown hK.1 hP 1 rfl rfl 0 (by decide) (htb _ tg_233) (fun _ h9 => h9) rfl dX11_about_56 ?_
    refine va_get (ci := 9) (v := .int (pX10_w v4)) (C := RX10) (T := TX10) (N := 9) hx hb htb uX10 hown hK.1 hP 15 rfl rfl 0 (by decide) (htb _ tg_45) (fun _ h9 => h9) rfl dX11_about_59 ?_
    have hg := Option.some.inj hg
    rw [hQ]
    exact W.iret (v := (pX10_w v4)) hx hb hr (fun t ht hW => ⟨⟨(pX10_w v4), (), rfl, hg, by rw [ht]; exact hP, hD⟩, hS.F ht⟩) hS.2.2 dX11_about_62
  have hg := g_if hg c_1
  by_cases c_2 : p0 = 1
  · have hg := g_it hg c_2
    refine lv_tableIn (tgt := 63) (off := 62) hx hb dX11_about_1 (by rw [c_2]; decide) (by rw [c_2]; decide) (by rw [c_2]; decide +kernel) (by decide) ?_
    refine lv_aload_n hx hb dX11_about_63 rfl (lv_at hl 0 rfl) ?_
    refine va_get (ci := 10) (v := .ref a1) (C := RX11) (T := TX11) (N := 9) hx hb htb uX11 hown hK.1 hP 0 rfl rfl 0 (by decide) (htb _ tg_412) (fun _ h9 => h9) rfl dX11_about_64 ?_
    refine va_get (ci := 7) (v := .ref a4) (C := RX8) (T := TX8) (N := 6) hx hb htb uX8 hown hK.1 hP 1 rfl rfl 0 (by decide) (htb _ tg_233) (fun _ h9 => h9) rfl dX11_about_67 ?_
    refine va_get (ci := 9) (v := .int (pX10_h v4)) (C := RX10) (T := TX10) (N := 9) hx hb htb uX10 hown hK.1 hP 15 rfl rfl 1 (by decide) (htb _ tg_48) (fun _ h9 => h9) rfl dX11_about_70 ?_
    have hg := Option.some.inj hg
    rw [hQ]
    exact W.iret (v := (pX10_h v4)) hx hb hr (fun t ht hW => ⟨⟨(pX10_h v4), (), rfl, hg, by rw [ht]; exact hP, hD⟩, hS.F ht⟩) hS.2.2 dX11_about_73
  have hg := g_if hg c_2
  by_cases c_3 : p0 = 2
  · have hg := g_it hg c_3
    refine lv_tableIn (tgt := 74) (off := 73) hx hb dX11_about_1 (by rw [c_3]; decide) (by rw [c_3]; decide) (by rw [c_3]; decide +kernel) (by decide) ?_
    refine lv_aload_n hx hb dX11_about_74 rfl (lv_at hl 0 rfl) ?_
    refine va_get (ci := 10) (v := .ref a1) (C := RX11) (T := TX11) (N := 9) hx hb htb uX11 hown hK.1 hP 0 rfl rfl 0 (by decide) (htb _ tg_412) (fun _ h9 => h9) rfl dX11_about_75 ?_
    refine va_get (ci := 7) (v := .ref a4) (C := RX8) (T := TX8) (N := 6) hx hb htb uX8 hown hK.1 hP 1 rfl rfl 0 (by decide) (htb _ tg_233) (fun _ h9 => h9) rfl dX11_about_78 ?_
    refine va_get (ci := 9) (v := .int (pX10_bodies v4)) (C := RX10) (T := TX10) (N := 9) hx hb htb uX10 hown hK.1 hP 15 rfl rfl 8 (by decide) (htb _ tg_64) (fun _ h9 => h9) rfl dX11_about_81 ?_
    have hg := Option.some.inj hg
    rw [hQ]
    exact W.iret (v := (pX10_bodies v4)) hx hb hr (fun t ht hW => ⟨⟨(pX10_bodies v4), (), rfl, hg, by rw [ht]; exact hP, hD⟩, hS.F ht⟩) hS.2.2 dX11_about_84
  have hg := g_if hg c_3
  by_cases c_4 : p0 = 3
  · have hg := g_it hg c_4
    refine lv_tableIn (tgt := 85) (off := 84) hx hb dX11_about_1 (by rw [c_4]; decide) (by rw [c_4]; decide) (by rw [c_4]; decide +kernel) (by decide) ?_
    refine lv_aload_n hx hb dX11_about_85 rfl (lv_at hl 0 rfl) ?_
    refine va_get (ci := 10) (v := .ref a1) (C := RX11) (T := TX11) (N := 9) hx hb htb uX11 hown hK.1 hP 0 rfl rfl 0 (by decide) (htb _ tg_412) (fun _ h9 => h9) rfl dX11_about_86 ?_
    refine va_get (ci := 7) (v := .ref a2) (C := RX8) (T := TX8) (N := 6) hx hb htb uX8 hown hK.1 hP 1 rfl rfl 1 (by decide) (htb _ tg_237) (fun _ h9 => h9) rfl dX11_about_89 ?_
    refine va_get (ci := 0) (v := .int (pX1_lenses v2)) (C := RX1) (T := TX1) (N := 7) hx hb htb uX1 hown hK.1 hP 3 rfl rfl 5 (by decide) (htb _ tg_109) (fun _ h9 => h9) rfl dX11_about_92 ?_
    have hg := Option.some.inj hg
    rw [hQ]
    exact W.iret (v := (pX1_lenses v2)) hx hb hr (fun t ht hW => ⟨⟨(pX1_lenses v2), (), rfl, hg, by rw [ht]; exact hP, hD⟩, hS.F ht⟩) hS.2.2 dX11_about_95
  have hg := g_if hg c_4
  by_cases c_5 : p0 = 4
  · have hg := g_it hg c_5
    refine lv_tableIn (tgt := 96) (off := 95) hx hb dX11_about_1 (by rw [c_5]; decide) (by rw [c_5]; decide) (by rw [c_5]; decide +kernel) (by decide) ?_
    refine lv_aload_n hx hb dX11_about_96 rfl (lv_at hl 0 rfl) ?_
    refine va_get (ci := 10) (v := .ref a1) (C := RX11) (T := TX11) (N := 9) hx hb htb uX11 hown hK.1 hP 0 rfl rfl 0 (by decide) (htb _ tg_412) (fun _ h9 => h9) rfl dX11_about_97 ?_
    refine va_get (ci := 7) (v := .ref a2) (C := RX8) (T := TX8) (N := 6) hx hb htb uX8 hown hK.1 hP 1 rfl rfl 1 (by decide) (htb _ tg_237) (fun _ h9 => h9) rfl dX11_about_100 ?_
    refine va_get (ci := 0) (v := .int (pX1_pairs v2)) (C := RX1) (T := TX1) (N := 7) hx hb htb uX1 hown hK.1 hP 3 rfl rfl 6 (by decide) (htb _ tg_111) (fun _ h9 => h9) rfl dX11_about_103 ?_
    have hg := Option.some.inj hg
    rw [hQ]
    exact W.iret (v := (pX1_pairs v2)) hx hb hr (fun t ht hW => ⟨⟨(pX1_pairs v2), (), rfl, hg, by rw [ht]; exact hP, hD⟩, hS.F ht⟩) hS.2.2 dX11_about_106
  have hg := g_if hg c_5
  by_cases c_6 : p0 = 5
  · have hg := g_it hg c_6
    refine lv_tableIn (tgt := 107) (off := 106) hx hb dX11_about_1 (by rw [c_6]; decide) (by rw [c_6]; decide) (by rw [c_6]; decide +kernel) (by decide) ?_
    refine lv_aload_n hx hb dX11_about_107 rfl (lv_at hl 0 rfl) ?_
    refine va_get (ci := 10) (v := .ref a1) (C := RX11) (T := TX11) (N := 9) hx hb htb uX11 hown hK.1 hP 0 rfl rfl 0 (by decide) (htb _ tg_412) (fun _ h9 => h9) rfl dX11_about_108 ?_
    refine va_get (ci := 7) (v := .int (pX8_rules v1)) (C := RX8) (T := TX8) (N := 6) hx hb htb uX8 hown hK.1 hP 1 rfl rfl 5 (by decide) (htb _ tg_248) (fun _ h9 => h9) rfl dX11_about_111 ?_
    have hg := Option.some.inj hg
    rw [hQ]
    exact W.iret (v := (pX8_rules v1)) hx hb hr (fun t ht hW => ⟨⟨(pX8_rules v1), (), rfl, hg, by rw [ht]; exact hP, hD⟩, hS.F ht⟩) hS.2.2 dX11_about_114
  have hg := g_if hg c_6
  by_cases c_7 : p0 = 6
  · have hg := g_it hg c_7
    refine lv_tableIn (tgt := 115) (off := 114) hx hb dX11_about_1 (by rw [c_7]; decide) (by rw [c_7]; decide) (by rw [c_7]; decide +kernel) (by decide) ?_
    refine lv_aload_n hx hb dX11_about_115 rfl (lv_at hl 0 rfl) ?_
    refine va_get (ci := 10) (v := .ref a1) (C := RX11) (T := TX11) (N := 9) hx hb htb uX11 hown hK.1 hP 0 rfl rfl 0 (by decide) (htb _ tg_412) (fun _ h9 => h9) rfl dX11_about_116 ?_
    refine va_get (ci := 7) (v := .ref a3) (C := RX8) (T := TX8) (N := 6) hx hb htb uX8 hown hK.1 hP 1 rfl rfl 2 (by decide) (htb _ tg_240) (fun _ h9 => h9) rfl dX11_about_119 ?_
    refine va_get (ci := 4) (v := .int (pX5_count v3)) (C := RX5) (T := TX5) (N := 6) hx hb htb uX5 hown hK.1 hP 9 rfl rfl 5 (by decide) (htb _ tg_151) (fun _ h9 => h9) rfl dX11_about_122 ?_
    have hg := Option.some.inj hg
    rw [hQ]
    exact W.iret (v := (pX5_count v3)) hx hb hr (fun t ht hW => ⟨⟨(pX5_count v3), (), rfl, hg, by rw [ht]; exact hP, hD⟩, hS.F ht⟩) hS.2.2 dX11_about_125
  have hg := g_if hg c_7
  by_cases c_8 : p0 = 7
  · have hg := g_it hg c_8
    refine lv_tableIn (tgt := 126) (off := 125) hx hb dX11_about_1 (by rw [c_8]; decide) (by rw [c_8]; decide) (by rw [c_8]; decide +kernel) (by decide) ?_
    refine lv_aload_n hx hb dX11_about_126 rfl (lv_at hl 0 rfl) ?_
    refine va_get (ci := 10) (v := .int (pX11_tapeSize v0)) (C := RX11) (T := TX11) (N := 9) hx hb htb uX11 hown hK.1 hP 0 rfl rfl 7 (by decide) (htb _ tg_419) (fun _ h9 => h9) rfl dX11_about_127 ?_
    have hg := Option.some.inj hg
    rw [hQ]
    exact W.iret (v := (pX11_tapeSize v0)) hx hb hr (fun t ht hW => ⟨⟨(pX11_tapeSize v0), (), rfl, hg, by rw [ht]; exact hP, hD⟩, hS.F ht⟩) hS.2.2 dX11_about_130
  have hg := g_if hg c_8
  by_cases c_9 : p0 = 8
  · have hg := g_it hg c_9
    refine lv_tableIn (tgt := 131) (off := 130) hx hb dX11_about_1 (by rw [c_9]; decide) (by rw [c_9]; decide) (by rw [c_9]; decide +kernel) (by decide) ?_
    refine lv_aload_n hx hb dX11_about_131 rfl (lv_at hl 0 rfl) ?_
    refine va_get (ci := 10) (v := .ref a1) (C := RX11) (T := TX11) (N := 9) hx hb htb uX11 hown hK.1 hP 0 rfl rfl 0 (by decide) (htb _ tg_412) (fun _ h9 => h9) rfl dX11_about_132 ?_
    refine va_get (ci := 7) (v := .ref a4) (C := RX8) (T := TX8) (N := 6) hx hb htb uX8 hown hK.1 hP 1 rfl rfl 0 (by decide) (htb _ tg_233) (fun _ h9 => h9) rfl dX11_about_135 ?_
    obtain ⟨r_10, hr_10, hg⟩ := g_bd hg
    refine cc_i (va_runV (C := RX10) (As := []) (rest := []) ⟨hx, hb, hml, hown, htb⟩ (k_X10_countOwnMarks a4 a4_own a4_bodyX a4_bodyY a4_bodyWayX a4_bodyWayY a4_bodyMark v4 r_10 hr_10) (cw_V 0 htb tg_923 tg_3 tg_920 tg_921 tg_922 rfl rfl (by decide +kernel) ⟨Nat.le_of_ble_eq_true rfl, Nat.le_of_ble_eq_true rfl⟩) ⟨PC.blind, va_recv hK.1 hP (ci := 9) (q0 := 15) rfl rfl, PC.pre hK hT hP hD hS hA [15, 16, 17, 18, 19, 20, 21] rfl (by decide)⟩ rfl rfl hl.1 rfl (lv_room (Nat.le_of_ble_eq_true rfl)) dX11_about_138 ⟨Nat.le_of_ble_eq_true rfl, Nat.le_of_ble_eq_true rfl⟩) hP hD hS hA [15, 16, 17, 18, 19, 20, 21] [0, 1, 2, 3, 4, 5, 6, 7, 8, 9, 10, 11, 12, 13, 14] rfl rfl (by decide) (by decide) (fun r9 u9 H locs hw hP hD hS => ?_)
    have hw := hw.symm
    subst hw
    have hP : va_P D vwCl (WS_X11_about cI cJ cZ cY a0 a0_tape a0_firstTakes r0_saved r0_sight r0_flyer r0_parser a1 a1_codes r1_flight a2 a2_lensSide a2_lensWidth a2_pairA a2_pairB a2_pairDelay a3 a3_x a3_y a3_head a3_size a3_turns a4 a4_own a4_bodyX a4_bodyY a4_bodyWayX a4_bodyWayY a4_bodyMark v0 v1 v2 v3 v4) H := hP.sub [0, 1, 2, 3, 4, 5, 6, 7, 8, 9, 10, 11, 12, 13, 14, 15, 16, 17, 18, 19, 20, 21] rfl
    have hD : va_D A (WS_X11_about cI cJ cZ cY a0 a0_tape a0_firstTakes r0_saved r0_sight r0_flyer r0_parser a1 a1_codes r1_flight a2 a2_lensSide a2_lensWidth a2_pairA a2_pairB a2_pairDelay a3 a3_x a3_y a3_head a3_size a3_turns a4 a4_own a4_bodyX a4_bodyY a4_bodyWayX a4_bodyWayY a4_bodyMark v0 v1 v2 v3 v4) := hD.sub [0, 1, 2, 3, 4, 5, 6, 7, 8, 9, 10, 11, 12, 13, 14, 15, 16, 17, 18, 19, 20, 21] (by decide) rfl
    have hg := Option.some.inj hg
    rw [hQ]
    exact W.iret (v := r_10) hx hb hr (fun t ht hW => ⟨⟨r_10, (), rfl, hg, by rw [ht]; exact hP, hD⟩, hS.F ht⟩) hS.2.2 dX11_about_141
  have hg := g_if hg c_9
  have zc_1 := lv_neT (a := 0) c_1 (by decide)
  have zc_2 := lv_neT (a := 1) c_2 (by decide)
  have zc_3 := lv_neT (a := 2) c_3 (by decide)
  have zc_4 := lv_neT (a := 3) c_4 (by decide)
  have zc_5 := lv_neT (a := 4) c_5 (by decide)
  have zc_6 := lv_neT (a := 5) c_6 (by decide)
  have zc_7 := lv_neT (a := 6) c_7 (by decide)
  have zc_8 := lv_neT (a := 7) c_8 (by decide)
  have zc_9 := lv_neT (a := 8) c_9 (by decide)
  refine lv_tableOut (tgt := 142) hx hb dX11_about_1 (by omega) (by decide) ?_
  refine lv_iconst (v := (-1)) hx hb dX11_about_142 (by decide) ?_
  have hg := Option.some.inj hg
  rw [hQ]
  exact W.iret (v := (-1)) hx hb hr (fun t ht hW => ⟨⟨(-1), (), rfl, hg, by rw [ht]; exact hP, hD⟩, hS.F ht⟩) hS.2.2 dX11_about_143

/-! ManyEyes.putBytes(I)V -/
def WS_X11_putBytes (cI cJ cZ cY : ClassId) (a0 a0_tape a0_firstTakes r0_now r0_saved r0_sight r0_flyer r0_parser : Nat) (v0 : BX11) : va_W := (GX11 cI cJ cZ cY a0 a0_tape a0_firstTakes r0_now r0_saved r0_sight r0_flyer r0_parser v0)
def f_X11_putBytes_b3B (J3 : Int32 × Int32 × BX11 → Option (BX11)) (x1 : Int32) (x2 : Int32) (v0 : BX11) : Option (BX11) := if (x2 : Int32) < 0 then (some (v0)) else (if (300 : Int32) ≤ (pX11_tapeSize v0) then (some (v0)) else (g_lt (((((x1 : Int32).toUInt32 >>> ((x2 : Int32).toUInt32 &&& Int32.toUInt32 31)).toInt32) &&& 255) : Int32) (fun x_3 => g_gd (inB (pX11_tapeSize v0) 300) (g_lt (sX11_tape v0 (upd (pX11_tape v0) ((pX11_tapeSize v0) : Int32).toNatClampNeg x_3)) (fun v0_5 => g_lt (((pX11_tapeSize v0_5) + 1) : Int32) (fun x_6 => g_lt (sX11_tapeSize v0_5 x_6) (fun v0_7 => g_lt (x2 + (-8) : Int32) (fun x2_8 => J3 (x1, x2_8, v0_7)))))))))
def f_X11_putBytes_b3 : Nat → (Int32 × Int32 × BX11) → Option (BX11) := g_lp (fun J z => f_X11_putBytes_b3B J z.1 z.2.1 z.2.2)
def f_X11_putBytes (v0 : BX11) (p0 : Int32) : Option (BX11) := f_X11_putBytes_b3 fU (p0, 24, v0)
abbrev rm_X11_putBytes : Room := { frames := 0, cells := 0, slots := 0, locals := 0 }
set_option maxHeartbeats 4000000 in
set_option maxRecDepth 100000 in
theorem k_X11_putBytes {l : Launch} {D : va_G} {cI cJ cZ cY : ClassId} {tX tY : Nat} {sz : Nat} (a0 a0_tape a0_firstTakes r0_now r0_saved r0_sight r0_flyer r0_parser : Nat) (v0 : BX11) (p0 : Int32) (res : BX11) (hg : f_X11_putBytes v0 p0 = some res) : Met l yX11_putBytes (Cond.code yX11_putBytes cX11_putBytes 3 none :: TB) rm_X11_putBytes (PC D cI cJ cZ cY tX tY [.ref a0, .int p0] (WS_X11_putBytes cI cJ cZ cY a0 a0_tape a0_firstTakes r0_now r0_saved r0_sight r0_flyer r0_parser v0) sz) (va_Qv (fun (u : BX11) => u = res) (BC D (fun u : BX11 => WS_X11_putBytes cI cJ cZ cY a0 a0_tape a0_firstTakes r0_now r0_saved r0_sight r0_flyer r0_parser u) (va_A (WS_X11_putBytes cI cJ cZ cY a0 a0_tape a0_firstTakes r0_now r0_saved r0_sight r0_flyer r0_parser v0) sz)) (va_A (WS_X11_putBytes cI cJ cZ cY a0 a0_tape a0_firstTakes r0_now r0_saved r0_sight r0_flyer r0_parser v0) sz)) 0 0 (va_A (WS_X11_putBytes cI cJ cZ cY a0 a0_tape a0_firstTakes r0_now r0_saved r0_sight r0_flyer r0_parser v0) sz) := by
  refine Met.ofW (cc := cX11_putBytes) (maxL := 3) (ret := none) (by decide) rfl ?_
  intro p e s m args below meth c s₁ B hml hv
  obtain ⟨hargs, hsz, hP, hK, hD0, hT⟩ := hv
  have hx := B.exec
  have hb := B.bytes
  have hr := B.returns
  have htb : ∀ w ∈ TB, w.before args s = true := fun w h => atoms_spec (ws := Cond.code yX11_putBytes cX11_putBytes 3 none :: TB) B.pre w (List.mem_cons_of_mem _ h)
  have hown : s.vm.findClass "ManyEyes" = some m.cls := findClass_of_methodNamed B.named
  have hlocks := B.notSynchronized
  subst hsz
  have hD := hD0.self (sz := s.heap.size)
  generalize hAe : va_A (WS_X11_putBytes cI cJ cZ cY a0 a0_tape a0_firstTakes r0_now r0_saved r0_sight r0_flyer r0_parser v0) s.heap.size = A at hD hT ⊢
  have hA : ∀ q : Nat, s.heap.size ≤ q → A q := fun q h => by rw [← hAe]; exact Or.inr h
  have hS : va_S A s.heap s.heap [] := va_S.rf
  have hl := lv_entry ([.ref a0, .int p0]) (n := 3) (Nat.le_of_ble_eq_true rfl)
  have he : entryFrame m args 3 = F0 m 0 (lg_sl ([.ref a0, .int p0]) ++ List.replicate (3 - (lg_sl ([.ref a0, .int p0])).length) Slot.unset).toArray [] := by rw [hargs, lg_entry_eq]
  rw [he]
  generalize (lg_sl ([.ref a0, .int p0]) ++ List.replicate (3 - (lg_sl ([.ref a0, .int p0])).length) Slot.unset).toArray = ls at hl ⊢
  have hl : lv_has ls 3 [(0, .ref a0), (1, .int p0)] := hl
  show W p l e rm_X11_putBytes s m args below meth c s.heap [] 0 0 _ _
  refine W.genQ (fun Q hQ => ?_)
  have b_3 : ∀ (n : Nat), ∀ (x1 : Int32) (x2 : Int32) (v0 : BX11) (H : Heap) (locs : List Loc) (ls : Array Slot), va_P D vwCl (WS_X11_putBytes cI cJ cZ cY a0 a0_tape a0_firstTakes r0_now r0_saved r0_sight r0_flyer r0_parser v0) H → va_D A (WS_X11_putBytes cI cJ cZ cY a0 a0_tape a0_firstTakes r0_now r0_saved r0_sight r0_flyer r0_parser v0) → va_S A s.heap H locs → lv_has ls 3 [(0, .ref a0), (1, .int x1), (2, .int x2)] → f_X11_putBytes_b3 n (x1, x2, v0) = some res → W p l e rm_X11_putBytes s m args below meth c H locs 0 0 Q (F0 m 3 ls []) := by
    intro n
    induction n with
    | zero =>
      intro x1 x2 v0 H locs ls hP hD hS hl hg
      exact (g_lp0 hg).elim
    | succ n ih =>
      intro x1 x2 v0 H locs ls hP hD hS hl hg
      have hg : f_X11_putBytes_b3B (f_X11_putBytes_b3 n) x1 x2 v0 = some res := hg
      unfold f_X11_putBytes_b3B at hg
      refine lv_iload_n hx hb dX11_putBytes_3 rfl (lv_at hl 2 rfl) ?_
      refine lv_if_lt (tgt := 51) hx hb dX11_putBytes_4 (by decide) (fun c_1 => ?_) (fun c_1 => ?_)
      · have hg := g_it hg c_1
        have hg := Option.some.inj hg
        rw [hQ]
        exact W.vret hx hb hr (fun t ht hW => ⟨⟨(v0), rfl, hg, by rw [ht]; exact hP, hD⟩, hS.F ht⟩) hS.2.2 dX11_putBytes_51
      · have hg := g_if hg c_1
        refine lv_aload_n hx hb dX11_putBytes_7 rfl (lv_at hl 0 rfl) ?_
        refine va_get (ci := 10) (v := .int (pX11_tapeSize v0)) (C := RX11) (T := TX11) (N := 9) hx hb htb uX11 hown hK.1 hP 0 rfl rfl 7 (by decide) (htb _ tg_419) (fun _ h9 => h9) rfl dX11_putBytes_8 ?_
        refine lv_aload_n hx hb dX11_putBytes_11 rfl (lv_at hl 0 rfl) ?_
        refine va_get (ci := 10) (v := .ref a0_tape) (C := RX11) (T := TX11) (N := 9) hx hb htb uX11 hown hK.1 hP 0 rfl rfl 5 (by decide) (htb _ tg_417) (fun _ h9 => h9) rfl dX11_putBytes_12 ?_
        refine va_alen (v := 300) hx hb hK.1 hP 1 0 rfl rfl rfl dX11_putBytes_15 ?_
        refine lv_icmp_ge (tgt := 51) hx hb dX11_putBytes_16 (by decide) (fun c_2 => ?_) (fun c_2 => ?_)
        · have hg := g_it hg c_2
          have hg := Option.some.inj hg
          rw [hQ]
          exact W.vret hx hb hr (fun t ht hW => ⟨⟨(v0), rfl, hg, by rw [ht]; exact hP, hD⟩, hS.F ht⟩) hS.2.2 dX11_putBytes_51
        · have hg := g_if hg c_2
          refine lv_aload_n hx hb dX11_putBytes_19 rfl (lv_at hl 0 rfl) ?_
          refine va_get (ci := 10) (v := .ref a0_tape) (C := RX11) (T := TX11) (N := 9) hx hb htb uX11 hown hK.1 hP 0 rfl rfl 5 (by decide) (htb _ tg_417) (fun _ h9 => h9) rfl dX11_putBytes_20 ?_
          refine lv_aload_n hx hb dX11_putBytes_23 rfl (lv_at hl 0 rfl) ?_
          refine va_get (ci := 10) (v := .int (pX11_tapeSize v0)) (C := RX11) (T := TX11) (N := 9) hx hb htb uX11 hown hK.1 hP 0 rfl rfl 7 (by decide) (htb _ tg_419) (fun _ h9 => h9) rfl dX11_putBytes_24 ?_
          refine lv_iload_n hx hb dX11_putBytes_27 rfl (lv_at hl 1 rfl) ?_
          refine lv_iload_n hx hb dX11_putBytes_28 rfl (lv_at hl 2 rfl) ?_
          refine lv_iushr (v := ((x1 : Int32).toUInt32 >>> ((x2 : Int32).toUInt32 &&& Int32.toUInt32 31)).toInt32) hx hb dX11_putBytes_29 rfl ?_
          refine lv_sipush (v := 255) hx hb dX11_putBytes_30 (by decide) ?_
          refine lv_iand hx hb dX11_putBytes_33 ?_
          refine lv_topi (fun x_3 ex_3 => ?_)
          have hg := g_lte hg x_3 ex_3
          obtain ⟨h_4, hg⟩ := g_gde hg
          refine va_iast hx hb hK.1 hP hD hS 1 0 rfl rfl (inB_vp h_4) dX11_putBytes_34 (fun H locs hP hD hS => ?_)
          obtain ⟨v0_5, ev0_5⟩ : ∃ z, z = sX11_tape v0 (upd (pX11_tape v0) ((pX11_tapeSize v0) : Int32).toNatClampNeg x_3) := ⟨_, rfl⟩
          have hP : va_P D vwCl (WS_X11_putBytes cI cJ cZ cY a0 a0_tape a0_firstTakes r0_now r0_saved r0_sight r0_flyer r0_parser v0_5) H := by rw [ev0_5]; exact hP
          have hD : va_D A (WS_X11_putBytes cI cJ cZ cY a0 a0_tape a0_firstTakes r0_now r0_saved r0_sight r0_flyer r0_parser v0_5) := by rw [ev0_5]; exact hD
          have hg := g_lte hg v0_5 ev0_5
          refine lv_aload_n hx hb dX11_putBytes_35 rfl (lv_at hl 0 rfl) ?_
          refine lv_dup hx hb dX11_putBytes_36 rfl ?_
          refine va_get (ci := 10) (v := .int (pX11_tapeSize v0_5)) (C := RX11) (T := TX11) (N := 9) hx hb htb uX11 hown hK.1 hP 0 rfl rfl 7 (by decide) (htb _ tg_419) (fun _ h9 => h9) rfl dX11_putBytes_37 ?_
          refine lv_iconst (v := 1) hx hb dX11_putBytes_40 (by decide) ?_
          refine lv_iadd hx hb dX11_putBytes_41 ?_
          refine lv_topi (fun x_6 ex_6 => ?_)
          have hg := g_lte hg x_6 ex_6
          refine va_put (ci := 10) (v := .int x_6) (ty := .int) (C := RX11) (T := TX11) (N := 9) hx hb htb uX11 tyX11 tyX11_ok nmX11 hown hK.1 hP hD hS 0 rfl rfl 7 (by decide) (htb _ tg_419) (fun _ h9 => h9) rfl (by decide +kernel) rfl rfl (Nat.le_of_ble_eq_true rfl) dX11_putBytes_42 (fun H locs hP hD hS => ?_)
          obtain ⟨v0_7, ev0_7⟩ : ∃ z, z = sX11_tapeSize v0_5 x_6 := ⟨_, rfl⟩
          have hP : va_P D vwCl (WS_X11_putBytes cI cJ cZ cY a0 a0_tape a0_firstTakes r0_now r0_saved r0_sight r0_flyer r0_parser v0_7) H := by rw [ev0_7]; exact hP
          have hD : va_D A (WS_X11_putBytes cI cJ cZ cY a0 a0_tape a0_firstTakes r0_now r0_saved r0_sight r0_flyer r0_parser v0_7) := by rw [ev0_7]; exact hD
          have hg := g_lte hg v0_7 ev0_7
          obtain ⟨x2_8, ex2_8⟩ : ∃ z : Int32, z = x2 + (-8) := ⟨_, rfl⟩
          have hg := g_lte hg x2_8 ex2_8
          refine lv_iinc (v := x2_8) (lv' := [(2, .int x2_8), (0, .ref a0), (1, .int x1)]) hx hb dX11_putBytes_45 hl (k := 2) rfl (by rw [ex2_8]; rfl) (by decide) rfl (fun ls hl => ?_)
          refine lv_goto (tgt := 3) hx hb dX11_putBytes_48 (by decide) ?_
          exact ih x1 x2_8 v0_7 H locs ls hP hD hS (lv_sub hl [1, 2, 0] rfl) hg
  generalize hHe : s.heap = H at hP ⊢
  have hS : va_S A s.heap H [] := by rw [← hHe]; exact va_S.rf
  generalize ([] : List Loc) = locs at hS ⊢
  unfold f_X11_putBytes at hg
  refine lv_bipush (v := 24) hx hb dX11_putBytes_0 (by decide) ?_
  refine lv_istore_n (lv' := [(2, .int 24), (0, .ref a0), (1, .int p0)]) hx hb dX11_putBytes_2 rfl hl (by decide) rfl (fun ls hl => ?_)
  exact b_3 fU p0 24 v0 H locs ls hP hD hS (lv_sub hl [1, 2, 0] rfl) hg

/-! ManyEyes.fillTakes([II)V -/
def WS_X11_fillTakes (cI cJ cZ cY : ClassId) (a0 a1 a1_tape a1_firstTakes r1_saved r1_flyer r1_parser a2 a2_codes r2_reads r2_flight a3 a3_view a3_rays a4 a4_lensSide a4_lensWidth a4_pairA a4_pairB a4_pairDelay a5 a5_own a5_bodyX a5_bodyY a5_bodyWayX a5_bodyWayY a5_bodyMark n0 : Nat) (v0 : (Nat → Int32)) (v1 : BX11) (v2 : BX8) (v3 : BX7) (v4 : BX1) (v5 : BX10) : va_W := (GA cI a0 n0 v0) ++ ((GX11o cI cJ cZ cY a1 a1_tape a1_firstTakes a2 r1_saved a3 r1_flyer r1_parser v1) ++ ((GX8 cI cJ cZ cY a2 a2_codes a5 a4 r2_reads r2_flight v2) ++ ((GX7 cI cJ cZ cY a3 a3_view a3_rays a5 v3) ++ ((GX1 cI cJ cZ cY a4 a4_lensSide a4_lensWidth a4_pairA a4_pairB a4_pairDelay v4) ++ ((GX10 cI cJ cZ cY a5 a5_own a5_bodyX a5_bodyY a5_bodyWayX a5_bodyWayY a5_bodyMark v5))))))
def f_X11_fillTakes_b11B (n0 : Nat) (v1 : BX11) (v2 : BX8) (v4 : BX1) (v5 : BX10) (J11 : Int32 × Int32 × (Nat → Int32) × BX7 → Option ((Nat → Int32) × BX7)) (x2 : Int32) (x4 : Int32) (v0 : (Nat → Int32)) (v3 : BX7) : Option ((Nat → Int32) × BX7) := if ((pX1_lenses v4) : Int32) ≤ x4 then (some (v0, v3)) else (if ((Int32.ofNat n0) : Int32) ≤ x4 then (some (v0, v3)) else (g_gd (inB x4 16) (g_gd (inB x4 16) ((f_X7_weigh v3 v5 ((pX1_lensSide v4) (x4 : Int32).toNatClampNeg) ((pX1_lensWidth v4) (x4 : Int32).toNatClampNeg) x2).bind (fun r_5 => g_gd (inB x4 n0) (g_lt (upd v0 (x4 : Int32).toNatClampNeg r_5.1) (fun v0_7 => g_lt (x4 + 1 : Int32) (fun x4_8 => J11 (x2, x4_8, v0_7, r_5.2)))))))))
def f_X11_fillTakes_b11 (n0 : Nat) (v1 : BX11) (v2 : BX8) (v4 : BX1) (v5 : BX10) : Nat → (Int32 × Int32 × (Nat → Int32) × BX7) → Option ((Nat → Int32) × BX7) := g_lp (fun J z => f_X11_fillTakes_b11B n0 v1 v2 v4 v5 J z.1 z.2.1 z.2.2.1 z.2.2.2)
def f_X11_fillTakes (n0 : Nat) (v0 : (Nat → Int32)) (v1 : BX11) (v2 : BX8) (v3 : BX7) (v4 : BX1) (v5 : BX10) (p1 : Int32) : Option ((Nat → Int32) × BX7) := f_X11_fillTakes_b11 n0 v1 v2 v4 v5 fU (p1, 0, v0, v3)
abbrev rm_X11_fillTakes : Room := { frames := 2, cells := 0, slots := 0, locals := 53 }
set_option maxHeartbeats 4000000 in
set_option maxRecDepth 100000 in
theorem k_X11_fillTakes {l : Launch} {D : va_G} {cI cJ cZ cY : ClassId} {tX tY : Nat} {sz : Nat} (a0 a1 a1_tape a1_firstTakes r1_saved r1_flyer r1_parser a2 a2_codes r2_reads r2_flight a3 a3_view a3_rays a4 a4_lensSide a4_lensWidth a4_pairA a4_pairB a4_pairDelay a5 a5_own a5_bodyX a5_bodyY a5_bodyWayX a5_bodyWayY a5_bodyMark n0 : Nat) (v0 : (Nat → Int32)) (v1 : BX11) (v2 : BX8) (v3 : BX7) (v4 : BX1) (v5 : BX10) (p1 : Int32) (res : (Nat → Int32) × BX7) (hg : f_X11_fillTakes n0 v0 v1 v2 v3 v4 v5 p1 = some res) : Met l yX11_fillTakes (Cond.code yX11_fillTakes cX11_fillTakes 5 none :: TB) rm_X11_fillTakes (PC D cI cJ cZ cY tX tY [.ref a1, .ref a0, .int p1] (WS_X11_fillTakes cI cJ cZ cY a0 a1 a1_tape a1_firstTakes r1_saved r1_flyer r1_parser a2 a2_codes r2_reads r2_flight a3 a3_view a3_rays a4 a4_lensSide a4_lensWidth a4_pairA a4_pairB a4_pairDelay a5 a5_own a5_bodyX a5_bodyY a5_bodyWayX a5_bodyWayY a5_bodyMark n0 v0 v1 v2 v3 v4 v5) sz) (va_Qv (fun (u : (Nat → Int32) × BX7) => u = res) (BC D (fun u : (Nat → Int32) × BX7 => WS_X11_fillTakes cI cJ cZ cY a0 a1 a1_tape a1_firstTakes r1_saved r1_flyer r1_parser a2 a2_codes r2_reads r2_flight a3 a3_view a3_rays a4 a4_lensSide a4_lensWidth a4_pairA a4_pairB a4_pairDelay a5 a5_own a5_bodyX a5_bodyY a5_bodyWayX a5_bodyWayY a5_bodyMark n0 u.1 v1 v2 u.2 v4 v5) (va_A (WS_X11_fillTakes cI cJ cZ cY a0 a1 a1_tape a1_firstTakes r1_saved r1_flyer r1_parser a2 a2_codes r2_reads r2_flight a3 a3_view a3_rays a4 a4_lensSide a4_lensWidth a4_pairA a4_pairB a4_pairDelay a5 a5_own a5_bodyX a5_bodyY a5_bodyWayX a5_bodyWayY a5_bodyMark n0 v0 v1 v2 v3 v4 v5) sz)) (va_A (WS_X11_fillTakes cI cJ cZ cY a0 a1 a1_tape a1_firstTakes r1_saved r1_flyer r1_parser a2 a2_codes r2_reads r2_flight a3 a3_view a3_rays a4 a4_lensSide a4_lensWidth a4_pairA a4_pairB a4_pairDelay a5 a5_own a5_bodyX a5_bodyY a5_bodyWayX a5_bodyWayY a5_bodyMark n0 v0 v1 v2 v3 v4 v5) sz)) 0 0 (va_A (WS_X11_fillTakes cI cJ cZ cY a0 a1 a1_tape a1_firstTakes r1_saved r1_flyer r1_parser a2 a2_codes r2_reads r2_flight a3 a3_view a3_rays a4 a4_lensSide a4_lensWidth a4_pairA a4_pairB a4_pairDelay a5 a5_own a5_bodyX a5_bodyY a5_bodyWayX a5_bodyWayY a5_bodyMark n0 v0 v1 v2 v3 v4 v5) sz) := by
  refine Met.ofW (cc := cX11_fillTakes) (maxL := 5) (ret := none) (by decide) rfl ?_
  intro p e s m args below meth c s₁ B hml hv
  obtain ⟨hargs, hsz, hP, hK, hD0, hT⟩ := hv
  have hx := B.exec
  have hb := B.bytes
  have hr := B.returns
  have htb : ∀ w ∈ TB, w.before args s = true := fun w h => atoms_spec (ws := Cond.code yX11_fillTakes cX11_fillTakes 5 none :: TB) B.pre w (List.mem_cons_of_mem _ h)
  have hown : s.vm.findClass "ManyEyes" = some m.cls := findClass_of_methodNamed B.named
  have hlocks := B.notSynchronized
  subst hsz
  have hD := hD0.self (sz := s.heap.size)
  generalize hAe : va_A (WS_X11_fillTakes cI cJ cZ cY a0 a1 a1_tape a1_firstTakes r1_saved r1_flyer r1_parser a2 a2_codes r2_reads r2_flight a3 a3_view a3_rays a4 a4_lensSide a4_lensWidth a4_pairA a4_pairB a4_pairDelay a5 a5_own a5_bodyX a5_bodyY a5_bodyWayX a5_bodyWayY a5_bodyMark n0 v0 v1 v2 v3 v4 v5) s.heap.size = A at hD hT ⊢
  have hA : ∀ q : Nat, s.heap.size ≤ q → A q := fun q h => by rw [← hAe]; exact Or.inr h
  have hS : va_S A s.heap s.heap [] := va_S.rf
  have hl := lv_entry ([.ref a1, .ref a0, .int p1]) (n := 5) (Nat.le_of_ble_eq_true rfl)
  have he : entryFrame m args 5 = F0 m 0 (lg_sl ([.ref a1, .ref a0, .int p1]) ++ List.replicate (5 - (lg_sl ([.ref a1, .ref a0, .int p1])).length) Slot.unset).toArray [] := by rw [hargs, lg_entry_eq]
  rw [he]
  generalize (lg_sl ([.ref a1, .ref a0, .int p1]) ++ List.replicate (5 - (lg_sl ([.ref a1, .ref a0, .int p1])).length) Slot.unset).toArray = ls at hl ⊢
  have hl : lv_has ls 5 [(0, .ref a1), (1, .ref a0), (2, .int p1)] := hl
  show W p l e rm_X11_fillTakes s m args below meth c s.heap [] 0 0 _ _
  refine W.genQ (fun Q hQ => ?_)
  have b_11 : ∀ (n : Nat), ∀ (x2 : Int32) (x4 : Int32) (v0 : (Nat → Int32)) (v3 : BX7) (H : Heap) (locs : List Loc) (ls : Array Slot), va_P D vwCl (WS_X11_fillTakes cI cJ cZ cY a0 a1 a1_tape a1_firstTakes r1_saved r1_flyer r1_parser a2 a2_codes r2_reads r2_flight a3 a3_view a3_rays a4 a4_lensSide a4_lensWidth a4_pairA a4_pairB a4_pairDelay a5 a5_own a5_bodyX a5_bodyY a5_bodyWayX a5_bodyWayY a5_bodyMark n0 v0 v1 v2 v3 v4 v5) H → va_D A (WS_X11_fillTakes cI cJ cZ cY a0 a1 a1_tape a1_firstTakes r1_saved r1_flyer r1_parser a2 a2_codes r2_reads r2_flight a3 a3_view a3_rays a4 a4_lensSide a4_lensWidth a4_pairA a4_pairB a4_pairDelay a5 a5_own a5_bodyX a5_bodyY a5_bodyWayX a5_bodyWayY a5_bodyMark n0 v0 v1 v2 v3 v4 v5) → va_S A s.heap H locs → lv_has ls 5 [(0, .ref a1), (1, .ref a0), (2, .int x2), (3, .ref a4), (4, .int x4)] → f_X11_fillTakes_b11 n0 v1 v2 v4 v5 n (x2, x4, v0, v3) = some res → W p l e rm_X11_fillTakes s m args below meth c H locs 0 0 Q (F0 m 11 ls []) := by
    intro n
    induction n with
    | zero =>
      intro x2 x4 v0 v3 H locs ls hP hD hS hl hg
      exact (g_lp0 hg).elim
    | succ n ih =>
      intro x2 x4 v0 v3 H locs ls hP hD hS hl hg
      have hg : f_X11_fillTakes_b11B n0 v1 v2 v4 v5 (f_X11_fillTakes_b11 n0 v1 v2 v4 v5 n) x2 x4 v0 v3 = some res := hg
      unfold f_X11_fillTakes_b11B at hg
      refine lv_iload hx hb dX11_fillTakes_11 (lv_at hl 4 rfl) ?_
      refine lv_aload_n hx hb dX11_fillTakes_13 rfl (lv_at hl 3 rfl) ?_
      refine va_get (ci := 0) (v := .int (pX1_lenses v4)) (C := RX1) (T := TX1) (N := 7) hx hb htb uX1 hown hK.1 hP 7 rfl rfl 5 (by decide) (htb _ tg_109) (fun _ h9 => h9) rfl dX11_fillTakes_14 ?_
      refine lv_icmp_ge (tgt := 59) hx hb dX11_fillTakes_17 (by decide) (fun c_1 => ?_) (fun c_1 => ?_)
      · have hg := g_it hg c_1
        have hg := Option.some.inj hg
        rw [hQ]
        exact W.vret hx hb hr (fun t ht hW => ⟨⟨(v0, v3), rfl, hg, by rw [ht]; exact hP, hD⟩, hS.F ht⟩) hS.2.2 dX11_fillTakes_59
      · have hg := g_if hg c_1
        refine lv_iload hx hb dX11_fillTakes_20 (lv_at hl 4 rfl) ?_
        refine lv_aload_n hx hb dX11_fillTakes_22 rfl (lv_at hl 1 rfl) ?_
        refine va_alen (v := (Int32.ofNat n0)) hx hb hK.1 hP 0 0 rfl rfl rfl dX11_fillTakes_23 ?_
        refine lv_icmp_ge (tgt := 59) hx hb dX11_fillTakes_24 (by decide) (fun c_2 => ?_) (fun c_2 => ?_)
        · have hg := g_it hg c_2
          have hg := Option.some.inj hg
          rw [hQ]
          exact W.vret hx hb hr (fun t ht hW => ⟨⟨(v0, v3), rfl, hg, by rw [ht]; exact hP, hD⟩, hS.F ht⟩) hS.2.2 dX11_fillTakes_59
        · have hg := g_if hg c_2
          refine lv_aload_n hx hb dX11_fillTakes_27 rfl (lv_at hl 1 rfl) ?_
          refine lv_iload hx hb dX11_fillTakes_28 (lv_at hl 4 rfl) ?_
          refine lv_aload_n hx hb dX11_fillTakes_30 rfl (lv_at hl 0 rfl) ?_
          refine va_get (ci := 10) (v := .ref a3) (C := RX11) (T := TX11) (N := 9) hx hb htb uX11 hown hK.1 hP 1 rfl rfl 2 (by decide) (htb _ tg_414) (fun _ h9 => h9) rfl dX11_fillTakes_31 ?_
          refine lv_aload_n hx hb dX11_fillTakes_34 rfl (lv_at hl 3 rfl) ?_
          refine va_get (ci := 0) (v := .ref a4_lensSide) (C := RX1) (T := TX1) (N := 7) hx hb htb uX1 hown hK.1 hP 7 rfl rfl 0 (by decide) (htb _ tg_93) (fun _ h9 => h9) rfl dX11_fillTakes_35 ?_
          refine lv_iload hx hb dX11_fillTakes_38 (lv_at hl 4 rfl) ?_
          obtain ⟨h_3, hg⟩ := g_gde hg
          refine va_iald hx hb hK.1 hP 8 0 rfl rfl (inB_vp h_3) dX11_fillTakes_40 ?_
          refine lv_aload_n hx hb dX11_fillTakes_41 rfl (lv_at hl 3 rfl) ?_
          refine va_get (ci := 0) (v := .ref a4_lensWidth) (C := RX1) (T := TX1) (N := 7) hx hb htb uX1 hown hK.1 hP 7 rfl rfl 1 (by decide) (htb _ tg_96) (fun _ h9 => h9) rfl dX11_fillTakes_42 ?_
          refine lv_iload hx hb dX11_fillTakes_45 (lv_at hl 4 rfl) ?_
          obtain ⟨h_4, hg⟩ := g_gde hg
          refine va_iald hx hb hK.1 hP 9 0 rfl rfl (inB_vp h_4) dX11_fillTakes_47 ?_
          refine lv_iload_n hx hb dX11_fillTakes_48 rfl (lv_at hl 2 rfl) ?_
          obtain ⟨r_5, hr_5, hg⟩ := g_bd hg
          refine cc_i (va_runV (C := RX7) (As := [.int ((pX1_lensSide v4) (x4 : Int32).toNatClampNeg), .int ((pX1_lensWidth v4) (x4 : Int32).toNatClampNeg), .int x2]) (rest := [.int x4, .ref a0]) ⟨hx, hb, hml, hown, htb⟩ (k_X7_weigh a3 a3_view a3_rays a5 a5_own a5_bodyX a5_bodyY a5_bodyWayX a5_bodyWayY a5_bodyMark v3 v5 ((pX1_lensSide v4) (x4 : Int32).toNatClampNeg) ((pX1_lensWidth v4) (x4 : Int32).toNatClampNeg) x2 r_5 hr_5) (cw_V 3 htb tg_530 tg_8 tg_527 tg_528 tg_529 rfl rfl (by decide +kernel) ⟨Nat.le_of_ble_eq_true rfl, Nat.le_of_ble_eq_true rfl⟩) ⟨PC.blind, va_recv hK.1 hP (ci := 6) (q0 := 4) rfl rfl, PC.pre hK hT hP hD hS hA [4, 5, 6, 13, 14, 15, 16, 17, 18, 19] rfl (by decide)⟩ rfl rfl hl.1 rfl (lv_room (Nat.le_of_ble_eq_true rfl)) dX11_fillTakes_49 ⟨Nat.le_of_ble_eq_true rfl, Nat.le_of_ble_eq_true rfl⟩) hP hD hS hA [4, 5, 6, 13, 14, 15, 16, 17, 18, 19] [0, 1, 2, 3, 7, 8, 9, 10, 11, 12] rfl rfl (by decide) (by decide) (fun r9 u9 H locs hw hP hD hS => ?_)
          obtain ⟨rfl, rfl⟩ := hw
          have hP : va_P D vwCl (WS_X11_fillTakes cI cJ cZ cY a0 a1 a1_tape a1_firstTakes r1_saved r1_flyer r1_parser a2 a2_codes r2_reads r2_flight a3 a3_view a3_rays a4 a4_lensSide a4_lensWidth a4_pairA a4_pairB a4_pairDelay a5 a5_own a5_bodyX a5_bodyY a5_bodyWayX a5_bodyWayY a5_bodyMark n0 v0 v1 v2 r_5.2 v4 v5) H := hP.sub [0, 1, 2, 3, 10, 11, 12, 4, 5, 6, 7, 8, 9, 13, 14, 15, 16, 17, 18, 19] rfl
          have hD : va_D A (WS_X11_fillTakes cI cJ cZ cY a0 a1 a1_tape a1_firstTakes r1_saved r1_flyer r1_parser a2 a2_codes r2_reads r2_flight a3 a3_view a3_rays a4 a4_lensSide a4_lensWidth a4_pairA a4_pairB a4_pairDelay a5 a5_own a5_bodyX a5_bodyY a5_bodyWayX a5_bodyWayY a5_bodyMark n0 v0 v1 v2 r_5.2 v4 v5) := hD.sub [0, 1, 2, 3, 10, 11, 12, 4, 5, 6, 7, 8, 9, 13, 14, 15, 16, 17, 18, 19] (by decide) rfl
          obtain ⟨h_6, hg⟩ := g_gde hg
          refine va_iast hx hb hK.1 hP hD hS 0 0 rfl rfl (inB_vp h_6) dX11_fillTakes_52 (fun H locs hP hD hS => ?_)
          obtain ⟨v0_7, ev0_7⟩ : ∃ z, z = upd v0 (x4 : Int32).toNatClampNeg r_5.1 := ⟨_, rfl⟩
          have hP : va_P D vwCl (WS_X11_fillTakes cI cJ cZ cY a0 a1 a1_tape a1_firstTakes r1_saved r1_flyer r1_parser a2 a2_codes r2_reads r2_flight a3 a3_view a3_rays a4 a4_lensSide a4_lensWidth a4_pairA a4_pairB a4_pairDelay a5 a5_own a5_bodyX a5_bodyY a5_bodyWayX a5_bodyWayY a5_bodyMark n0 v0_7 v1 v2 r_5.2 v4 v5) H := by rw [ev0_7]; exact hP
          have hD : va_D A (WS_X11_fillTakes cI cJ cZ cY a0 a1 a1_tape a1_firstTakes r1_saved r1_flyer r1_parser a2 a2_codes r2_reads r2_flight a3 a3_view a3_rays a4 a4_lensSide a4_lensWidth a4_pairA a4_pairB a4_pairDelay a5 a5_own a5_bodyX a5_bodyY a5_bodyWayX a5_bodyWayY a5_bodyMark n0 v0_7 v1 v2 r_5.2 v4 v5) := by rw [ev0_7]; exact hD
          have hg := g_lte hg v0_7 ev0_7
          obtain ⟨x4_8, ex4_8⟩ : ∃ z : Int32, z = x4 + 1 := ⟨_, rfl⟩
          have hg := g_lte hg x4_8 ex4_8
          refine lv_iinc (v := x4_8) (lv' := [(4, .int x4_8), (0, .ref a1), (1, .ref a0), (2, .int x2), (3, .ref a4)]) hx hb dX11_fillTakes_53 hl (k := 4) rfl (by rw [ex4_8]; rfl) (by decide) rfl (fun ls hl => ?_)
          refine lv_goto (tgt := 11) hx hb dX11_fillTakes_56 (by decide) ?_
          exact ih x2 x4_8 v0_7 r_5.2 H locs ls hP hD hS (lv_sub hl [1, 2, 3, 4, 0] rfl) hg
  generalize hHe : s.heap = H at hP ⊢
  have hS : va_S A s.heap H [] := by rw [← hHe]; exact va_S.rf
  generalize ([] : List Loc) = locs at hS ⊢
  unfold f_X11_fillTakes at hg
  refine lv_aload_n hx hb dX11_fillTakes_0 rfl (lv_at hl 0 rfl) ?_
  refine va_get (ci := 10) (v := .ref a2) (C := RX11) (T := TX11) (N := 9) hx hb htb uX11 hown hK.1 hP 1 rfl rfl 0 (by decide) (htb _ tg_412) (fun _ h9 => h9) rfl dX11_fillTakes_1 ?_
  refine va_get (ci := 7) (v := .ref a4) (C := RX8) (T := TX8) (N := 6) hx hb htb uX8 hown hK.1 hP 2 rfl rfl 1 (by decide) (htb _ tg_237) (fun _ h9 => h9) rfl dX11_fillTakes_4 ?_
  refine lv_astore_n (lv' := [(3, .ref a4), (0, .ref a1), (1, .ref a0), (2, .int p1)]) hx hb dX11_fillTakes_7 rfl hl (by decide) rfl (fun ls hl => ?_)
  refine lv_iconst (v := 0) hx hb dX11_fillTakes_8 (by decide) ?_
  refine lv_istore (lv' := [(4, .int 0), (3, .ref a4), (0, .ref a1), (1, .ref a0), (2, .int p1)]) hx hb dX11_fillTakes_9 hl (by decide) rfl (fun ls hl => ?_)
  exact b_11 fU p1 0 v0 v3 H locs ls hP hD hS (lv_sub hl [2, 3, 4, 1, 0] rfl) hg

/-! ManyEyes.hasTakes([II)Z -/
def WS_X11_hasTakes (cI cJ cZ cY : ClassId) (a0 a1 a1_tape a1_firstTakes r1_saved r1_flyer r1_parser a2 a2_codes r2_reads r2_flight a3 a3_view a3_rays a4 a4_lensSide a4_lensWidth a4_pairA a4_pairB a4_pairDelay a5 a5_own a5_bodyX a5_bodyY a5_bodyWayX a5_bodyWayY a5_bodyMark n0 : Nat) (v0 : (Nat → Int32)) (v1 : BX11) (v2 : BX8) (v3 : BX7) (v4 : BX1) (v5 : BX10) : va_W := (GA cI a0 n0 v0) ++ ((GX11o cI cJ cZ cY a1 a1_tape a1_firstTakes a2 r1_saved a3 r1_flyer r1_parser v1) ++ ((GX8 cI cJ cZ cY a2 a2_codes a5 a4 r2_reads r2_flight v2) ++ ((GX7 cI cJ cZ cY a3 a3_view a3_rays a5 v3) ++ ((GX1 cI cJ cZ cY a4 a4_lensSide a4_lensWidth a4_pairA a4_pairB a4_pairDelay v4) ++ ((GX10 cI cJ cZ cY a5 a5_own a5_bodyX a5_bodyY a5_bodyWayX a5_bodyWayY a5_bodyMark v5))))))
def f_X11_hasTakes_b11B (n0 : Nat) (v0 : (Nat → Int32)) (v1 : BX11) (v2 : BX8) (v4 : BX1) (v5 : BX10) (J11 : Int32 × Int32 × BX7 → Option (Int32 × BX7)) (x2 : Int32) (x4 : Int32) (v3 : BX7) : Option (Int32 × BX7) := if ((pX1_lenses v4) : Int32) ≤ x4 then (some (1, v3)) else (if ((Int32.ofNat n0) : Int32) ≤ x4 then (some (1, v3)) else (g_gd (inB x4 n0) (g_gd (inB x4 16) (g_gd (inB x4 16) ((f_X7_weigh v3 v5 ((pX1_lensSide v4) (x4 : Int32).toNatClampNeg) ((pX1_lensWidth v4) (x4 : Int32).toNatClampNeg) x2).bind (fun r_6 => if ((v0 (x4 : Int32).toNatClampNeg) : Int32) = r_6.1 then (g_lt (x4 + 1 : Int32) (fun x4_8 => J11 (x2, x4_8, r_6.2))) else (some (0, r_6.2))))))))
def f_X11_hasTakes_b11 (n0 : Nat) (v0 : (Nat → Int32)) (v1 : BX11) (v2 : BX8) (v4 : BX1) (v5 : BX10) : Nat → (Int32 × Int32 × BX7) → Option (Int32 × BX7) := g_lp (fun J z => f_X11_hasTakes_b11B n0 v0 v1 v2 v4 v5 J z.1 z.2.1 z.2.2)
def f_X11_hasTakes (n0 : Nat) (v0 : (Nat → Int32)) (v1 : BX11) (v2 : BX8) (v3 : BX7) (v4 : BX1) (v5 : BX10) (p1 : Int32) : Option (Int32 × BX7) := f_X11_hasTakes_b11 n0 v0 v1 v2 v4 v5 fU (p1, 0, v3)
abbrev rm_X11_hasTakes : Room := { frames := 2, cells := 0, slots := 0, locals := 53 }
set_option maxHeartbeats 4000000 in
set_option maxRecDepth 100000 in
theorem k_X11_hasTakes {l : Launch} {D : va_G} {cI cJ cZ cY : ClassId} {tX tY : Nat} {sz : Nat} (a0 a1 a1_tape a1_firstTakes r1_saved r1_flyer r1_parser a2 a2_codes r2_reads r2_flight a3 a3_view a3_rays a4 a4_lensSide a4_lensWidth a4_pairA a4_pairB a4_pairDelay a5 a5_own a5_bodyX a5_bodyY a5_bodyWayX a5_bodyWayY a5_bodyMark n0 : Nat) (v0 : (Nat → Int32)) (v1 : BX11) (v2 : BX8) (v3 : BX7) (v4 : BX1) (v5 : BX10) (p1 : Int32) (res : Int32 × BX7) (hg : f_X11_hasTakes n0 v0 v1 v2 v3 v4 v5 p1 = some res) : Met l yX11_hasTakes (Cond.code yX11_hasTakes cX11_hasTakes 5 (some .boolean) :: TB) rm_X11_hasTakes (PC D cI cJ cZ cY tX tY [.ref a1, .ref a0, .int p1] (WS_X11_hasTakes cI cJ cZ cY a0 a1 a1_tape a1_firstTakes r1_saved r1_flyer r1_parser a2 a2_codes r2_reads r2_flight a3 a3_view a3_rays a4 a4_lensSide a4_lensWidth a4_pairA a4_pairB a4_pairDelay a5 a5_own a5_bodyX a5_bodyY a5_bodyWayX a5_bodyWayY a5_bodyMark n0 v0 v1 v2 v3 v4 v5) sz) (va_Qi (fun (r : Int32) (u : BX7) => r = res.1 ∧ u = res.2) (BC D (fun u : BX7 => WS_X11_hasTakes cI cJ cZ cY a0 a1 a1_tape a1_firstTakes r1_saved r1_flyer r1_parser a2 a2_codes r2_reads r2_flight a3 a3_view a3_rays a4 a4_lensSide a4_lensWidth a4_pairA a4_pairB a4_pairDelay a5 a5_own a5_bodyX a5_bodyY a5_bodyWayX a5_bodyWayY a5_bodyMark n0 v0 v1 v2 u v4 v5) (va_A (WS_X11_hasTakes cI cJ cZ cY a0 a1 a1_tape a1_firstTakes r1_saved r1_flyer r1_parser a2 a2_codes r2_reads r2_flight a3 a3_view a3_rays a4 a4_lensSide a4_lensWidth a4_pairA a4_pairB a4_pairDelay a5 a5_own a5_bodyX a5_bodyY a5_bodyWayX a5_bodyWayY a5_bodyMark n0 v0 v1 v2 v3 v4 v5) sz)) (va_A (WS_X11_hasTakes cI cJ cZ cY a0 a1 a1_tape a1_firstTakes r1_saved r1_flyer r1_parser a2 a2_codes r2_reads r2_flight a3 a3_view a3_rays a4 a4_lensSide a4_lensWidth a4_pairA a4_pairB a4_pairDelay a5 a5_own a5_bodyX a5_bodyY a5_bodyWayX a5_bodyWayY a5_bodyMark n0 v0 v1 v2 v3 v4 v5) sz)) 0 0 (va_A (WS_X11_hasTakes cI cJ cZ cY a0 a1 a1_tape a1_firstTakes r1_saved r1_flyer r1_parser a2 a2_codes r2_reads r2_flight a3 a3_view a3_rays a4 a4_lensSide a4_lensWidth a4_pairA a4_pairB a4_pairDelay a5 a5_own a5_bodyX a5_bodyY a5_bodyWayX a5_bodyWayY a5_bodyMark n0 v0 v1 v2 v3 v4 v5) sz) := by
  refine Met.ofW (cc := cX11_hasTakes) (maxL := 5) (ret := (some .boolean)) (by decide) rfl ?_
  intro p e s m args below meth c s₁ B hml hv
  obtain ⟨hargs, hsz, hP, hK, hD0, hT⟩ := hv
  have hx := B.exec
  have hb := B.bytes
  have hr := B.returns
  have htb : ∀ w ∈ TB, w.before args s = true := fun w h => atoms_spec (ws := Cond.code yX11_hasTakes cX11_hasTakes 5 (some .boolean) :: TB) B.pre w (List.mem_cons_of_mem _ h)
  have hown : s.vm.findClass "ManyEyes" = some m.cls := findClass_of_methodNamed B.named
  have hlocks := B.notSynchronized
  subst hsz
  have hD := hD0.self (sz := s.heap.size)
  generalize hAe : va_A (WS_X11_hasTakes cI cJ cZ cY a0 a1 a1_tape a1_firstTakes r1_saved r1_flyer r1_parser a2 a2_codes r2_reads r2_flight a3 a3_view a3_rays a4 a4_lensSide a4_lensWidth a4_pairA a4_pairB a4_pairDelay a5 a5_own a5_bodyX a5_bodyY a5_bodyWayX a5_bodyWayY a5_bodyMark n0 v0 v1 v2 v3 v4 v5) s.heap.size = A at hD hT ⊢
  have hA : ∀ q : Nat, s.heap.size ≤ q → A q := fun q h => by rw [← hAe]; exact Or.inr h
  have hS : va_S A s.heap s.heap [] := va_S.rf
  have hl := lv_entry ([.ref a1, .ref a0, .int p1]) (n := 5) (Nat.le_of_ble_eq_true rfl)
  have he : entryFrame m args 5 = F0 m 0 (lg_sl ([.ref a1, .ref a0, .int p1]) ++ List.replicate (5 - (lg_sl ([.ref a1, .ref a0, .int p1])).length) Slot.unset).toArray [] := by rw [hargs, lg_entry_eq]
  rw [he]
  generalize (lg_sl ([.ref a1, .ref a0, .int p1]) ++ List.replicate (5 - (lg_sl ([.ref a1, .ref a0, .int p1])).length) Slot.unset).toArray = ls at hl ⊢
  have hl : lv_has ls 5 [(0, .ref a1), (1, .ref a0), (2, .int p1)] := hl
  show W p l e rm_X11_hasTakes s m args below meth c s.heap [] 0 0 _ _
  refine W.genQ (fun Q hQ => ?_)
  have b_11 : ∀ (n : Nat), ∀ (x2 : Int32) (x4 : Int32) (v3 : BX7) (H : Heap) (locs : List Loc) (ls : Array Slot), va_P D vwCl (WS_X11_hasTakes cI cJ cZ cY a0 a1 a1_tape a1_firstTakes r1_saved r1_flyer r1_parser a2 a2_codes r2_reads r2_flight a3 a3_view a3_rays a4 a4_lensSide a4_lensWidth a4_pairA a4_pairB a4_pairDelay a5 a5_own a5_bodyX a5_bodyY a5_bodyWayX a5_bodyWayY a5_bodyMark n0 v0 v1 v2 v3 v4 v5) H → va_D A (WS_X11_hasTakes cI cJ cZ cY a0 a1 a1_tape a1_firstTakes r1_saved r1_flyer r1_parser a2 a2_codes r2_reads r2_flight a3 a3_view a3_rays a4 a4_lensSide a4_lensWidth a4_pairA a4_pairB a4_pairDelay a5 a5_own a5_bodyX a5_bodyY a5_bodyWayX a5_bodyWayY a5_bodyMark n0 v0 v1 v2 v3 v4 v5) → va_S A s.heap H locs → lv_has ls 5 [(0, .ref a1), (1, .ref a0), (2, .int x2), (3, .ref a4), (4, .int x4)] → f_X11_hasTakes_b11 n0 v0 v1 v2 v4 v5 n (x2, x4, v3) = some res → W p l e rm_X11_hasTakes s m args below meth c H locs 0 0 Q (F0 m 11 ls []) := by
    intro n
    induction n with
    | zero =>
      intro x2 x4 v3 H locs ls hP hD hS hl hg
      exact (g_lp0 hg).elim
    | succ n ih =>
      intro x2 x4 v3 H locs ls hP hD hS hl hg
      have hg : f_X11_hasTakes_b11B n0 v0 v1 v2 v4 v5 (f_X11_hasTakes_b11 n0 v0 v1 v2 v4 v5 n) x2 x4 v3 = some res := hg
      unfold f_X11_hasTakes_b11B at hg
      refine lv_iload hx hb dX11_hasTakes_11 (lv_at hl 4 rfl) ?_
      refine lv_aload_n hx hb dX11_hasTakes_13 rfl (lv_at hl 3 rfl) ?_
      refine va_get (ci := 0) (v := .int (pX1_lenses v4)) (C := RX1) (T := TX1) (N := 7) hx hb htb uX1 hown hK.1 hP 7 rfl rfl 5 (by decide) (htb _ tg_109) (fun _ h9 => h9) rfl dX11_hasTakes_14 ?_
      refine lv_icmp_ge (tgt := 64) hx hb dX11_hasTakes_17 (by decide) (fun c_1 => ?_) (fun c_1 => ?_)
      · have hg := g_it hg c_1
        refine lv_iconst (v := 1) hx hb dX11_hasTakes_64 (by decide) ?_
        have hg := Option.some.inj hg
        rw [hQ]
        exact W.zret (v := 1) (ty := .boolean) hx hb hr rfl (fun t ht hW => ⟨⟨1, (v3), rfl, ⟨by rw [← hg], by rw [← hg]⟩, by rw [ht]; exact hP, hD⟩, hS.F ht⟩) hS.2.2 dX11_hasTakes_65
      · have hg := g_if hg c_1
        refine lv_iload hx hb dX11_hasTakes_20 (lv_at hl 4 rfl) ?_
        refine lv_aload_n hx hb dX11_hasTakes_22 rfl (lv_at hl 1 rfl) ?_
        refine va_alen (v := (Int32.ofNat n0)) hx hb hK.1 hP 0 0 rfl rfl rfl dX11_hasTakes_23 ?_
        refine lv_icmp_ge (tgt := 64) hx hb dX11_hasTakes_24 (by decide) (fun c_2 => ?_) (fun c_2 => ?_)
        · have hg := g_it hg c_2
          refine lv_iconst (v := 1) hx hb dX11_hasTakes_64 (by decide) ?_
          have hg := Option.some.inj hg
          rw [hQ]
          exact W.zret (v := 1) (ty := .boolean) hx hb hr rfl (fun t ht hW => ⟨⟨1, (v3), rfl, ⟨by rw [← hg], by rw [← hg]⟩, by rw [ht]; exact hP, hD⟩, hS.F ht⟩) hS.2.2 dX11_hasTakes_65
        · have hg := g_if hg c_2
          refine lv_aload_n hx hb dX11_hasTakes_27 rfl (lv_at hl 1 rfl) ?_
          refine lv_iload hx hb dX11_hasTakes_28 (lv_at hl 4 rfl) ?_
          obtain ⟨h_3, hg⟩ := g_gde hg
          refine va_iald hx hb hK.1 hP 0 0 rfl rfl (inB_vp h_3) dX11_hasTakes_30 ?_
          refine lv_aload_n hx hb dX11_hasTakes_31 rfl (lv_at hl 0 rfl) ?_
          refine va_get (ci := 10) (v := .ref a3) (C := RX11) (T := TX11) (N := 9) hx hb htb uX11 hown hK.1 hP 1 rfl rfl 2 (by decide) (htb _ tg_414) (fun _ h9 => h9) rfl dX11_hasTakes_32 ?_
          refine lv_aload_n hx hb dX11_hasTakes_35 rfl (lv_at hl 3 rfl) ?_
          refine va_get (ci := 0) (v := .ref a4_lensSide) (C := RX1) (T := TX1) (N := 7) hx hb htb uX1 hown hK.1 hP 7 rfl rfl 0 (by decide) (htb _ tg_93) (fun _ h9 => h9) rfl dX11_hasTakes_36 ?_
          refine lv_iload hx hb dX11_hasTakes_39 (lv_at hl 4 rfl) ?_
          obtain ⟨h_4, hg⟩ := g_gde hg
          refine va_iald hx hb hK.1 hP 8 0 rfl rfl (inB_vp h_4) dX11_hasTakes_41 ?_
          refine lv_aload_n hx hb dX11_hasTakes_42 rfl (lv_at hl 3 rfl) ?_
          refine va_get (ci := 0) (v := .ref a4_lensWidth) (C := RX1) (T := TX1) (N := 7) hx hb htb uX1 hown hK.1 hP 7 rfl rfl 1 (by decide) (htb _ tg_96) (fun _ h9 => h9) rfl dX11_hasTakes_43 ?_
          refine lv_iload hx hb dX11_hasTakes_46 (lv_at hl 4 rfl) ?_
          obtain ⟨h_5, hg⟩ := g_gde hg
          refine va_iald hx hb hK.1 hP 9 0 rfl rfl (inB_vp h_5) dX11_hasTakes_48 ?_
          refine lv_iload_n hx hb dX11_hasTakes_49 rfl (lv_at hl 2 rfl) ?_
          obtain ⟨r_6, hr_6, hg⟩ := g_bd hg
          refine cc_i (va_runV (C := RX7) (As := [.int ((pX1_lensSide v4) (x4 : Int32).toNatClampNeg), .int ((pX1_lensWidth v4) (x4 : Int32).toNatClampNeg), .int x2]) (rest := [.int (v0 (x4 : Int32).toNatClampNeg)]) ⟨hx, hb, hml, hown, htb⟩ (k_X7_weigh a3 a3_view a3_rays a5 a5_own a5_bodyX a5_bodyY a5_bodyWayX a5_bodyWayY a5_bodyMark v3 v5 ((pX1_lensSide v4) (x4 : Int32).toNatClampNeg) ((pX1_lensWidth v4) (x4 : Int32).toNatClampNeg) x2 r_6 hr_6) (cw_V 3 htb tg_530 tg_8 tg_527 tg_528 tg_529 rfl rfl (by decide +kernel) ⟨Nat.le_of_ble_eq_true rfl, Nat.le_of_ble_eq_true rfl⟩) ⟨PC.blind, va_recv hK.1 hP (ci := 6) (q0 := 4) rfl rfl, PC.pre hK hT hP hD hS hA [4, 5, 6, 13, 14, 15, 16, 17, 18, 19] rfl (by decide)⟩ rfl rfl hl.1 rfl (lv_room (Nat.le_of_ble_eq_true rfl)) dX11_hasTakes_50 ⟨Nat.le_of_ble_eq_true rfl, Nat.le_of_ble_eq_true rfl⟩) hP hD hS hA [4, 5, 6, 13, 14, 15, 16, 17, 18, 19] [0, 1, 2, 3, 7, 8, 9, 10, 11, 12] rfl rfl (by decide) (by decide) (fun r9 u9 H locs hw hP hD hS => ?_)
          obtain ⟨rfl, rfl⟩ := hw
          have hP : va_P D vwCl (WS_X11_hasTakes cI cJ cZ cY a0 a1 a1_tape a1_firstTakes r1_saved r1_flyer r1_parser a2 a2_codes r2_reads r2_flight a3 a3_view a3_rays a4 a4_lensSide a4_lensWidth a4_pairA a4_pairB a4_pairDelay a5 a5_own a5_bodyX a5_bodyY a5_bodyWayX a5_bodyWayY a5_bodyMark n0 v0 v1 v2 r_6.2 v4 v5) H := hP.sub [0, 1, 2, 3, 10, 11, 12, 4, 5, 6, 7, 8, 9, 13, 14, 15, 16, 17, 18, 19] rfl
          have hD : va_D A (WS_X11_hasTakes cI cJ cZ cY a0 a1 a1_tape a1_firstTakes r1_saved r1_flyer r1_parser a2 a2_codes r2_reads r2_flight a3 a3_view a3_rays a4 a4_lensSide a4_lensWidth a4_pairA a4_pairB a4_pairDelay a5 a5_own a5_bodyX a5_bodyY a5_bodyWayX a5_bodyWayY a5_bodyMark n0 v0 v1 v2 r_6.2 v4 v5) := hD.sub [0, 1, 2, 3, 10, 11, 12, 4, 5, 6, 7, 8, 9, 13, 14, 15, 16, 17, 18, 19] (by decide) rfl
          refine lv_icmp_eq (tgt := 58) hx hb dX11_hasTakes_53 (by decide) (fun c_7 => ?_) (fun c_7 => ?_)
          · have hg := g_it hg c_7
            obtain ⟨x4_8, ex4_8⟩ : ∃ z : Int32, z = x4 + 1 := ⟨_, rfl⟩
            have hg := g_lte hg x4_8 ex4_8
            refine lv_iinc (v := x4_8) (lv' := [(4, .int x4_8), (0, .ref a1), (1, .ref a0), (2, .int x2), (3, .ref a4)]) hx hb dX11_hasTakes_58 hl (k := 4) rfl (by rw [ex4_8]; rfl) (by decide) rfl (fun ls hl => ?_)
            refine lv_goto (tgt := 11) hx hb dX11_hasTakes_61 (by decide) ?_
            exact ih x2 x4_8 r_6.2 H locs ls hP hD hS (lv_sub hl [1, 2, 3, 4, 0] rfl) hg
          · have hg := g_if hg c_7
            refine lv_iconst (v := 0) hx hb dX11_hasTakes_56 (by decide) ?_
            have hg := Option.some.inj hg
            rw [hQ]
            exact W.zret (v := 0) (ty := .boolean) hx hb hr rfl (fun t ht hW => ⟨⟨0, (r_6.2), rfl, ⟨by rw [← hg], by rw [← hg]⟩, by rw [ht]; exact hP, hD⟩, hS.F ht⟩) hS.2.2 dX11_hasTakes_57
  generalize hHe : s.heap = H at hP ⊢
  have hS : va_S A s.heap H [] := by rw [← hHe]; exact va_S.rf
  generalize ([] : List Loc) = locs at hS ⊢
  unfold f_X11_hasTakes at hg
  refine lv_aload_n hx hb dX11_hasTakes_0 rfl (lv_at hl 0 rfl) ?_
  refine va_get (ci := 10) (v := .ref a2) (C := RX11) (T := TX11) (N := 9) hx hb htb uX11 hown hK.1 hP 1 rfl rfl 0 (by decide) (htb _ tg_412) (fun _ h9 => h9) rfl dX11_hasTakes_1 ?_
  refine va_get (ci := 7) (v := .ref a4) (C := RX8) (T := TX8) (N := 6) hx hb htb uX8 hown hK.1 hP 2 rfl rfl 1 (by decide) (htb _ tg_237) (fun _ h9 => h9) rfl dX11_hasTakes_4 ?_
  refine lv_astore_n (lv' := [(3, .ref a4), (0, .ref a1), (1, .ref a0), (2, .int p1)]) hx hb dX11_hasTakes_7 rfl hl (by decide) rfl (fun ls hl => ?_)
  refine lv_iconst (v := 0) hx hb dX11_hasTakes_8 (by decide) ?_
  refine lv_istore (lv' := [(4, .int 0), (3, .ref a4), (0, .ref a1), (1, .ref a0), (2, .int p1)]) hx hb dX11_hasTakes_9 hl (by decide) rfl (fun ls hl => ?_)
  exact b_11 fU p1 0 v3 H locs ls hP hD hS (lv_sub hl [2, 3, 4, 1, 0] rfl) hg

/-! ManyEyes.isWithin(III)Z -/
def WS_X11_isWithin (cI cJ cZ cY : ClassId) : va_W := []
def f_X11_isWithin (p0 : Int32) (p1 : Int32) (p2 : Int32) : Option (Int32) := if (p0 : Int32) < p1 then (some 0) else (if (p2 : Int32) < p0 then (some 0) else (some 1))
abbrev rm_X11_isWithin : Room := { frames := 0, cells := 0, slots := 0, locals := 0 }
set_option maxHeartbeats 4000000 in
set_option maxRecDepth 100000 in
theorem k_X11_isWithin {l : Launch} {D : va_G} {cI cJ cZ cY : ClassId} {tX tY : Nat} {sz : Nat} (p0 : Int32) (p1 : Int32) (p2 : Int32) (res : Int32) (hg : f_X11_isWithin p0 p1 p2 = some res) : Met l yX11_isWithin (Cond.code yX11_isWithin cX11_isWithin 3 (some .boolean) :: TB) rm_X11_isWithin (PC D cI cJ cZ cY tX tY [.int p0, .int p1, .int p2] (WS_X11_isWithin cI cJ cZ cY) sz) (va_Qi (fun (r : Int32) (_ : Unit) => r = res) (BC D (fun _ : Unit => WS_X11_isWithin cI cJ cZ cY) (va_A (WS_X11_isWithin cI cJ cZ cY) sz)) (va_A (WS_X11_isWithin cI cJ cZ cY) sz)) 0 0 (va_A (WS_X11_isWithin cI cJ cZ cY) sz) := by
  refine Met.ofW (cc := cX11_isWithin) (maxL := 3) (ret := (some .boolean)) (by decide) rfl ?_
  intro p e s m args below meth c s₁ B hml hv
  obtain ⟨hargs, hsz, hP, hK, hD0, hT⟩ := hv
  have hx := B.exec
  have hb := B.bytes
  have hr := B.returns
  have htb : ∀ w ∈ TB, w.before args s = true := fun w h => atoms_spec (ws := Cond.code yX11_isWithin cX11_isWithin 3 (some .boolean) :: TB) B.pre w (List.mem_cons_of_mem _ h)
  have hown : s.vm.findClass "ManyEyes" = some m.cls := findClass_of_methodNamed B.named
  have hlocks := B.notSynchronized
  subst hsz
  have hD := hD0.self (sz := s.heap.size)
  generalize hAe : va_A (WS_X11_isWithin cI cJ cZ cY) s.heap.size = A at hD hT ⊢
  have hA : ∀ q : Nat, s.heap.size ≤ q → A q := fun q h => by rw [← hAe]; exact Or.inr h
  have hS : va_S A s.heap s.heap [] := va_S.rf
  have hl := lv_entry ([.int p0, .int p1, .int p2]) (n := 3) (Nat.le_of_ble_eq_true rfl)
  have he : entryFrame m args 3 = F0 m 0 (lg_sl ([.int p0, .int p1, .int p2]) ++ List.replicate (3 - (lg_sl ([.int p0, .int p1, .int p2])).length) Slot.unset).toArray [] := by rw [hargs, lg_entry_eq]
  rw [he]
  generalize (lg_sl ([.int p0, .int p1, .int p2]) ++ List.replicate (3 - (lg_sl ([.int p0, .int p1, .int p2])).length) Slot.unset).toArray = ls at hl ⊢
  have hl : lv_has ls 3 [(0, .int p0), (1, .int p1), (2, .int p2)] := hl
  show W p l e rm_X11_isWithin s m args below meth c s.heap [] 0 0 _ _
  refine W.genQ (fun Q hQ => ?_)
  generalize hHe : s.heap = H at hP ⊢
  have hS : va_S A s.heap H [] := by rw [← hHe]; exact va_S.rf
  generalize ([] : List Loc) = locs at hS ⊢
  unfold f_X11_isWithin at hg
  refine lv_iload_n hx hb dX11_isWithin_0 rfl (lv_at hl 0 rfl) ?_
  refine lv_iload_n hx hb dX11_isWithin_1 rfl (lv_at hl 1 rfl) ?_
  refine lv_icmp_lt (tgt := 14) hx hb dX11_isWithin_2 (by decide) (fun c_1 => ?_) (fun c_1 => ?_)
  · have hg := g_it hg c_1
    refine lv_iconst (v := 0) hx hb dX11_isWithin_14 (by decide) ?_
    have hg := Option.some.inj hg
    rw [hQ]
    exact W.zret (v := 0) (ty := .boolean) hx hb hr rfl (fun t ht hW => ⟨⟨0, (), rfl, hg, by rw [ht]; exact hP, hD⟩, hS.F ht⟩) hS.2.2 dX11_isWithin_15
  · have hg := g_if hg c_1
    refine lv_iload_n hx hb dX11_isWithin_5 rfl (lv_at hl 0 rfl) ?_
    refine lv_iload_n hx hb dX11_isWithin_6 rfl (lv_at hl 2 rfl) ?_
    refine lv_icmp_gt (tgt := 14) hx hb dX11_isWithin_7 (by decide) (fun c_2 => ?_) (fun c_2 => ?_)
    · have hg := g_it hg c_2
      refine lv_iconst (v := 0) hx hb dX11_isWithin_14 (by decide) ?_
      have hg := Option.some.inj hg
      rw [hQ]
      exact W.zret (v := 0) (ty := .boolean) hx hb hr rfl (fun t ht hW => ⟨⟨0, (), rfl, hg, by rw [ht]; exact hP, hD⟩, hS.F ht⟩) hS.2.2 dX11_isWithin_15
    · have hg := g_if hg c_2
      refine lv_iconst (v := 1) hx hb dX11_isWithin_10 (by decide) ?_
      refine lv_goto (tgt := 15) hx hb dX11_isWithin_11 (by decide) ?_
      have hg := Option.some.inj hg
      rw [hQ]
      exact W.zret (v := 1) (ty := .boolean) hx hb hr rfl (fun t ht hW => ⟨⟨1, (), rfl, hg, by rw [ht]; exact hP, hD⟩, hS.F ht⟩) hS.2.2 dX11_isWithin_15

/-! ManyEyes.isSide(I)Z -/
def WS_X11_isSide (cI cJ cZ cY : ClassId) : va_W := []
def f_X11_isSide (p0 : Int32) : Option (Int32) := (f_X11_isWithin p0 0 63).bind (fun r_1 => g_gd (r_1 = 0 ∨ r_1 = 1) (some r_1))
abbrev rm_X11_isSide : Room := { frames := 1, cells := 0, slots := 0, locals := 22 }
set_option maxHeartbeats 4000000 in
set_option maxRecDepth 100000 in
theorem k_X11_isSide {l : Launch} {D : va_G} {cI cJ cZ cY : ClassId} {tX tY : Nat} {sz : Nat} (p0 : Int32) (res : Int32) (hg : f_X11_isSide p0 = some res) : Met l yX11_isSide (Cond.code yX11_isSide cX11_isSide 1 (some .boolean) :: TB) rm_X11_isSide (PC D cI cJ cZ cY tX tY [.int p0] (WS_X11_isSide cI cJ cZ cY) sz) (va_Qi (fun (r : Int32) (_ : Unit) => r = res) (BC D (fun _ : Unit => WS_X11_isSide cI cJ cZ cY) (va_A (WS_X11_isSide cI cJ cZ cY) sz)) (va_A (WS_X11_isSide cI cJ cZ cY) sz)) 0 0 (va_A (WS_X11_isSide cI cJ cZ cY) sz) := by
  refine Met.ofW (cc := cX11_isSide) (maxL := 1) (ret := (some .boolean)) (by decide) rfl ?_
  intro p e s m args below meth c s₁ B hml hv
  obtain ⟨hargs, hsz, hP, hK, hD0, hT⟩ := hv
  have hx := B.exec
  have hb := B.bytes
  have hr := B.returns
  have htb : ∀ w ∈ TB, w.before args s = true := fun w h => atoms_spec (ws := Cond.code yX11_isSide cX11_isSide 1 (some .boolean) :: TB) B.pre w (List.mem_cons_of_mem _ h)
  have hown : s.vm.findClass "ManyEyes" = some m.cls := findClass_of_methodNamed B.named
  have hlocks := B.notSynchronized
  subst hsz
  have hD := hD0.self (sz := s.heap.size)
  generalize hAe : va_A (WS_X11_isSide cI cJ cZ cY) s.heap.size = A at hD hT ⊢
  have hA : ∀ q : Nat, s.heap.size ≤ q → A q := fun q h => by rw [← hAe]; exact Or.inr h
  have hS : va_S A s.heap s.heap [] := va_S.rf
  have hl := lv_entry ([.int p0]) (n := 1) (Nat.le_of_ble_eq_true rfl)
  have he : entryFrame m args 1 = F0 m 0 (lg_sl ([.int p0]) ++ List.replicate (1 - (lg_sl ([.int p0])).length) Slot.unset).toArray [] := by rw [hargs, lg_entry_eq]
  rw [he]
  generalize (lg_sl ([.int p0]) ++ List.replicate (1 - (lg_sl ([.int p0])).length) Slot.unset).toArray = ls at hl ⊢
  have hl : lv_has ls 1 [(0, .int p0)] := hl
  show W p l e rm_X11_isSide s m args below meth c s.heap [] 0 0 _ _
  refine W.genQ (fun Q hQ => ?_)
  generalize hHe : s.heap = H at hP ⊢
  have hS : va_S A s.heap H [] := by rw [← hHe]; exact va_S.rf
  generalize ([] : List Loc) = locs at hS ⊢
  unfold f_X11_isSide at hg
  refine lv_iload_n hx hb dX11_isSide_0 rfl (lv_at hl 0 rfl) ?_
  refine lv_iconst (v := 0) hx hb dX11_isSide_1 (by decide) ?_
  refine lv_bipush (v := 63) hx hb dX11_isSide_2 (by decide) ?_
  obtain ⟨r_1, hr_1, hg⟩ := g_bd hg
  refine cc_i (va_runS (As := [.int p0, .int 0, .int 63]) (rest := []) ⟨hx, hb, hml, hown, htb⟩ (k_X11_isWithin p0 0 63 r_1 hr_1) (cw_S 3 htb tg_450 tg_1 tg_451 tg_449 rfl rfl (by decide +kernel) ⟨Nat.le_of_ble_eq_true rfl, Nat.le_of_ble_eq_true rfl⟩) ⟨PC.blind, PC.pre hK hT hP hD hS hA [] rfl (by decide)⟩ rfl rfl hl.1 rfl (lv_room (Nat.le_of_ble_eq_true rfl)) dX11_isSide_4 ⟨Nat.le_of_ble_eq_true rfl, Nat.le_of_ble_eq_true rfl⟩) hP hD hS hA [] [] rfl rfl (by decide) (by decide) (fun r9 u9 H locs hw hP hD hS => ?_)
  have hw := hw.symm
  subst hw
  have hP : va_P D vwCl (WS_X11_isSide cI cJ cZ cY) H := hP.sub [] rfl
  have hD : va_D A (WS_X11_isSide cI cJ cZ cY) := hD.sub [] (by decide) rfl
  obtain ⟨h_2, hg⟩ := g_gde hg
  have hg := Option.some.inj hg
  rw [hQ]
  exact W.zret (v := r_1) (ty := .boolean) hx hb hr (bool_nar h_2) (fun t ht hW => ⟨⟨r_1, (), rfl, hg, by rw [ht]; exact hP, hD⟩, hS.F ht⟩) hS.2.2 dX11_isSide_7

/-! ManyEyes.isTick(I)Z -/
def WS_X11_isTick (cI cJ cZ cY : ClassId) : va_W := []
def f_X11_isTick (p0 : Int32) : Option (Int32) := (f_X11_isWithin p0 0 999).bind (fun r_1 => g_gd (r_1 = 0 ∨ r_1 = 1) (some r_1))
abbrev rm_X11_isTick : Room := { frames := 1, cells := 0, slots := 0, locals := 22 }
set_option maxHeartbeats 4000000 in
set_option maxRecDepth 100000 in
theorem k_X11_isTick {l : Launch} {D : va_G} {cI cJ cZ cY : ClassId} {tX tY : Nat} {sz : Nat} (p0 : Int32) (res : Int32) (hg : f_X11_isTick p0 = some res) : Met l yX11_isTick (Cond.code yX11_isTick cX11_isTick 1 (some .boolean) :: TB) rm_X11_isTick (PC D cI cJ cZ cY tX tY [.int p0] (WS_X11_isTick cI cJ cZ cY) sz) (va_Qi (fun (r : Int32) (_ : Unit) => r = res) (BC D (fun _ : Unit => WS_X11_isTick cI cJ cZ cY) (va_A (WS_X11_isTick cI cJ cZ cY) sz)) (va_A (WS_X11_isTick cI cJ cZ cY) sz)) 0 0 (va_A (WS_X11_isTick cI cJ cZ cY) sz) := by
  refine Met.ofW (cc := cX11_isTick) (maxL := 1) (ret := (some .boolean)) (by decide) rfl ?_
  intro p e s m args below meth c s₁ B hml hv
  obtain ⟨hargs, hsz, hP, hK, hD0, hT⟩ := hv
  have hx := B.exec
  have hb := B.bytes
  have hr := B.returns
  have htb : ∀ w ∈ TB, w.before args s = true := fun w h => atoms_spec (ws := Cond.code yX11_isTick cX11_isTick 1 (some .boolean) :: TB) B.pre w (List.mem_cons_of_mem _ h)
  have hown : s.vm.findClass "ManyEyes" = some m.cls := findClass_of_methodNamed B.named
  have hlocks := B.notSynchronized
  subst hsz
  have hD := hD0.self (sz := s.heap.size)
  generalize hAe : va_A (WS_X11_isTick cI cJ cZ cY) s.heap.size = A at hD hT ⊢
  have hA : ∀ q : Nat, s.heap.size ≤ q → A q := fun q h => by rw [← hAe]; exact Or.inr h
  have hS : va_S A s.heap s.heap [] := va_S.rf
  have hl := lv_entry ([.int p0]) (n := 1) (Nat.le_of_ble_eq_true rfl)
  have he : entryFrame m args 1 = F0 m 0 (lg_sl ([.int p0]) ++ List.replicate (1 - (lg_sl ([.int p0])).length) Slot.unset).toArray [] := by rw [hargs, lg_entry_eq]
  rw [he]
  generalize (lg_sl ([.int p0]) ++ List.replicate (1 - (lg_sl ([.int p0])).length) Slot.unset).toArray = ls at hl ⊢
  have hl : lv_has ls 1 [(0, .int p0)] := hl
  show W p l e rm_X11_isTick s m args below meth c s.heap [] 0 0 _ _
  refine W.genQ (fun Q hQ => ?_)
  generalize hHe : s.heap = H at hP ⊢
  have hS : va_S A s.heap H [] := by rw [← hHe]; exact va_S.rf
  generalize ([] : List Loc) = locs at hS ⊢
  unfold f_X11_isTick at hg
  refine lv_iload_n hx hb dX11_isTick_0 rfl (lv_at hl 0 rfl) ?_
  refine lv_iconst (v := 0) hx hb dX11_isTick_1 (by decide) ?_
  refine lv_sipush (v := 999) hx hb dX11_isTick_2 (by decide) ?_
  obtain ⟨r_1, hr_1, hg⟩ := g_bd hg
  refine cc_i (va_runS (As := [.int p0, .int 0, .int 999]) (rest := []) ⟨hx, hb, hml, hown, htb⟩ (k_X11_isWithin p0 0 999 r_1 hr_1) (cw_S 3 htb tg_450 tg_1 tg_451 tg_449 rfl rfl (by decide +kernel) ⟨Nat.le_of_ble_eq_true rfl, Nat.le_of_ble_eq_true rfl⟩) ⟨PC.blind, PC.pre hK hT hP hD hS hA [] rfl (by decide)⟩ rfl rfl hl.1 rfl (lv_room (Nat.le_of_ble_eq_true rfl)) dX11_isTick_5 ⟨Nat.le_of_ble_eq_true rfl, Nat.le_of_ble_eq_true rfl⟩) hP hD hS hA [] [] rfl rfl (by decide) (by decide) (fun r9 u9 H locs hw hP hD hS => ?_)
  have hw := hw.symm
  subst hw
  have hP : va_P D vwCl (WS_X11_isTick cI cJ cZ cY) H := hP.sub [] rfl
  have hD : va_D A (WS_X11_isTick cI cJ cZ cY) := hD.sub [] (by decide) rfl
  obtain ⟨h_2, hg⟩ := g_gde hg
  have hg := Option.some.inj hg
  rw [hQ]
  exact W.zret (v := r_1) (ty := .boolean) hx hb hr (bool_nar h_2) (fun t ht hW => ⟨⟨r_1, (), rfl, hg, by rw [ht]; exact hP, hD⟩, hS.F ht⟩) hS.2.2 dX11_isTick_8

/-! ManyEyes.copyRow([I[I)V -/
def WS_X11_copyRow (cI cJ cZ cY : ClassId) (a0 a1 n0 n1 : Nat) (v0 : (Nat → Int32)) (v1 : (Nat → Int32)) : va_W := (GA cI a0 n0 v0) ++ ((GA cI a1 n1 v1))
def f_X11_copyRow (n0 : Nat) (n1 : Nat) (v0 : (Nat → Int32)) (v1 : (Nat → Int32)) : Option ((Nat → Int32)) := g_gd ((¬ (0 : Int32) < 0 ∧ ¬ (0 : Int32) < 0 ∧ ¬ ((if ((Int32.ofNat n1) : Int32) < (Int32.ofNat n0) then (Int32.ofNat n1) else (Int32.ofNat n0)) : Int32) < 0) ∧ (0 : Int32).toNatClampNeg + ((if ((Int32.ofNat n1) : Int32) < (Int32.ofNat n0) then (Int32.ofNat n1) else (Int32.ofNat n0)) : Int32).toNatClampNeg ≤ n0 ∧ (0 : Int32).toNatClampNeg + ((if ((Int32.ofNat n1) : Int32) < (Int32.ofNat n0) then (Int32.ofNat n1) else (Int32.ofNat n0)) : Int32).toNatClampNeg ≤ n1) (g_lt (va_cpy v0 v1 (0 : Int32).toNatClampNeg (0 : Int32).toNatClampNeg ((if ((Int32.ofNat n1) : Int32) < (Int32.ofNat n0) then (Int32.ofNat n1) else (Int32.ofNat n0)) : Int32).toNatClampNeg) (fun v1_2 => some (v1_2)))
abbrev rm_X11_copyRow : Room := { frames := 1, cells := 0, slots := 0, locals := 64 }
set_option maxHeartbeats 4000000 in
set_option maxRecDepth 100000 in
theorem k_X11_copyRow {l : Launch} {D : va_G} {cI cJ cZ cY : ClassId} {tX tY : Nat} {sz : Nat} (a0 a1 n0 n1 : Nat) (v0 : (Nat → Int32)) (v1 : (Nat → Int32)) (res : (Nat → Int32)) (hg : f_X11_copyRow n0 n1 v0 v1 = some res) : Met l yX11_copyRow (Cond.code yX11_copyRow cX11_copyRow 2 none :: TB) rm_X11_copyRow (PC D cI cJ cZ cY tX tY [.ref a0, .ref a1] (WS_X11_copyRow cI cJ cZ cY a0 a1 n0 n1 v0 v1) sz) (va_Qv (fun (u : (Nat → Int32)) => u = res) (BC D (fun u : (Nat → Int32) => WS_X11_copyRow cI cJ cZ cY a0 a1 n0 n1 v0 u) (va_A (WS_X11_copyRow cI cJ cZ cY a0 a1 n0 n1 v0 v1) sz)) (va_A (WS_X11_copyRow cI cJ cZ cY a0 a1 n0 n1 v0 v1) sz)) 0 0 (va_A (WS_X11_copyRow cI cJ cZ cY a0 a1 n0 n1 v0 v1) sz) := by
  refine Met.ofW (cc := cX11_copyRow) (maxL := 2) (ret := none) (by decide) rfl ?_
  intro p e s m args below meth c s₁ B hml hv
  obtain ⟨hargs, hsz, hP, hK, hD0, hT⟩ := hv
  have hx := B.exec
  have hb := B.bytes
  have hr := B.returns
  have htb : ∀ w ∈ TB, w.before args s = true := fun w h => atoms_spec (ws := Cond.code yX11_copyRow cX11_copyRow 2 none :: TB) B.pre w (List.mem_cons_of_mem _ h)
  have hown : s.vm.findClass "ManyEyes" = some m.cls := findClass_of_methodNamed B.named
  have hlocks := B.notSynchronized
  subst hsz
  have hD := hD0.self (sz := s.heap.size)
  generalize hAe : va_A (WS_X11_copyRow cI cJ cZ cY a0 a1 n0 n1 v0 v1) s.heap.size = A at hD hT ⊢
  have hA : ∀ q : Nat, s.heap.size ≤ q → A q := fun q h => by rw [← hAe]; exact Or.inr h
  have hS : va_S A s.heap s.heap [] := va_S.rf
  have hl := lv_entry ([.ref a0, .ref a1]) (n := 2) (Nat.le_of_ble_eq_true rfl)
  have he : entryFrame m args 2 = F0 m 0 (lg_sl ([.ref a0, .ref a1]) ++ List.replicate (2 - (lg_sl ([.ref a0, .ref a1])).length) Slot.unset).toArray [] := by rw [hargs, lg_entry_eq]
  rw [he]
  generalize (lg_sl ([.ref a0, .ref a1]) ++ List.replicate (2 - (lg_sl ([.ref a0, .ref a1])).length) Slot.unset).toArray = ls at hl ⊢
  have hl : lv_has ls 2 [(0, .ref a0), (1, .ref a1)] := hl
  show W p l e rm_X11_copyRow s m args below meth c s.heap [] 0 0 _ _
  refine W.genQ (fun Q hQ => ?_)
  generalize hHe : s.heap = H at hP ⊢
  have hS : va_S A s.heap H [] := by rw [← hHe]; exact va_S.rf
  generalize ([] : List Loc) = locs at hS ⊢
  unfold f_X11_copyRow at hg
  refine lv_aload_n hx hb dX11_copyRow_0 rfl (lv_at hl 0 rfl) ?_
  refine lv_iconst (v := 0) hx hb dX11_copyRow_1 (by decide) ?_
  refine lv_aload_n hx hb dX11_copyRow_2 rfl (lv_at hl 1 rfl) ?_
  refine lv_iconst (v := 0) hx hb dX11_copyRow_3 (by decide) ?_
  refine lv_aload_n hx hb dX11_copyRow_4 rfl (lv_at hl 0 rfl) ?_
  refine va_alen (v := (Int32.ofNat n0)) hx hb hK.1 hP 0 0 rfl rfl rfl dX11_copyRow_5 ?_
  refine lv_aload_n hx hb dX11_copyRow_6 rfl (lv_at hl 1 rfl) ?_
  refine va_alen (v := (Int32.ofNat n1)) hx hb hK.1 hP 1 0 rfl rfl rfl dX11_copyRow_7 ?_
  refine va_mmin hx hb (hml.trans hl.1.symm) hown (htb _ tg_570) (htb _ tg_38) (htb _ tg_4) (htb _ tg_39) (Nat.le_of_ble_eq_true rfl) (Nat.le_of_ble_eq_true rfl) (Nat.le_of_ble_eq_true rfl) (Nat.le_of_ble_eq_true rfl) dX11_copyRow_8 ?_
  obtain ⟨h_1, hg⟩ := g_gde hg
  refine va_copyi hx hb (hml.trans hl.1.symm) hown (htb _ tg_896) (htb _ tg_506) (htb _ tg_505) (htb _ tg_14) hK.1 hP hD hS 0 1 0 0 rfl rfl rfl rfl rfl h_1.1.1 h_1.1.2.1 h_1.1.2.2 h_1.2.1 h_1.2.2 (fun _ _ => rfl) (Nat.le_of_ble_eq_true rfl) (Nat.le_of_ble_eq_true rfl) dX11_copyRow_11 (fun H locs hP hD hS => ?_)
  obtain ⟨v1_2, ev1_2⟩ : ∃ z, z = va_cpy v0 v1 (0 : Int32).toNatClampNeg (0 : Int32).toNatClampNeg ((if ((Int32.ofNat n1) : Int32) < (Int32.ofNat n0) then (Int32.ofNat n1) else (Int32.ofNat n0)) : Int32).toNatClampNeg := ⟨_, rfl⟩
  have hP : va_P D vwCl (WS_X11_copyRow cI cJ cZ cY a0 a1 n0 n1 v0 v1_2) H := by rw [ev1_2]; exact hP
  have hD : va_D A (WS_X11_copyRow cI cJ cZ cY a0 a1 n0 n1 v0 v1_2) := by rw [ev1_2]; exact hD
  have hg := g_lte hg v1_2 ev1_2
  have hg := Option.some.inj hg
  rw [hQ]
  exact W.vret hx hb hr (fun t ht hW => ⟨⟨(v1_2), rfl, hg, by rw [ht]; exact hP, hD⟩, hS.F ht⟩) hS.2.2 dX11_copyRow_14

/-! ManyEyesModel.copy([I[I)V -/
def WS_X12_copy (cI cJ cZ cY : ClassId) (a0 a1 n0 n1 : Nat) (v0 : (Nat → Int32)) (v1 : (Nat → Int32)) : va_W := (GA cI a0 n0 v0) ++ ((GA cI a1 n1 v1))
def f_X12_copy_b2B (n0 : Nat) (n1 : Nat) (v0 : (Nat → Int32)) (J2 : Int32 × (Nat → Int32) → Option ((Nat → Int32))) (x2 : Int32) (v1 : (Nat → Int32)) : Option ((Nat → Int32)) := if (3170 : Int32) ≤ x2 then (some (v1)) else (g_gd (inB x2 n0) (g_lt ((v0 (x2 : Int32).toNatClampNeg) : Int32) (fun x_3 => g_gd (inB x2 n1) (g_lt (upd v1 (x2 : Int32).toNatClampNeg x_3) (fun v1_5 => g_lt (x2 + 1 : Int32) (fun x2_6 => J2 (x2_6, v1_5)))))))
def f_X12_copy_b2 (n0 : Nat) (n1 : Nat) (v0 : (Nat → Int32)) : Nat → (Int32 × (Nat → Int32)) → Option ((Nat → Int32)) := g_lp (fun J z => f_X12_copy_b2B n0 n1 v0 J z.1 z.2)
def f_X12_copy (n0 : Nat) (n1 : Nat) (v0 : (Nat → Int32)) (v1 : (Nat → Int32)) : Option ((Nat → Int32)) := f_X12_copy_b2 n0 n1 v0 fU (0, v1)
abbrev rm_X12_copy : Room := { frames := 0, cells := 0, slots := 0, locals := 0 }
set_option maxHeartbeats 4000000 in
set_option maxRecDepth 100000 in
theorem k_X12_copy {l : Launch} {D : va_G} {cI cJ cZ cY : ClassId} {tX tY : Nat} {sz : Nat} (a0 a1 n0 n1 : Nat) (v0 : (Nat → Int32)) (v1 : (Nat → Int32)) (res : (Nat → Int32)) (hg : f_X12_copy n0 n1 v0 v1 = some res) : Met l yX12_copy (Cond.code yX12_copy cX12_copy 3 none :: TB) rm_X12_copy (PC D cI cJ cZ cY tX tY [.ref a0, .ref a1] (WS_X12_copy cI cJ cZ cY a0 a1 n0 n1 v0 v1) sz) (va_Qv (fun (u : (Nat → Int32)) => u = res) (BC D (fun u : (Nat → Int32) => WS_X12_copy cI cJ cZ cY a0 a1 n0 n1 v0 u) (va_A (WS_X12_copy cI cJ cZ cY a0 a1 n0 n1 v0 v1) sz)) (va_A (WS_X12_copy cI cJ cZ cY a0 a1 n0 n1 v0 v1) sz)) 0 0 (va_A (WS_X12_copy cI cJ cZ cY a0 a1 n0 n1 v0 v1) sz) := by
  refine Met.ofW (cc := cX12_copy) (maxL := 3) (ret := none) (by decide) rfl ?_
  intro p e s m args below meth c s₁ B hml hv
  obtain ⟨hargs, hsz, hP, hK, hD0, hT⟩ := hv
  have hx := B.exec
  have hb := B.bytes
  have hr := B.returns
  have htb : ∀ w ∈ TB, w.before args s = true := fun w h => atoms_spec (ws := Cond.code yX12_copy cX12_copy 3 none :: TB) B.pre w (List.mem_cons_of_mem _ h)
  have hown : s.vm.findClass "ManyEyesModel" = some m.cls := findClass_of_methodNamed B.named
  have hlocks := B.notSynchronized
  subst hsz
  have hD := hD0.self (sz := s.heap.size)
  generalize hAe : va_A (WS_X12_copy cI cJ cZ cY a0 a1 n0 n1 v0 v1) s.heap.size = A at hD hT ⊢
  have hA : ∀ q : Nat, s.heap.size ≤ q → A q := fun q h => by rw [← hAe]; exact Or.inr h
  have hS : va_S A s.heap s.heap [] := va_S.rf
  have hl := lv_entry ([.ref a0, .ref a1]) (n := 3) (Nat.le_of_ble_eq_true rfl)
  have he : entryFrame m args 3 = F0 m 0 (lg_sl ([.ref a0, .ref a1]) ++ List.replicate (3 - (lg_sl ([.ref a0, .ref a1])).length) Slot.unset).toArray [] := by rw [hargs, lg_entry_eq]
  rw [he]
  generalize (lg_sl ([.ref a0, .ref a1]) ++ List.replicate (3 - (lg_sl ([.ref a0, .ref a1])).length) Slot.unset).toArray = ls at hl ⊢
  have hl : lv_has ls 3 [(0, .ref a0), (1, .ref a1)] := hl
  show W p l e rm_X12_copy s m args below meth c s.heap [] 0 0 _ _
  refine W.genQ (fun Q hQ => ?_)
  have b_2 : ∀ (n : Nat), ∀ (x2 : Int32) (v1 : (Nat → Int32)) (H : Heap) (locs : List Loc) (ls : Array Slot), va_P D vwCl (WS_X12_copy cI cJ cZ cY a0 a1 n0 n1 v0 v1) H → va_D A (WS_X12_copy cI cJ cZ cY a0 a1 n0 n1 v0 v1) → va_S A s.heap H locs → lv_has ls 3 [(0, .ref a0), (1, .ref a1), (2, .int x2)] → f_X12_copy_b2 n0 n1 v0 n (x2, v1) = some res → W p l e rm_X12_copy s m args below meth c H locs 0 0 Q (F0 m 2 ls []) := by
    intro n
    induction n with
    | zero =>
      intro x2 v1 H locs ls hP hD hS hl hg
      exact (g_lp0 hg).elim
    | succ n ih =>
      intro x2 v1 H locs ls hP hD hS hl hg
      have hg : f_X12_copy_b2B n0 n1 v0 (f_X12_copy_b2 n0 n1 v0 n) x2 v1 = some res := hg
      unfold f_X12_copy_b2B at hg
      refine lv_iload_n hx hb dX12_copy_2 rfl (lv_at hl 2 rfl) ?_
      refine lv_sipush (v := 3170) hx hb dX12_copy_3 (by decide) ?_
      refine lv_icmp_ge (tgt := 21) hx hb dX12_copy_6 (by decide) (fun c_1 => ?_) (fun c_1 => ?_)
      · have hg := g_it hg c_1
        have hg := Option.some.inj hg
        rw [hQ]
        exact W.vret hx hb hr (fun t ht hW => ⟨⟨(v1), rfl, hg, by rw [ht]; exact hP, hD⟩, hS.F ht⟩) hS.2.2 dX12_copy_21
      · have hg := g_if hg c_1
        refine lv_aload_n hx hb dX12_copy_9 rfl (lv_at hl 1 rfl) ?_
        refine lv_iload_n hx hb dX12_copy_10 rfl (lv_at hl 2 rfl) ?_
        refine lv_aload_n hx hb dX12_copy_11 rfl (lv_at hl 0 rfl) ?_
        refine lv_iload_n hx hb dX12_copy_12 rfl (lv_at hl 2 rfl) ?_
        obtain ⟨h_2, hg⟩ := g_gde hg
        refine va_iald hx hb hK.1 hP 0 0 rfl rfl (inB_vp h_2) dX12_copy_13 ?_
        refine lv_topi (fun x_3 ex_3 => ?_)
        have hg := g_lte hg x_3 ex_3
        obtain ⟨h_4, hg⟩ := g_gde hg
        refine va_iast hx hb hK.1 hP hD hS 1 0 rfl rfl (inB_vp h_4) dX12_copy_14 (fun H locs hP hD hS => ?_)
        obtain ⟨v1_5, ev1_5⟩ : ∃ z, z = upd v1 (x2 : Int32).toNatClampNeg x_3 := ⟨_, rfl⟩
        have hP : va_P D vwCl (WS_X12_copy cI cJ cZ cY a0 a1 n0 n1 v0 v1_5) H := by rw [ev1_5]; exact hP
        have hD : va_D A (WS_X12_copy cI cJ cZ cY a0 a1 n0 n1 v0 v1_5) := by rw [ev1_5]; exact hD
        have hg := g_lte hg v1_5 ev1_5
        obtain ⟨x2_6, ex2_6⟩ : ∃ z : Int32, z = x2 + 1 := ⟨_, rfl⟩
        have hg := g_lte hg x2_6 ex2_6
        refine lv_iinc (v := x2_6) (lv' := [(2, .int x2_6), (0, .ref a0), (1, .ref a1)]) hx hb dX12_copy_15 hl (k := 2) rfl (by rw [ex2_6]; rfl) (by decide) rfl (fun ls hl => ?_)
        refine lv_goto (tgt := 2) hx hb dX12_copy_18 (by decide) ?_
        exact ih x2_6 v1_5 H locs ls hP hD hS (lv_sub hl [1, 2, 0] rfl) hg
  generalize hHe : s.heap = H at hP ⊢
  have hS : va_S A s.heap H [] := by rw [← hHe]; exact va_S.rf
  generalize ([] : List Loc) = locs at hS ⊢
  unfold f_X12_copy at hg
  refine lv_iconst (v := 0) hx hb dX12_copy_0 (by decide) ?_
  refine lv_istore_n (lv' := [(2, .int 0), (0, .ref a0), (1, .ref a1)]) hx hb dX12_copy_1 rfl hl (by decide) rfl (fun ls hl => ?_)
  exact b_2 fU 0 v1 H locs ls hP hD hS (lv_sub hl [1, 2, 0] rfl) hg

/-! ManyEyesModel.isIn(III)Z -/
def WS_X12_isIn (cI cJ cZ cY : ClassId) : va_W := []
def f_X12_isIn (p0 : Int32) (p1 : Int32) (p2 : Int32) : Option (Int32) := if (p0 : Int32) < p1 then (some 0) else (if (p2 : Int32) < p0 then (some 0) else (some 1))
abbrev rm_X12_isIn : Room := { frames := 0, cells := 0, slots := 0, locals := 0 }
set_option maxHeartbeats 4000000 in
set_option maxRecDepth 100000 in
theorem k_X12_isIn {l : Launch} {D : va_G} {cI cJ cZ cY : ClassId} {tX tY : Nat} {sz : Nat} (p0 : Int32) (p1 : Int32) (p2 : Int32) (res : Int32) (hg : f_X12_isIn p0 p1 p2 = some res) : Met l yX12_isIn (Cond.code yX12_isIn cX12_isIn 3 (some .boolean) :: TB) rm_X12_isIn (PC D cI cJ cZ cY tX tY [.int p0, .int p1, .int p2] (WS_X12_isIn cI cJ cZ cY) sz) (va_Qi (fun (r : Int32) (_ : Unit) => r = res) (BC D (fun _ : Unit => WS_X12_isIn cI cJ cZ cY) (va_A (WS_X12_isIn cI cJ cZ cY) sz)) (va_A (WS_X12_isIn cI cJ cZ cY) sz)) 0 0 (va_A (WS_X12_isIn cI cJ cZ cY) sz) := by
  refine Met.ofW (cc := cX12_isIn) (maxL := 3) (ret := (some .boolean)) (by decide) rfl ?_
  intro p e s m args below meth c s₁ B hml hv
  obtain ⟨hargs, hsz, hP, hK, hD0, hT⟩ := hv
  have hx := B.exec
  have hb := B.bytes
  have hr := B.returns
  have htb : ∀ w ∈ TB, w.before args s = true := fun w h => atoms_spec (ws := Cond.code yX12_isIn cX12_isIn 3 (some .boolean) :: TB) B.pre w (List.mem_cons_of_mem _ h)
  have hown : s.vm.findClass "ManyEyesModel" = some m.cls := findClass_of_methodNamed B.named
  have hlocks := B.notSynchronized
  subst hsz
  have hD := hD0.self (sz := s.heap.size)
  generalize hAe : va_A (WS_X12_isIn cI cJ cZ cY) s.heap.size = A at hD hT ⊢
  have hA : ∀ q : Nat, s.heap.size ≤ q → A q := fun q h => by rw [← hAe]; exact Or.inr h
  have hS : va_S A s.heap s.heap [] := va_S.rf
  have hl := lv_entry ([.int p0, .int p1, .int p2]) (n := 3) (Nat.le_of_ble_eq_true rfl)
  have he : entryFrame m args 3 = F0 m 0 (lg_sl ([.int p0, .int p1, .int p2]) ++ List.replicate (3 - (lg_sl ([.int p0, .int p1, .int p2])).length) Slot.unset).toArray [] := by rw [hargs, lg_entry_eq]
  rw [he]
  generalize (lg_sl ([.int p0, .int p1, .int p2]) ++ List.replicate (3 - (lg_sl ([.int p0, .int p1, .int p2])).length) Slot.unset).toArray = ls at hl ⊢
  have hl : lv_has ls 3 [(0, .int p0), (1, .int p1), (2, .int p2)] := hl
  show W p l e rm_X12_isIn s m args below meth c s.heap [] 0 0 _ _
  refine W.genQ (fun Q hQ => ?_)
  generalize hHe : s.heap = H at hP ⊢
  have hS : va_S A s.heap H [] := by rw [← hHe]; exact va_S.rf
  generalize ([] : List Loc) = locs at hS ⊢
  unfold f_X12_isIn at hg
  refine lv_iload_n hx hb dX12_isIn_0 rfl (lv_at hl 0 rfl) ?_
  refine lv_iload_n hx hb dX12_isIn_1 rfl (lv_at hl 1 rfl) ?_
  refine lv_icmp_lt (tgt := 14) hx hb dX12_isIn_2 (by decide) (fun c_1 => ?_) (fun c_1 => ?_)
  · have hg := g_it hg c_1
    refine lv_iconst (v := 0) hx hb dX12_isIn_14 (by decide) ?_
    have hg := Option.some.inj hg
    rw [hQ]
    exact W.zret (v := 0) (ty := .boolean) hx hb hr rfl (fun t ht hW => ⟨⟨0, (), rfl, hg, by rw [ht]; exact hP, hD⟩, hS.F ht⟩) hS.2.2 dX12_isIn_15
  · have hg := g_if hg c_1
    refine lv_iload_n hx hb dX12_isIn_5 rfl (lv_at hl 0 rfl) ?_
    refine lv_iload_n hx hb dX12_isIn_6 rfl (lv_at hl 2 rfl) ?_
    refine lv_icmp_gt (tgt := 14) hx hb dX12_isIn_7 (by decide) (fun c_2 => ?_) (fun c_2 => ?_)
    · have hg := g_it hg c_2
      refine lv_iconst (v := 0) hx hb dX12_isIn_14 (by decide) ?_
      have hg := Option.some.inj hg
      rw [hQ]
      exact W.zret (v := 0) (ty := .boolean) hx hb hr rfl (fun t ht hW => ⟨⟨0, (), rfl, hg, by rw [ht]; exact hP, hD⟩, hS.F ht⟩) hS.2.2 dX12_isIn_15
    · have hg := g_if hg c_2
      refine lv_iconst (v := 1) hx hb dX12_isIn_10 (by decide) ?_
      refine lv_goto (tgt := 15) hx hb dX12_isIn_11 (by decide) ?_
      have hg := Option.some.inj hg
      rw [hQ]
      exact W.zret (v := 1) (ty := .boolean) hx hb hr rfl (fun t ht hW => ⟨⟨1, (), rfl, hg, by rw [ht]; exact hP, hD⟩, hS.F ht⟩) hS.2.2 dX12_isIn_15

/-! ManyEyesModel.isCell(I)Z -/
def WS_X12_isCell (cI cJ cZ cY : ClassId) (a0 a0_a a0_image a0_texts a0_board a0_taken a0_fars a0_before a0_tape a0_pile a0_rows a0_told a0_values a0_truth a0_keeps : Nat) (v0 : BX12) : va_W := (GX12 cI cJ cZ cY a0 a0_a a0_image a0_texts a0_board a0_taken a0_fars a0_before a0_tape a0_pile a0_rows a0_told a0_values a0_truth a0_keeps v0)
def f_X12_isCell (v0 : BX12) (p0 : Int32) : Option (Int32) := (f_X12_isIn p0 0 (((pX12_w v0) * (pX12_h v0)) - 1)).bind (fun r_1 => g_gd (r_1 = 0 ∨ r_1 = 1) (some r_1))
abbrev rm_X12_isCell : Room := { frames := 1, cells := 0, slots := 0, locals := 22 }
set_option maxHeartbeats 4000000 in
set_option maxRecDepth 100000 in
theorem k_X12_isCell {l : Launch} {D : va_G} {cI cJ cZ cY : ClassId} {tX tY : Nat} {sz : Nat} (a0 a0_a a0_image a0_texts a0_board a0_taken a0_fars a0_before a0_tape a0_pile a0_rows a0_told a0_values a0_truth a0_keeps : Nat) (v0 : BX12) (p0 : Int32) (res : Int32) (hg : f_X12_isCell v0 p0 = some res) : Met l yX12_isCell (Cond.code yX12_isCell cX12_isCell 2 (some .boolean) :: TB) rm_X12_isCell (PC D cI cJ cZ cY tX tY [.ref a0, .int p0] (WS_X12_isCell cI cJ cZ cY a0 a0_a a0_image a0_texts a0_board a0_taken a0_fars a0_before a0_tape a0_pile a0_rows a0_told a0_values a0_truth a0_keeps v0) sz) (va_Qi (fun (r : Int32) (_ : Unit) => r = res) (BC D (fun _ : Unit => WS_X12_isCell cI cJ cZ cY a0 a0_a a0_image a0_texts a0_board a0_taken a0_fars a0_before a0_tape a0_pile a0_rows a0_told a0_values a0_truth a0_keeps v0) (va_A (WS_X12_isCell cI cJ cZ cY a0 a0_a a0_image a0_texts a0_board a0_taken a0_fars a0_before a0_tape a0_pile a0_rows a0_told a0_values a0_truth a0_keeps v0) sz)) (va_A (WS_X12_isCell cI cJ cZ cY a0 a0_a a0_image a0_texts a0_board a0_taken a0_fars a0_before a0_tape a0_pile a0_rows a0_told a0_values a0_truth a0_keeps v0) sz)) 0 0 (va_A (WS_X12_isCell cI cJ cZ cY a0 a0_a a0_image a0_texts a0_board a0_taken a0_fars a0_before a0_tape a0_pile a0_rows a0_told a0_values a0_truth a0_keeps v0) sz) := by
  refine Met.ofW (cc := cX12_isCell) (maxL := 2) (ret := (some .boolean)) (by decide) rfl ?_
  intro p e s m args below meth c s₁ B hml hv
  obtain ⟨hargs, hsz, hP, hK, hD0, hT⟩ := hv
  have hx := B.exec
  have hb := B.bytes
  have hr := B.returns
  have htb : ∀ w ∈ TB, w.before args s = true := fun w h => atoms_spec (ws := Cond.code yX12_isCell cX12_isCell 2 (some .boolean) :: TB) B.pre w (List.mem_cons_of_mem _ h)
  have hown : s.vm.findClass "ManyEyesModel" = some m.cls := findClass_of_methodNamed B.named
  have hlocks := B.notSynchronized
  subst hsz
  have hD := hD0.self (sz := s.heap.size)
  generalize hAe : va_A (WS_X12_isCell cI cJ cZ cY a0 a0_a a0_image a0_texts a0_board a0_taken a0_fars a0_before a0_tape a0_pile a0_rows a0_told a0_values a0_truth a0_keeps v0) s.heap.size = A at hD hT ⊢
  have hA : ∀ q : Nat, s.heap.size ≤ q → A q := fun q h => by rw [← hAe]; exact Or.inr h
  have hS : va_S A s.heap s.heap [] := va_S.rf
  have hl := lv_entry ([.ref a0, .int p0]) (n := 2) (Nat.le_of_ble_eq_true rfl)
  have he : entryFrame m args 2 = F0 m 0 (lg_sl ([.ref a0, .int p0]) ++ List.replicate (2 - (lg_sl ([.ref a0, .int p0])).length) Slot.unset).toArray [] := by rw [hargs, lg_entry_eq]
  rw [he]
  generalize (lg_sl ([.ref a0, .int p0]) ++ List.replicate (2 - (lg_sl ([.ref a0, .int p0])).length) Slot.unset).toArray = ls at hl ⊢
  have hl : lv_has ls 2 [(0, .ref a0), (1, .int p0)] := hl
  show W p l e rm_X12_isCell s m args below meth c s.heap [] 0 0 _ _
  refine W.genQ (fun Q hQ => ?_)
  generalize hHe : s.heap = H at hP ⊢
  have hS : va_S A s.heap H [] := by rw [← hHe]; exact va_S.rf
  generalize ([] : List Loc) = locs at hS ⊢
  unfold f_X12_isCell at hg
  refine lv_iload_n hx hb dX12_isCell_0 rfl (lv_at hl 1 rfl) ?_
  refine lv_iconst (v := 0) hx hb dX12_isCell_1 (by decide) ?_
  refine lv_aload_n hx hb dX12_isCell_2 rfl (lv_at hl 0 rfl) ?_
  refine va_get (ci := 11) (v := .int (pX12_w v0)) (C := RX12) (T := TX12) (N := 43) hx hb htb uX12 hown hK.1 hP 0 rfl rfl 0 (by decide) (htb _ tg_936) (fun _ h9 => h9) rfl dX12_isCell_3 ?_
  refine lv_aload_n hx hb dX12_isCell_6 rfl (lv_at hl 0 rfl) ?_
  refine va_get (ci := 11) (v := .int (pX12_h v0)) (C := RX12) (T := TX12) (N := 43) hx hb htb uX12 hown hK.1 hP 0 rfl rfl 1 (by decide) (htb _ tg_937) (fun _ h9 => h9) rfl dX12_isCell_7 ?_
  refine lv_imul hx hb dX12_isCell_10 ?_
  refine lv_iconst (v := 1) hx hb dX12_isCell_11 (by decide) ?_
  refine lv_isub hx hb dX12_isCell_12 ?_
  obtain ⟨r_1, hr_1, hg⟩ := g_bd hg
  refine cc_i (va_runS (As := [.int p0, .int 0, .int (((pX12_w v0) * (pX12_h v0)) - 1)]) (rest := []) ⟨hx, hb, hml, hown, htb⟩ (k_X12_isIn p0 0 (((pX12_w v0) * (pX12_h v0)) - 1) r_1 hr_1) (cw_S 3 htb tg_1078 tg_13 tg_1076 tg_1077 rfl rfl (by decide +kernel) ⟨Nat.le_of_ble_eq_true rfl, Nat.le_of_ble_eq_true rfl⟩) ⟨PC.blind, PC.pre hK hT hP hD hS hA [] rfl (by decide)⟩ rfl rfl hl.1 rfl (lv_room (Nat.le_of_ble_eq_true rfl)) dX12_isCell_13 ⟨Nat.le_of_ble_eq_true rfl, Nat.le_of_ble_eq_true rfl⟩) hP hD hS hA [] [0, 1, 2, 3, 4, 5, 6, 7, 8, 9, 10, 11, 12, 13, 14] rfl rfl (by decide) (by decide) (fun r9 u9 H locs hw hP hD hS => ?_)
  have hw := hw.symm
  subst hw
  have hP : va_P D vwCl (WS_X12_isCell cI cJ cZ cY a0 a0_a a0_image a0_texts a0_board a0_taken a0_fars a0_before a0_tape a0_pile a0_rows a0_told a0_values a0_truth a0_keeps v0) H := hP.sub [0, 1, 2, 3, 4, 5, 6, 7, 8, 9, 10, 11, 12, 13, 14] rfl
  have hD : va_D A (WS_X12_isCell cI cJ cZ cY a0 a0_a a0_image a0_texts a0_board a0_taken a0_fars a0_before a0_tape a0_pile a0_rows a0_told a0_values a0_truth a0_keeps v0) := hD.sub [0, 1, 2, 3, 4, 5, 6, 7, 8, 9, 10, 11, 12, 13, 14] (by decide) rfl
  obtain ⟨h_2, hg⟩ := g_gde hg
  have hg := Option.some.inj hg
  rw [hQ]
  exact W.zret (v := r_1) (ty := .boolean) hx hb hr (bool_nar h_2) (fun t ht hW => ⟨⟨r_1, (), rfl, hg, by rw [ht]; exact hP, hD⟩, hS.F ht⟩) hS.2.2 dX12_isCell_16

/-! ManyEyesModel.isSide(I)Z -/
def WS_X12_isSide (cI cJ cZ cY : ClassId) : va_W := []
def f_X12_isSide (p0 : Int32) : Option (Int32) := (f_X12_isIn p0 0 63).bind (fun r_1 => g_gd (r_1 = 0 ∨ r_1 = 1) (some r_1))
abbrev rm_X12_isSide : Room := { frames := 1, cells := 0, slots := 0, locals := 22 }
set_option maxHeartbeats 4000000 in
set_option maxRecDepth 100000 in
theorem k_X12_isSide {l : Launch} {D : va_G} {cI cJ cZ cY : ClassId} {tX tY : Nat} {sz : Nat} (p0 : Int32) (res : Int32) (hg : f_X12_isSide p0 = some res) : Met l yX12_isSide (Cond.code yX12_isSide cX12_isSide 1 (some .boolean) :: TB) rm_X12_isSide (PC D cI cJ cZ cY tX tY [.int p0] (WS_X12_isSide cI cJ cZ cY) sz) (va_Qi (fun (r : Int32) (_ : Unit) => r = res) (BC D (fun _ : Unit => WS_X12_isSide cI cJ cZ cY) (va_A (WS_X12_isSide cI cJ cZ cY) sz)) (va_A (WS_X12_isSide cI cJ cZ cY) sz)) 0 0 (va_A (WS_X12_isSide cI cJ cZ cY) sz) := by
  refine Met.ofW (cc := cX12_isSide) (maxL := 1) (ret := (some .boolean)) (by decide) rfl ?_
  intro p e s m args below meth c s₁ B hml hv
  obtain ⟨hargs, hsz, hP, hK, hD0, hT⟩ := hv
  have hx := B.exec
  have hb := B.bytes
  have hr := B.returns
  have htb : ∀ w ∈ TB, w.before args s = true := fun w h => atoms_spec (ws := Cond.code yX12_isSide cX12_isSide 1 (some .boolean) :: TB) B.pre w (List.mem_cons_of_mem _ h)
  have hown : s.vm.findClass "ManyEyesModel" = some m.cls := findClass_of_methodNamed B.named
  have hlocks := B.notSynchronized
  subst hsz
  have hD := hD0.self (sz := s.heap.size)
  generalize hAe : va_A (WS_X12_isSide cI cJ cZ cY) s.heap.size = A at hD hT ⊢
  have hA : ∀ q : Nat, s.heap.size ≤ q → A q := fun q h => by rw [← hAe]; exact Or.inr h
  have hS : va_S A s.heap s.heap [] := va_S.rf
  have hl := lv_entry ([.int p0]) (n := 1) (Nat.le_of_ble_eq_true rfl)
  have he : entryFrame m args 1 = F0 m 0 (lg_sl ([.int p0]) ++ List.replicate (1 - (lg_sl ([.int p0])).length) Slot.unset).toArray [] := by rw [hargs, lg_entry_eq]
  rw [he]
  generalize (lg_sl ([.int p0]) ++ List.replicate (1 - (lg_sl ([.int p0])).length) Slot.unset).toArray = ls at hl ⊢
  have hl : lv_has ls 1 [(0, .int p0)] := hl
  show W p l e rm_X12_isSide s m args below meth c s.heap [] 0 0 _ _
  refine W.genQ (fun Q hQ => ?_)
  generalize hHe : s.heap = H at hP ⊢
  have hS : va_S A s.heap H [] := by rw [← hHe]; exact va_S.rf
  generalize ([] : List Loc) = locs at hS ⊢
  unfold f_X12_isSide at hg
  refine lv_iload_n hx hb dX12_isSide_0 rfl (lv_at hl 0 rfl) ?_
  refine lv_iconst (v := 0) hx hb dX12_isSide_1 (by decide) ?_
  refine lv_bipush (v := 63) hx hb dX12_isSide_2 (by decide) ?_
  obtain ⟨r_1, hr_1, hg⟩ := g_bd hg
  refine cc_i (va_runS (As := [.int p0, .int 0, .int 63]) (rest := []) ⟨hx, hb, hml, hown, htb⟩ (k_X12_isIn p0 0 63 r_1 hr_1) (cw_S 3 htb tg_1078 tg_13 tg_1076 tg_1077 rfl rfl (by decide +kernel) ⟨Nat.le_of_ble_eq_true rfl, Nat.le_of_ble_eq_true rfl⟩) ⟨PC.blind, PC.pre hK hT hP hD hS hA [] rfl (by decide)⟩ rfl rfl hl.1 rfl (lv_room (Nat.le_of_ble_eq_true rfl)) dX12_isSide_4 ⟨Nat.le_of_ble_eq_true rfl, Nat.le_of_ble_eq_true rfl⟩) hP hD hS hA [] [] rfl rfl (by decide) (by decide) (fun r9 u9 H locs hw hP hD hS => ?_)
  have hw := hw.symm
  subst hw
  have hP : va_P D vwCl (WS_X12_isSide cI cJ cZ cY) H := hP.sub [] rfl
  have hD : va_D A (WS_X12_isSide cI cJ cZ cY) := hD.sub [] (by decide) rfl
  obtain ⟨h_2, hg⟩ := g_gde hg
  have hg := Option.some.inj hg
  rw [hQ]
  exact W.zret (v := r_1) (ty := .boolean) hx hb hr (bool_nar h_2) (fun t ht hW => ⟨⟨r_1, (), rfl, hg, by rw [ht]; exact hP, hD⟩, hS.F ht⟩) hS.2.2 dX12_isSide_7

/-! ManyEyesModel.isTick(I)Z -/
def WS_X12_isTick (cI cJ cZ cY : ClassId) : va_W := []
def f_X12_isTick (p0 : Int32) : Option (Int32) := (f_X12_isIn p0 0 999).bind (fun r_1 => g_gd (r_1 = 0 ∨ r_1 = 1) (some r_1))
abbrev rm_X12_isTick : Room := { frames := 1, cells := 0, slots := 0, locals := 22 }
set_option maxHeartbeats 4000000 in
set_option maxRecDepth 100000 in
theorem k_X12_isTick {l : Launch} {D : va_G} {cI cJ cZ cY : ClassId} {tX tY : Nat} {sz : Nat} (p0 : Int32) (res : Int32) (hg : f_X12_isTick p0 = some res) : Met l yX12_isTick (Cond.code yX12_isTick cX12_isTick 1 (some .boolean) :: TB) rm_X12_isTick (PC D cI cJ cZ cY tX tY [.int p0] (WS_X12_isTick cI cJ cZ cY) sz) (va_Qi (fun (r : Int32) (_ : Unit) => r = res) (BC D (fun _ : Unit => WS_X12_isTick cI cJ cZ cY) (va_A (WS_X12_isTick cI cJ cZ cY) sz)) (va_A (WS_X12_isTick cI cJ cZ cY) sz)) 0 0 (va_A (WS_X12_isTick cI cJ cZ cY) sz) := by
  refine Met.ofW (cc := cX12_isTick) (maxL := 1) (ret := (some .boolean)) (by decide) rfl ?_
  intro p e s m args below meth c s₁ B hml hv
  obtain ⟨hargs, hsz, hP, hK, hD0, hT⟩ := hv
  have hx := B.exec
  have hb := B.bytes
  have hr := B.returns
  have htb : ∀ w ∈ TB, w.before args s = true := fun w h => atoms_spec (ws := Cond.code yX12_isTick cX12_isTick 1 (some .boolean) :: TB) B.pre w (List.mem_cons_of_mem _ h)
  have hown : s.vm.findClass "ManyEyesModel" = some m.cls := findClass_of_methodNamed B.named
  have hlocks := B.notSynchronized
  subst hsz
  have hD := hD0.self (sz := s.heap.size)
  generalize hAe : va_A (WS_X12_isTick cI cJ cZ cY) s.heap.size = A at hD hT ⊢
  have hA : ∀ q : Nat, s.heap.size ≤ q → A q := fun q h => by rw [← hAe]; exact Or.inr h
  have hS : va_S A s.heap s.heap [] := va_S.rf
  have hl := lv_entry ([.int p0]) (n := 1) (Nat.le_of_ble_eq_true rfl)
  have he : entryFrame m args 1 = F0 m 0 (lg_sl ([.int p0]) ++ List.replicate (1 - (lg_sl ([.int p0])).length) Slot.unset).toArray [] := by rw [hargs, lg_entry_eq]
  rw [he]
  generalize (lg_sl ([.int p0]) ++ List.replicate (1 - (lg_sl ([.int p0])).length) Slot.unset).toArray = ls at hl ⊢
  have hl : lv_has ls 1 [(0, .int p0)] := hl
  show W p l e rm_X12_isTick s m args below meth c s.heap [] 0 0 _ _
  refine W.genQ (fun Q hQ => ?_)
  generalize hHe : s.heap = H at hP ⊢
  have hS : va_S A s.heap H [] := by rw [← hHe]; exact va_S.rf
  generalize ([] : List Loc) = locs at hS ⊢
  unfold f_X12_isTick at hg
  refine lv_iload_n hx hb dX12_isTick_0 rfl (lv_at hl 0 rfl) ?_
  refine lv_iconst (v := 0) hx hb dX12_isTick_1 (by decide) ?_
  refine lv_sipush (v := 999) hx hb dX12_isTick_2 (by decide) ?_
  obtain ⟨r_1, hr_1, hg⟩ := g_bd hg
  refine cc_i (va_runS (As := [.int p0, .int 0, .int 999]) (rest := []) ⟨hx, hb, hml, hown, htb⟩ (k_X12_isIn p0 0 999 r_1 hr_1) (cw_S 3 htb tg_1078 tg_13 tg_1076 tg_1077 rfl rfl (by decide +kernel) ⟨Nat.le_of_ble_eq_true rfl, Nat.le_of_ble_eq_true rfl⟩) ⟨PC.blind, PC.pre hK hT hP hD hS hA [] rfl (by decide)⟩ rfl rfl hl.1 rfl (lv_room (Nat.le_of_ble_eq_true rfl)) dX12_isTick_5 ⟨Nat.le_of_ble_eq_true rfl, Nat.le_of_ble_eq_true rfl⟩) hP hD hS hA [] [] rfl rfl (by decide) (by decide) (fun r9 u9 H locs hw hP hD hS => ?_)
  have hw := hw.symm
  subst hw
  have hP : va_P D vwCl (WS_X12_isTick cI cJ cZ cY) H := hP.sub [] rfl
  have hD : va_D A (WS_X12_isTick cI cJ cZ cY) := hD.sub [] (by decide) rfl
  obtain ⟨h_2, hg⟩ := g_gde hg
  have hg := Option.some.inj hg
  rw [hQ]
  exact W.zret (v := r_1) (ty := .boolean) hx hb hr (bool_nar h_2) (fun t ht hW => ⟨⟨r_1, (), rfl, hg, by rw [ht]; exact hP, hD⟩, hS.F ht⟩) hS.2.2 dX12_isTick_8

/-! ManyEyesModel.isPlace(II)Z -/
def WS_X12_isPlace (cI cJ cZ cY : ClassId) (a0 a0_a a0_image a0_texts a0_board a0_taken a0_fars a0_before a0_tape a0_pile a0_rows a0_told a0_values a0_truth a0_keeps : Nat) (v0 : BX12) : va_W := (GX12 cI cJ cZ cY a0 a0_a a0_image a0_texts a0_board a0_taken a0_fars a0_before a0_tape a0_pile a0_rows a0_told a0_values a0_truth a0_keeps v0)
def f_X12_isPlace (v0 : BX12) (p0 : Int32) (p1 : Int32) : Option (Int32) := (f_X12_isIn p0 0 (((16 : Int32) * (pX12_w v0)) - 1)).bind (fun r_1 => if (r_1 : Int32) = 0 then (some 0) else ((f_X12_isIn p1 0 (((16 : Int32) * (pX12_h v0)) - 1)).bind (fun r_3 => if (r_3 : Int32) = 0 then (some 0) else (some 1))))
abbrev rm_X12_isPlace : Room := { frames := 1, cells := 0, slots := 0, locals := 22 }
set_option maxHeartbeats 4000000 in
set_option maxRecDepth 100000 in
theorem k_X12_isPlace {l : Launch} {D : va_G} {cI cJ cZ cY : ClassId} {tX tY : Nat} {sz : Nat} (a0 a0_a a0_image a0_texts a0_board a0_taken a0_fars a0_before a0_tape a0_pile a0_rows a0_told a0_values a0_truth a0_keeps : Nat) (v0 : BX12) (p0 : Int32) (p1 : Int32) (res : Int32) (hg : f_X12_isPlace v0 p0 p1 = some res) : Met l yX12_isPlace (Cond.code yX12_isPlace cX12_isPlace 3 (some .boolean) :: TB) rm_X12_isPlace (PC D cI cJ cZ cY tX tY [.ref a0, .int p0, .int p1] (WS_X12_isPlace cI cJ cZ cY a0 a0_a a0_image a0_texts a0_board a0_taken a0_fars a0_before a0_tape a0_pile a0_rows a0_told a0_values a0_truth a0_keeps v0) sz) (va_Qi (fun (r : Int32) (_ : Unit) => r = res) (BC D (fun _ : Unit => WS_X12_isPlace cI cJ cZ cY a0 a0_a a0_image a0_texts a0_board a0_taken a0_fars a0_before a0_tape a0_pile a0_rows a0_told a0_values a0_truth a0_keeps v0) (va_A (WS_X12_isPlace cI cJ cZ cY a0 a0_a a0_image a0_texts a0_board a0_taken a0_fars a0_before a0_tape a0_pile a0_rows a0_told a0_values a0_truth a0_keeps v0) sz)) (va_A (WS_X12_isPlace cI cJ cZ cY a0 a0_a a0_image a0_texts a0_board a0_taken a0_fars a0_before a0_tape a0_pile a0_rows a0_told a0_values a0_truth a0_keeps v0) sz)) 0 0 (va_A (WS_X12_isPlace cI cJ cZ cY a0 a0_a a0_image a0_texts a0_board a0_taken a0_fars a0_before a0_tape a0_pile a0_rows a0_told a0_values a0_truth a0_keeps v0) sz) := by
  refine Met.ofW (cc := cX12_isPlace) (maxL := 3) (ret := (some .boolean)) (by decide) rfl ?_
  intro p e s m args below meth c s₁ B hml hv
  obtain ⟨hargs, hsz, hP, hK, hD0, hT⟩ := hv
  have hx := B.exec
  have hb := B.bytes
  have hr := B.returns
  have htb : ∀ w ∈ TB, w.before args s = true := fun w h => atoms_spec (ws := Cond.code yX12_isPlace cX12_isPlace 3 (some .boolean) :: TB) B.pre w (List.mem_cons_of_mem _ h)
  have hown : s.vm.findClass "ManyEyesModel" = some m.cls := findClass_of_methodNamed B.named
  have hlocks := B.notSynchronized
  subst hsz
  have hD := hD0.self (sz := s.heap.size)
  generalize hAe : va_A (WS_X12_isPlace cI cJ cZ cY a0 a0_a a0_image a0_texts a0_board a0_taken a0_fars a0_before a0_tape a0_pile a0_rows a0_told a0_values a0_truth a0_keeps v0) s.heap.size = A at hD hT ⊢
  have hA : ∀ q : Nat, s.heap.size ≤ q → A q := fun q h => by rw [← hAe]; exact Or.inr h
  have hS : va_S A s.heap s.heap [] := va_S.rf
  have hl := lv_entry ([.ref a0, .int p0, .int p1]) (n := 3) (Nat.le_of_ble_eq_true rfl)
  have he : entryFrame m args 3 = F0 m 0 (lg_sl ([.ref a0, .int p0, .int p1]) ++ List.replicate (3 - (lg_sl ([.ref a0, .int p0, .int p1])).length) Slot.unset).toArray [] := by rw [hargs, lg_entry_eq]
  rw [he]
  generalize (lg_sl ([.ref a0, .int p0, .int p1]) ++ List.replicate (3 - (lg_sl ([.ref a0, .int p0, .int p1])).length) Slot.unset).toArray = ls at hl ⊢
  have hl : lv_has ls 3 [(0, .ref a0), (1, .int p0), (2, .int p1)] := hl
  show W p l e rm_X12_isPlace s m args below meth c s.heap [] 0 0 _ _
  refine W.genQ (fun Q hQ => ?_)
  generalize hHe : s.heap = H at hP ⊢
  have hS : va_S A s.heap H [] := by rw [← hHe]; exact va_S.rf
  generalize ([] : List Loc) = locs at hS ⊢
  unfold f_X12_isPlace at hg
  refine lv_iload_n hx hb dX12_isPlace_0 rfl (lv_at hl 1 rfl) ?_
  refine lv_iconst (v := 0) hx hb dX12_isPlace_1 (by decide) ?_
  refine lv_bipush (v := 16) hx hb dX12_isPlace_2 (by decide) ?_
  refine lv_aload_n hx hb dX12_isPlace_4 rfl (lv_at hl 0 rfl) ?_
  refine va_get (ci := 11) (v := .int (pX12_w v0)) (C := RX12) (T := TX12) (N := 43) hx hb htb uX12 hown hK.1 hP 0 rfl rfl 0 (by decide) (htb _ tg_936) (fun _ h9 => h9) rfl dX12_isPlace_5 ?_
  refine lv_imul hx hb dX12_isPlace_8 ?_
  refine lv_iconst (v := 1) hx hb dX12_isPlace_9 (by decide) ?_
  refine lv_isub hx hb dX12_isPlace_10 ?_
  obtain ⟨r_1, hr_1, hg⟩ := g_bd hg
  refine cc_i (va_runS (As := [.int p0, .int 0, .int (((16 : Int32) * (pX12_w v0)) - 1)]) (rest := []) ⟨hx, hb, hml, hown, htb⟩ (k_X12_isIn p0 0 (((16 : Int32) * (pX12_w v0)) - 1) r_1 hr_1) (cw_S 3 htb tg_1078 tg_13 tg_1076 tg_1077 rfl rfl (by decide +kernel) ⟨Nat.le_of_ble_eq_true rfl, Nat.le_of_ble_eq_true rfl⟩) ⟨PC.blind, PC.pre hK hT hP hD hS hA [] rfl (by decide)⟩ rfl rfl hl.1 rfl (lv_room (Nat.le_of_ble_eq_true rfl)) dX12_isPlace_11 ⟨Nat.le_of_ble_eq_true rfl, Nat.le_of_ble_eq_true rfl⟩) hP hD hS hA [] [0, 1, 2, 3, 4, 5, 6, 7, 8, 9, 10, 11, 12, 13, 14] rfl rfl (by decide) (by decide) (fun r9 u9 H locs hw hP hD hS => ?_)
  have hw := hw.symm
  subst hw
  have hP : va_P D vwCl (WS_X12_isPlace cI cJ cZ cY a0 a0_a a0_image a0_texts a0_board a0_taken a0_fars a0_before a0_tape a0_pile a0_rows a0_told a0_values a0_truth a0_keeps v0) H := hP.sub [0, 1, 2, 3, 4, 5, 6, 7, 8, 9, 10, 11, 12, 13, 14] rfl
  have hD : va_D A (WS_X12_isPlace cI cJ cZ cY a0 a0_a a0_image a0_texts a0_board a0_taken a0_fars a0_before a0_tape a0_pile a0_rows a0_told a0_values a0_truth a0_keeps v0) := hD.sub [0, 1, 2, 3, 4, 5, 6, 7, 8, 9, 10, 11, 12, 13, 14] (by decide) rfl
  refine lv_if_eq (tgt := 38) hx hb dX12_isPlace_14 (by decide) (fun c_2 => ?_) (fun c_2 => ?_)
  · have hg := g_it hg c_2
    refine lv_iconst (v := 0) hx hb dX12_isPlace_38 (by decide) ?_
    have hg := Option.some.inj hg
    rw [hQ]
    exact W.zret (v := 0) (ty := .boolean) hx hb hr rfl (fun t ht hW => ⟨⟨0, (), rfl, hg, by rw [ht]; exact hP, hD⟩, hS.F ht⟩) hS.2.2 dX12_isPlace_39
  · have hg := g_if hg c_2
    refine lv_iload_n hx hb dX12_isPlace_17 rfl (lv_at hl 2 rfl) ?_
    refine lv_iconst (v := 0) hx hb dX12_isPlace_18 (by decide) ?_
    refine lv_bipush (v := 16) hx hb dX12_isPlace_19 (by decide) ?_
    refine lv_aload_n hx hb dX12_isPlace_21 rfl (lv_at hl 0 rfl) ?_
    refine va_get (ci := 11) (v := .int (pX12_h v0)) (C := RX12) (T := TX12) (N := 43) hx hb htb uX12 hown hK.1 hP 0 rfl rfl 1 (by decide) (htb _ tg_937) (fun _ h9 => h9) rfl dX12_isPlace_22 ?_
    refine lv_imul hx hb dX12_isPlace_25 ?_
    refine lv_iconst (v := 1) hx hb dX12_isPlace_26 (by decide) ?_
    refine lv_isub hx hb dX12_isPlace_27 ?_
    obtain ⟨r_3, hr_3, hg⟩ := g_bd hg
    refine cc_i (va_runS (As := [.int p1, .int 0, .int (((16 : Int32) * (pX12_h v0)) - 1)]) (rest := []) ⟨hx, hb, hml, hown, htb⟩ (k_X12_isIn p1 0 (((16 : Int32) * (pX12_h v0)) - 1) r_3 hr_3) (cw_S 3 htb tg_1078 tg_13 tg_1076 tg_1077 rfl rfl (by decide +kernel) ⟨Nat.le_of_ble_eq_true rfl, Nat.le_of_ble_eq_true rfl⟩) ⟨PC.blind, PC.pre hK hT hP hD hS hA [] rfl (by decide)⟩ rfl rfl hl.1 rfl (lv_room (Nat.le_of_ble_eq_true rfl)) dX12_isPlace_28 ⟨Nat.le_of_ble_eq_true rfl, Nat.le_of_ble_eq_true rfl⟩) hP hD hS hA [] [0, 1, 2, 3, 4, 5, 6, 7, 8, 9, 10, 11, 12, 13, 14] rfl rfl (by decide) (by decide) (fun r9 u9 H locs hw hP hD hS => ?_)
    have hw := hw.symm
    subst hw
    have hP : va_P D vwCl (WS_X12_isPlace cI cJ cZ cY a0 a0_a a0_image a0_texts a0_board a0_taken a0_fars a0_before a0_tape a0_pile a0_rows a0_told a0_values a0_truth a0_keeps v0) H := hP.sub [0, 1, 2, 3, 4, 5, 6, 7, 8, 9, 10, 11, 12, 13, 14] rfl
    have hD : va_D A (WS_X12_isPlace cI cJ cZ cY a0 a0_a a0_image a0_texts a0_board a0_taken a0_fars a0_before a0_tape a0_pile a0_rows a0_told a0_values a0_truth a0_keeps v0) := hD.sub [0, 1, 2, 3, 4, 5, 6, 7, 8, 9, 10, 11, 12, 13, 14] (by decide) rfl
    refine lv_if_eq (tgt := 38) hx hb dX12_isPlace_31 (by decide) (fun c_4 => ?_) (fun c_4 => ?_)
    · have hg := g_it hg c_4
      refine lv_iconst (v := 0) hx hb dX12_isPlace_38 (by decide) ?_
      have hg := Option.some.inj hg
      rw [hQ]
      exact W.zret (v := 0) (ty := .boolean) hx hb hr rfl (fun t ht hW => ⟨⟨0, (), rfl, hg, by rw [ht]; exact hP, hD⟩, hS.F ht⟩) hS.2.2 dX12_isPlace_39
    · have hg := g_if hg c_4
      refine lv_iconst (v := 1) hx hb dX12_isPlace_34 (by decide) ?_
      refine lv_goto (tgt := 39) hx hb dX12_isPlace_35 (by decide) ?_
      have hg := Option.some.inj hg
      rw [hQ]
      exact W.zret (v := 1) (ty := .boolean) hx hb hr rfl (fun t ht hW => ⟨⟨1, (), rfl, hg, by rw [ht]; exact hP, hD⟩, hS.F ht⟩) hS.2.2 dX12_isPlace_39

/-! ManyEyesModel.abs(I)I -/
def WS_X12_abs (cI cJ cZ cY : ClassId) : va_W := []
def f_X12_abs (p0 : Int32) : Option (Int32) := if (0 : Int32) ≤ p0 then (some p0) else (some (-p0))
abbrev rm_X12_abs : Room := { frames := 0, cells := 0, slots := 0, locals := 0 }
set_option maxHeartbeats 4000000 in
set_option maxRecDepth 100000 in
theorem k_X12_abs {l : Launch} {D : va_G} {cI cJ cZ cY : ClassId} {tX tY : Nat} {sz : Nat} (p0 : Int32) (res : Int32) (hg : f_X12_abs p0 = some res) : Met l yX12_abs (Cond.code yX12_abs cX12_abs 1 (some .int) :: TB) rm_X12_abs (PC D cI cJ cZ cY tX tY [.int p0] (WS_X12_abs cI cJ cZ cY) sz) (va_Qi (fun (r : Int32) (_ : Unit) => r = res) (BC D (fun _ : Unit => WS_X12_abs cI cJ cZ cY) (va_A (WS_X12_abs cI cJ cZ cY) sz)) (va_A (WS_X12_abs cI cJ cZ cY) sz)) 0 0 (va_A (WS_X12_abs cI cJ cZ cY) sz) := by
  refine Met.ofW (cc := cX12_abs) (maxL := 1) (ret := (some .int)) (by decide) rfl ?_
  intro p e s m args below meth c s₁ B hml hv
  obtain ⟨hargs, hsz, hP, hK, hD0, hT⟩ := hv
  have hx := B.exec
  have hb := B.bytes
  have hr := B.returns
  have htb : ∀ w ∈ TB, w.before args s = true := fun w h => atoms_spec (ws := Cond.code yX12_abs cX12_abs 1 (some .int) :: TB) B.pre w (List.mem_cons_of_mem _ h)
  have hown : s.vm.findClass "ManyEyesModel" = some m.cls := findClass_of_methodNamed B.named
  have hlocks := B.notSynchronized
  subst hsz
  have hD := hD0.self (sz := s.heap.size)
  generalize hAe : va_A (WS_X12_abs cI cJ cZ cY) s.heap.size = A at hD hT ⊢
  have hA : ∀ q : Nat, s.heap.size ≤ q → A q := fun q h => by rw [← hAe]; exact Or.inr h
  have hS : va_S A s.heap s.heap [] := va_S.rf
  have hl := lv_entry ([.int p0]) (n := 1) (Nat.le_of_ble_eq_true rfl)
  have he : entryFrame m args 1 = F0 m 0 (lg_sl ([.int p0]) ++ List.replicate (1 - (lg_sl ([.int p0])).length) Slot.unset).toArray [] := by rw [hargs, lg_entry_eq]
  rw [he]
  generalize (lg_sl ([.int p0]) ++ List.replicate (1 - (lg_sl ([.int p0])).length) Slot.unset).toArray = ls at hl ⊢
  have hl : lv_has ls 1 [(0, .int p0)] := hl
  show W p l e rm_X12_abs s m args below meth c s.heap [] 0 0 _ _
  refine W.genQ (fun Q hQ => ?_)
  generalize hHe : s.heap = H at hP ⊢
  have hS : va_S A s.heap H [] := by rw [← hHe]; exact va_S.rf
  generalize ([] : List Loc) = locs at hS ⊢
  unfold f_X12_abs at hg
  refine lv_iload_n hx hb dX12_abs_0 rfl (lv_at hl 0 rfl) ?_
  refine lv_if_ge (tgt := 9) hx hb dX12_abs_1 (by decide) (fun c_1 => ?_) (fun c_1 => ?_)
  · have hg := g_it hg c_1
    refine lv_iload_n hx hb dX12_abs_9 rfl (lv_at hl 0 rfl) ?_
    have hg := Option.some.inj hg
    rw [hQ]
    exact W.iret (v := p0) hx hb hr (fun t ht hW => ⟨⟨p0, (), rfl, hg, by rw [ht]; exact hP, hD⟩, hS.F ht⟩) hS.2.2 dX12_abs_10
  · have hg := g_if hg c_1
    refine lv_iload_n hx hb dX12_abs_4 rfl (lv_at hl 0 rfl) ?_
    refine lv_ineg hx hb dX12_abs_5 ?_
    refine lv_goto (tgt := 10) hx hb dX12_abs_6 (by decide) ?_
    have hg := Option.some.inj hg
    rw [hQ]
    exact W.iret (v := (-p0)) hx hb hr (fun t ht hW => ⟨⟨(-p0), (), rfl, hg, by rw [ht]; exact hP, hD⟩, hS.F ht⟩) hS.2.2 dX12_abs_10

/-! ManyEyesModel.floor(II)I -/
def WS_X12_floor (cI cJ cZ cY : ClassId) : va_W := []
def f_X12_floor (p0 : Int32) (p1 : Int32) : Option (Int32) := if (p0 : Int32) < 0 then (g_gd (¬ (p1 : Int32) = 0) (some (-(((p1 - 1) - p0) / p1)))) else (g_gd (¬ (p1 : Int32) = 0) (some (p0 / p1)))
abbrev rm_X12_floor : Room := { frames := 0, cells := 0, slots := 0, locals := 0 }
set_option maxHeartbeats 4000000 in
set_option maxRecDepth 100000 in
theorem k_X12_floor {l : Launch} {D : va_G} {cI cJ cZ cY : ClassId} {tX tY : Nat} {sz : Nat} (p0 : Int32) (p1 : Int32) (res : Int32) (hg : f_X12_floor p0 p1 = some res) : Met l yX12_floor (Cond.code yX12_floor cX12_floor 2 (some .int) :: TB) rm_X12_floor (PC D cI cJ cZ cY tX tY [.int p0, .int p1] (WS_X12_floor cI cJ cZ cY) sz) (va_Qi (fun (r : Int32) (_ : Unit) => r = res) (BC D (fun _ : Unit => WS_X12_floor cI cJ cZ cY) (va_A (WS_X12_floor cI cJ cZ cY) sz)) (va_A (WS_X12_floor cI cJ cZ cY) sz)) 0 0 (va_A (WS_X12_floor cI cJ cZ cY) sz) := by
  refine Met.ofW (cc := cX12_floor) (maxL := 2) (ret := (some .int)) (by decide) rfl ?_
  intro p e s m args below meth c s₁ B hml hv
  obtain ⟨hargs, hsz, hP, hK, hD0, hT⟩ := hv
  have hx := B.exec
  have hb := B.bytes
  have hr := B.returns
  have htb : ∀ w ∈ TB, w.before args s = true := fun w h => atoms_spec (ws := Cond.code yX12_floor cX12_floor 2 (some .int) :: TB) B.pre w (List.mem_cons_of_mem _ h)
  have hown : s.vm.findClass "ManyEyesModel" = some m.cls := findClass_of_methodNamed B.named
  have hlocks := B.notSynchronized
  subst hsz
  have hD := hD0.self (sz := s.heap.size)
  generalize hAe : va_A (WS_X12_floor cI cJ cZ cY) s.heap.size = A at hD hT ⊢
  have hA : ∀ q : Nat, s.heap.size ≤ q → A q := fun q h => by rw [← hAe]; exact Or.inr h
  have hS : va_S A s.heap s.heap [] := va_S.rf
  have hl := lv_entry ([.int p0, .int p1]) (n := 2) (Nat.le_of_ble_eq_true rfl)
  have he : entryFrame m args 2 = F0 m 0 (lg_sl ([.int p0, .int p1]) ++ List.replicate (2 - (lg_sl ([.int p0, .int p1])).length) Slot.unset).toArray [] := by rw [hargs, lg_entry_eq]
  rw [he]
  generalize (lg_sl ([.int p0, .int p1]) ++ List.replicate (2 - (lg_sl ([.int p0, .int p1])).length) Slot.unset).toArray = ls at hl ⊢
  have hl : lv_has ls 2 [(0, .int p0), (1, .int p1)] := hl
  show W p l e rm_X12_floor s m args below meth c s.heap [] 0 0 _ _
  refine W.genQ (fun Q hQ => ?_)
  generalize hHe : s.heap = H at hP ⊢
  have hS : va_S A s.heap H [] := by rw [← hHe]; exact va_S.rf
  generalize ([] : List Loc) = locs at hS ⊢
  unfold f_X12_floor at hg
  refine lv_iload_n hx hb dX12_floor_0 rfl (lv_at hl 0 rfl) ?_
  refine lv_if_lt (tgt := 10) hx hb dX12_floor_1 (by decide) (fun c_1 => ?_) (fun c_1 => ?_)
  · have hg := g_it hg c_1
    refine lv_iload_n hx hb dX12_floor_10 rfl (lv_at hl 1 rfl) ?_
    refine lv_iconst (v := 1) hx hb dX12_floor_11 (by decide) ?_
    refine lv_isub hx hb dX12_floor_12 ?_
    refine lv_iload_n hx hb dX12_floor_13 rfl (lv_at hl 0 rfl) ?_
    refine lv_isub hx hb dX12_floor_14 ?_
    refine lv_iload_n hx hb dX12_floor_15 rfl (lv_at hl 1 rfl) ?_
    obtain ⟨h_2, hg⟩ := g_gde hg
    refine lv_idiv hx hb dX12_floor_16 h_2 ?_
    refine lv_ineg hx hb dX12_floor_17 ?_
    have hg := Option.some.inj hg
    rw [hQ]
    exact W.iret (v := (-(((p1 - 1) - p0) / p1))) hx hb hr (fun t ht hW => ⟨⟨(-(((p1 - 1) - p0) / p1)), (), rfl, hg, by rw [ht]; exact hP, hD⟩, hS.F ht⟩) hS.2.2 dX12_floor_18
  · have hg := g_if hg c_1
    refine lv_iload_n hx hb dX12_floor_4 rfl (lv_at hl 0 rfl) ?_
    refine lv_iload_n hx hb dX12_floor_5 rfl (lv_at hl 1 rfl) ?_
    obtain ⟨h_3, hg⟩ := g_gde hg
    refine lv_idiv hx hb dX12_floor_6 h_3 ?_
    refine lv_goto (tgt := 18) hx hb dX12_floor_7 (by decide) ?_
    have hg := Option.some.inj hg
    rw [hQ]
    exact W.iret (v := (p0 / p1)) hx hb hr (fun t ht hW => ⟨⟨(p0 / p1), (), rfl, hg, by rw [ht]; exact hP, hD⟩, hS.F ht⟩) hS.2.2 dX12_floor_18

/-! ManyEyesModel.mark(II)Z -/
def WS_X12_mark (cI cJ cZ cY : ClassId) (a0 a0_a a0_image a0_texts a0_board a0_taken a0_fars a0_before a0_tape a0_pile a0_rows a0_told a0_values a0_truth a0_keeps : Nat) (v0 : BX12) : va_W := (GX12 cI cJ cZ cY a0 a0_a a0_image a0_texts a0_board a0_taken a0_fars a0_before a0_tape a0_pile a0_rows a0_told a0_values a0_truth a0_keeps v0)
def f_X12_mark (v0 : BX12) (p0 : Int32) (p1 : Int32) : Option (Int32 × BX12) := (f_X12_isCell v0 p0).bind (fun r_1 => if (r_1 : Int32) = 0 then (some (0, v0)) else ((f_X12_isIn p1 0 255).bind (fun r_3 => if (r_3 : Int32) = 0 then (some (0, v0)) else (g_gd (inB ((10 : Int32) + p0) 3170) (g_lt (sX12_a v0 (upd (pX12_a v0) (((10 : Int32) + p0) : Int32).toNatClampNeg p1)) (fun v0_6 => some (1, v0_6)))))))
abbrev rm_X12_mark : Room := { frames := 2, cells := 0, slots := 0, locals := 43 }
set_option maxHeartbeats 4000000 in
set_option maxRecDepth 100000 in
theorem k_X12_mark {l : Launch} {D : va_G} {cI cJ cZ cY : ClassId} {tX tY : Nat} {sz : Nat} (a0 a0_a a0_image a0_texts a0_board a0_taken a0_fars a0_before a0_tape a0_pile a0_rows a0_told a0_values a0_truth a0_keeps : Nat) (v0 : BX12) (p0 : Int32) (p1 : Int32) (res : Int32 × BX12) (hg : f_X12_mark v0 p0 p1 = some res) : Met l yX12_mark (Cond.code yX12_mark cX12_mark 3 (some .boolean) :: TB) rm_X12_mark (PC D cI cJ cZ cY tX tY [.ref a0, .int p0, .int p1] (WS_X12_mark cI cJ cZ cY a0 a0_a a0_image a0_texts a0_board a0_taken a0_fars a0_before a0_tape a0_pile a0_rows a0_told a0_values a0_truth a0_keeps v0) sz) (va_Qi (fun (r : Int32) (u : BX12) => r = res.1 ∧ u = res.2) (BC D (fun u : BX12 => WS_X12_mark cI cJ cZ cY a0 a0_a a0_image a0_texts a0_board a0_taken a0_fars a0_before a0_tape a0_pile a0_rows a0_told a0_values a0_truth a0_keeps u) (va_A (WS_X12_mark cI cJ cZ cY a0 a0_a a0_image a0_texts a0_board a0_taken a0_fars a0_before a0_tape a0_pile a0_rows a0_told a0_values a0_truth a0_keeps v0) sz)) (va_A (WS_X12_mark cI cJ cZ cY a0 a0_a a0_image a0_texts a0_board a0_taken a0_fars a0_before a0_tape a0_pile a0_rows a0_told a0_values a0_truth a0_keeps v0) sz)) 0 0 (va_A (WS_X12_mark cI cJ cZ cY a0 a0_a a0_image a0_texts a0_board a0_taken a0_fars a0_before a0_tape a0_pile a0_rows a0_told a0_values a0_truth a0_keeps v0) sz) := by
  refine Met.ofW (cc := cX12_mark) (maxL := 3) (ret := (some .boolean)) (by decide) rfl ?_
  intro p e s m args below meth c s₁ B hml hv
  obtain ⟨hargs, hsz, hP, hK, hD0, hT⟩ := hv
  have hx := B.exec
  have hb := B.bytes
  have hr := B.returns
  have htb : ∀ w ∈ TB, w.before args s = true := fun w h => atoms_spec (ws := Cond.code yX12_mark cX12_mark 3 (some .boolean) :: TB) B.pre w (List.mem_cons_of_mem _ h)
  have hown : s.vm.findClass "ManyEyesModel" = some m.cls := findClass_of_methodNamed B.named
  have hlocks := B.notSynchronized
  subst hsz
  have hD := hD0.self (sz := s.heap.size)
  generalize hAe : va_A (WS_X12_mark cI cJ cZ cY a0 a0_a a0_image a0_texts a0_board a0_taken a0_fars a0_before a0_tape a0_pile a0_rows a0_told a0_values a0_truth a0_keeps v0) s.heap.size = A at hD hT ⊢
  have hA : ∀ q : Nat, s.heap.size ≤ q → A q := fun q h => by rw [← hAe]; exact Or.inr h
  have hS : va_S A s.heap s.heap [] := va_S.rf
  have hl := lv_entry ([.ref a0, .int p0, .int p1]) (n := 3) (Nat.le_of_ble_eq_true rfl)
  have he : entryFrame m args 3 = F0 m 0 (lg_sl ([.ref a0, .int p0, .int p1]) ++ List.replicate (3 - (lg_sl ([.ref a0, .int p0, .int p1])).length) Slot.unset).toArray [] := by rw [hargs, lg_entry_eq]
  rw [he]
  generalize (lg_sl ([.ref a0, .int p0, .int p1]) ++ List.replicate (3 - (lg_sl ([.ref a0, .int p0, .int p1])).length) Slot.unset).toArray = ls at hl ⊢
  have hl : lv_has ls 3 [(0, .ref a0), (1, .int p0), (2, .int p1)] := hl
  show W p l e rm_X12_mark s m args below meth c s.heap [] 0 0 _ _
  refine W.genQ (fun Q hQ => ?_)
  generalize hHe : s.heap = H at hP ⊢
  have hS : va_S A s.heap H [] := by rw [← hHe]; exact va_S.rf
  generalize ([] : List Loc) = locs at hS ⊢
  unfold f_X12_mark at hg
  refine lv_aload_n hx hb dX12_mark_0 rfl (lv_at hl 0 rfl) ?_
  refine lv_iload_n hx hb dX12_mark_1 rfl (lv_at hl 1 rfl) ?_
  obtain ⟨r_1, hr_1, hg⟩ := g_bd hg
  refine cc_i (va_runV (C := RX12) (As := [.int p0]) (rest := []) ⟨hx, hb, hml, hown, htb⟩ (k_X12_isCell a0 a0_a a0_image a0_texts a0_board a0_taken a0_fars a0_before a0_tape a0_pile a0_rows a0_told a0_values a0_truth a0_keeps v0 p0 r_1 hr_1) (cw_V 1 htb tg_1075 tg_13 tg_1072 tg_1074 ts_28 rfl rfl (by decide +kernel) ⟨Nat.le_of_ble_eq_true rfl, Nat.le_of_ble_eq_true rfl⟩) ⟨PC.blind, va_recv hK.1 hP (ci := 11) (q0 := 0) rfl rfl, PC.pre hK hT hP hD hS hA [0, 1, 2, 3, 4, 5, 6, 7, 8, 9, 10, 11, 12, 13, 14] rfl (by decide)⟩ rfl rfl hl.1 rfl (lv_room (Nat.le_of_ble_eq_true rfl)) dX12_mark_2 ⟨Nat.le_of_ble_eq_true rfl, Nat.le_of_ble_eq_true rfl⟩) hP hD hS hA [0, 1, 2, 3, 4, 5, 6, 7, 8, 9, 10, 11, 12, 13, 14] [] rfl rfl (by decide) (by decide) (fun r9 u9 H locs hw hP hD hS => ?_)
  have hw := hw.symm
  subst hw
  have hP : va_P D vwCl (WS_X12_mark cI cJ cZ cY a0 a0_a a0_image a0_texts a0_board a0_taken a0_fars a0_before a0_tape a0_pile a0_rows a0_told a0_values a0_truth a0_keeps v0) H := hP.sub [0, 1, 2, 3, 4, 5, 6, 7, 8, 9, 10, 11, 12, 13, 14] rfl
  have hD : va_D A (WS_X12_mark cI cJ cZ cY a0 a0_a a0_image a0_texts a0_board a0_taken a0_fars a0_before a0_tape a0_pile a0_rows a0_told a0_values a0_truth a0_keeps v0) := hD.sub [0, 1, 2, 3, 4, 5, 6, 7, 8, 9, 10, 11, 12, 13, 14] (by decide) rfl
  refine lv_if_eq (tgt := 19) hx hb dX12_mark_5 (by decide) (fun c_2 => ?_) (fun c_2 => ?_)
  · have hg := g_it hg c_2
    refine lv_iconst (v := 0) hx hb dX12_mark_19 (by decide) ?_
    have hg := Option.some.inj hg
    rw [hQ]
    exact W.zret (v := 0) (ty := .boolean) hx hb hr rfl (fun t ht hW => ⟨⟨0, (v0), rfl, ⟨by rw [← hg], by rw [← hg]⟩, by rw [ht]; exact hP, hD⟩, hS.F ht⟩) hS.2.2 dX12_mark_20
  · have hg := g_if hg c_2
    refine lv_iload_n hx hb dX12_mark_8 rfl (lv_at hl 2 rfl) ?_
    refine lv_iconst (v := 0) hx hb dX12_mark_9 (by decide) ?_
    refine lv_sipush (v := 255) hx hb dX12_mark_10 (by decide) ?_
    obtain ⟨r_3, hr_3, hg⟩ := g_bd hg
    refine cc_i (va_runS (As := [.int p1, .int 0, .int 255]) (rest := []) ⟨hx, hb, hml, hown, htb⟩ (k_X12_isIn p1 0 255 r_3 hr_3) (cw_S 3 htb tg_1078 tg_13 tg_1076 tg_1077 rfl rfl (by decide +kernel) ⟨Nat.le_of_ble_eq_true rfl, Nat.le_of_ble_eq_true rfl⟩) ⟨PC.blind, PC.pre hK hT hP hD hS hA [] rfl (by decide)⟩ rfl rfl hl.1 rfl (lv_room (Nat.le_of_ble_eq_true rfl)) dX12_mark_13 ⟨Nat.le_of_ble_eq_true rfl, Nat.le_of_ble_eq_true rfl⟩) hP hD hS hA [] [0, 1, 2, 3, 4, 5, 6, 7, 8, 9, 10, 11, 12, 13, 14] rfl rfl (by decide) (by decide) (fun r9 u9 H locs hw hP hD hS => ?_)
    have hw := hw.symm
    subst hw
    have hP : va_P D vwCl (WS_X12_mark cI cJ cZ cY a0 a0_a a0_image a0_texts a0_board a0_taken a0_fars a0_before a0_tape a0_pile a0_rows a0_told a0_values a0_truth a0_keeps v0) H := hP.sub [0, 1, 2, 3, 4, 5, 6, 7, 8, 9, 10, 11, 12, 13, 14] rfl
    have hD : va_D A (WS_X12_mark cI cJ cZ cY a0 a0_a a0_image a0_texts a0_board a0_taken a0_fars a0_before a0_tape a0_pile a0_rows a0_told a0_values a0_truth a0_keeps v0) := hD.sub [0, 1, 2, 3, 4, 5, 6, 7, 8, 9, 10, 11, 12, 13, 14] (by decide) rfl
    refine lv_if_ne (tgt := 21) hx hb dX12_mark_16 (by decide) (fun c_4 => ?_) (fun c_4 => ?_)
    · have hg := g_if hg c_4
      refine lv_aload_n hx hb dX12_mark_21 rfl (lv_at hl 0 rfl) ?_
      refine va_get (ci := 11) (v := .ref a0_a) (C := RX12) (T := TX12) (N := 43) hx hb htb uX12 hown hK.1 hP 0 rfl rfl 2 (by decide) (htb _ tg_938) (fun _ h9 => h9) rfl dX12_mark_22 ?_
      refine lv_bipush (v := 10) hx hb dX12_mark_25 (by decide) ?_
      refine lv_iload_n hx hb dX12_mark_27 rfl (lv_at hl 1 rfl) ?_
      refine lv_iadd hx hb dX12_mark_28 ?_
      refine lv_iload_n hx hb dX12_mark_29 rfl (lv_at hl 2 rfl) ?_
      obtain ⟨h_5, hg⟩ := g_gde hg
      refine va_iast hx hb hK.1 hP hD hS 1 0 rfl rfl (inB_vp h_5) dX12_mark_30 (fun H locs hP hD hS => ?_)
      obtain ⟨v0_6, ev0_6⟩ : ∃ z, z = sX12_a v0 (upd (pX12_a v0) (((10 : Int32) + p0) : Int32).toNatClampNeg p1) := ⟨_, rfl⟩
      have hP : va_P D vwCl (WS_X12_mark cI cJ cZ cY a0 a0_a a0_image a0_texts a0_board a0_taken a0_fars a0_before a0_tape a0_pile a0_rows a0_told a0_values a0_truth a0_keeps v0_6) H := by rw [ev0_6]; exact hP
      have hD : va_D A (WS_X12_mark cI cJ cZ cY a0 a0_a a0_image a0_texts a0_board a0_taken a0_fars a0_before a0_tape a0_pile a0_rows a0_told a0_values a0_truth a0_keeps v0_6) := by rw [ev0_6]; exact hD
      have hg := g_lte hg v0_6 ev0_6
      refine lv_iconst (v := 1) hx hb dX12_mark_31 (by decide) ?_
      have hg := Option.some.inj hg
      rw [hQ]
      exact W.zret (v := 1) (ty := .boolean) hx hb hr rfl (fun t ht hW => ⟨⟨1, (v0_6), rfl, ⟨by rw [← hg], by rw [← hg]⟩, by rw [ht]; exact hP, hD⟩, hS.F ht⟩) hS.2.2 dX12_mark_32
    · have hg := g_it hg c_4
      refine lv_iconst (v := 0) hx hb dX12_mark_19 (by decide) ?_
      have hg := Option.some.inj hg
      rw [hQ]
      exact W.zret (v := 0) (ty := .boolean) hx hb hr rfl (fun t ht hW => ⟨⟨0, (v0), rfl, ⟨by rw [← hg], by rw [← hg]⟩, by rw [ht]; exact hP, hD⟩, hS.F ht⟩) hS.2.2 dX12_mark_20
