/-! ManyEyes.same(IIIIII)I -/
def WS_X11_same (cI cJ cZ cY : ClassId) (a0 a0_tape a0_firstTakes r0_saved r0_flyer r0_parser a1 a1_codes r1_reads r1_flight a2 a2_view a2_rays a3 a3_lensSide a3_lensWidth a3_pairA a3_pairB a3_pairDelay a4 a4_own a4_bodyX a4_bodyY a4_bodyWayX a4_bodyWayY a4_bodyMark : Nat) (v0 : BX11) (v1 : BX8) (v2 : BX7) (v3 : BX1) (v4 : BX10) : va_W := (GX11 cI cJ cZ cY a0 a0_tape a0_firstTakes a1 r0_saved a2 r0_flyer r0_parser v0) ++ ((GX8 cI cJ cZ cY a1 a1_codes a4 a3 r1_reads r1_flight v1) ++ ((GX7 cI cJ cZ cY a2 a2_view a2_rays a4 v2) ++ ((GX1 cI cJ cZ cY a3 a3_lensSide a3_lensWidth a3_pairA a3_pairB a3_pairDelay v3) ++ ((GX10 cI cJ cZ cY a4 a4_own a4_bodyX a4_bodyY a4_bodyWayX a4_bodyWayY a4_bodyMark v4)))))
def f_X11_same (v0 : BX11) (v1 : BX8) (v2 : BX7) (v3 : BX1) (v4 : BX10) (p0 : Int32) (p1 : Int32) (p2 : Int32) (p3 : Int32) (p4 : Int32) (p5 : Int32) : Option (Int32 × BX11 × BX7 × BX10) := (f_X10_isBody v4 p0).bind (fun r_1 => if (r_1 : Int32) = 0 then (some ((-1), v0, v2, v4)) else ((f_X11_isStanding v0 v1 v4 p3 p4 p5).bind (fun r_3 => if (r_3 : Int32) = 0 then (some ((-1), v0, v2, v4)) else (g_gd (inB p0 6) (g_lt (((pX10_bodyX v4) (p0 : Int32).toNatClampNeg) : Int32) (fun x8_6 => g_gd (inB p0 6) (g_lt (((pX10_bodyY v4) (p0 : Int32).toNatClampNeg) : Int32) (fun x9_8 => (f_X11_isWithin p1 (-x8_6) (((pX10_w v4) - 1) - x8_6)).bind (fun r_9 => if (r_9 : Int32) = 0 then (some ((-1), v0, v2, v4)) else ((f_X11_isWithin p2 (-x9_8) (((pX10_h v4) - 1) - x9_8)).bind (fun r_11 => if (r_11 : Int32) = 0 then (some ((-1), v0, v2, v4)) else ((f_X7_look v2 v4 p3 p4 0).bind (fun r_13 => (f_X11_fillTakes 16 (pX11_firstTakes v0) v0 v1 r_13 v3 v4 p5).bind (fun r_14 => g_lt ((x8_6 + p1) : Int32) (fun x_15 => g_gd (inB p0 6) (g_lt (sX10_bodyX v4 (upd (pX10_bodyX v4) (p0 : Int32).toNatClampNeg x_15)) (fun v4_17 => g_lt ((x9_8 + p2) : Int32) (fun x_18 => g_gd (inB p0 6) (g_lt (sX10_bodyY v4_17 (upd (pX10_bodyY v4_17) (p0 : Int32).toNatClampNeg x_18)) (fun v4_20 => (f_X7_look r_14.2 v4_20 p3 p4 0).bind (fun r_21 => (f_X11_hasTakes 16 (pX11_firstTakes (sX11_firstTakes v0 r_14.1)) (sX11_firstTakes v0 r_14.1) v1 r_21 v3 v4_20 p5).bind (fun r_22 => g_gd (inB p0 6) (g_lt (sX10_bodyX v4_20 (upd (pX10_bodyX v4_20) (p0 : Int32).toNatClampNeg x8_6)) (fun v4_24 => g_gd (inB p0 6) (g_lt (sX10_bodyY v4_24 (upd (pX10_bodyY v4_24) (p0 : Int32).toNatClampNeg x9_8)) (fun v4_26 => if (r_22.1 : Int32) = 0 then (some (0, sX11_firstTakes v0 r_14.1, r_22.2, v4_26)) else (some (1, sX11_firstTakes v0 r_14.1, r_22.2, v4_26))))))))))))))))))))))))))))
abbrev rm_X11_same : Room := { frames := 3, cells := 0, slots := 0, locals := 89 }
set_option maxHeartbeats 4000000 in
set_option maxRecDepth 100000 in
theorem k_X11_same {l : Launch} {D : va_G} {cI cJ cZ cY : ClassId} {tX tY : Nat} {sz : Nat} (a0 a0_tape a0_firstTakes r0_saved r0_flyer r0_parser a1 a1_codes r1_reads r1_flight a2 a2_view a2_rays a3 a3_lensSide a3_lensWidth a3_pairA a3_pairB a3_pairDelay a4 a4_own a4_bodyX a4_bodyY a4_bodyWayX a4_bodyWayY a4_bodyMark : Nat) (v0 : BX11) (v1 : BX8) (v2 : BX7) (v3 : BX1) (v4 : BX10) (p0 : Int32) (p1 : Int32) (p2 : Int32) (p3 : Int32) (p4 : Int32) (p5 : Int32) (res : Int32 × BX11 × BX7 × BX10) (hg : f_X11_same v0 v1 v2 v3 v4 p0 p1 p2 p3 p4 p5 = some res) : Met l yX11_same (Cond.code yX11_same cX11_same 11 (some .int) :: TB) rm_X11_same (PC D cI cJ cZ cY tX tY [.ref a0, .int p0, .int p1, .int p2, .int p3, .int p4, .int p5] (WS_X11_same cI cJ cZ cY a0 a0_tape a0_firstTakes r0_saved r0_flyer r0_parser a1 a1_codes r1_reads r1_flight a2 a2_view a2_rays a3 a3_lensSide a3_lensWidth a3_pairA a3_pairB a3_pairDelay a4 a4_own a4_bodyX a4_bodyY a4_bodyWayX a4_bodyWayY a4_bodyMark v0 v1 v2 v3 v4) sz) (va_Qi (fun (r : Int32) (u : BX11 × BX7 × BX10) => r = res.1 ∧ u = res.2) (BC D (fun u : BX11 × BX7 × BX10 => WS_X11_same cI cJ cZ cY a0 a0_tape a0_firstTakes r0_saved r0_flyer r0_parser a1 a1_codes r1_reads r1_flight a2 a2_view a2_rays a3 a3_lensSide a3_lensWidth a3_pairA a3_pairB a3_pairDelay a4 a4_own a4_bodyX a4_bodyY a4_bodyWayX a4_bodyWayY a4_bodyMark u.1 v1 u.2.1 v3 u.2.2) (va_A (WS_X11_same cI cJ cZ cY a0 a0_tape a0_firstTakes r0_saved r0_flyer r0_parser a1 a1_codes r1_reads r1_flight a2 a2_view a2_rays a3 a3_lensSide a3_lensWidth a3_pairA a3_pairB a3_pairDelay a4 a4_own a4_bodyX a4_bodyY a4_bodyWayX a4_bodyWayY a4_bodyMark v0 v1 v2 v3 v4) sz)) (va_A (WS_X11_same cI cJ cZ cY a0 a0_tape a0_firstTakes r0_saved r0_flyer r0_parser a1 a1_codes r1_reads r1_flight a2 a2_view a2_rays a3 a3_lensSide a3_lensWidth a3_pairA a3_pairB a3_pairDelay a4 a4_own a4_bodyX a4_bodyY a4_bodyWayX a4_bodyWayY a4_bodyMark v0 v1 v2 v3 v4) sz)) 0 0 (va_A (WS_X11_same cI cJ cZ cY a0 a0_tape a0_firstTakes r0_saved r0_flyer r0_parser a1 a1_codes r1_reads r1_flight a2 a2_view a2_rays a3 a3_lensSide a3_lensWidth a3_pairA a3_pairB a3_pairDelay a4 a4_own a4_bodyX a4_bodyY a4_bodyWayX a4_bodyWayY a4_bodyMark v0 v1 v2 v3 v4) sz) := by
  refine Met.ofW (cc := cX11_same) (maxL := 11) (ret := (some .int)) (by decide) rfl ?_
  intro p e s m args below meth c s₁ B hml hv
  obtain ⟨hargs, hsz, hP, hK, hD0, hT⟩ := hv
  have hx := B.exec
  have hb := B.bytes
  have hr := B.returns
  have htb : ∀ w ∈ TB, w.before args s = true := fun w h => atoms_spec (ws := Cond.code yX11_same cX11_same 11 (some .int) :: TB) B.pre w (List.mem_cons_of_mem _ h)
  have hown : s.vm.findClass "ManyEyes" = some m.cls := findClass_of_methodNamed B.named
  have hlocks := B.notSynchronized
  subst hsz
  have hD := hD0.self (sz := s.heap.size)
  generalize hAe : va_A (WS_X11_same cI cJ cZ cY a0 a0_tape a0_firstTakes r0_saved r0_flyer r0_parser a1 a1_codes r1_reads r1_flight a2 a2_view a2_rays a3 a3_lensSide a3_lensWidth a3_pairA a3_pairB a3_pairDelay a4 a4_own a4_bodyX a4_bodyY a4_bodyWayX a4_bodyWayY a4_bodyMark v0 v1 v2 v3 v4) s.heap.size = A at hD hT ⊢
  have hA : ∀ q : Nat, s.heap.size ≤ q → A q := fun q h => by rw [← hAe]; exact Or.inr h
  have hS : va_S A s.heap s.heap [] := va_S.rf
  have hl := lv_entry ([.ref a0, .int p0, .int p1, .int p2, .int p3, .int p4, .int p5]) (n := 11) (Nat.le_of_ble_eq_true rfl)
  have he : entryFrame m args 11 = F0 m 0 (lg_sl ([.ref a0, .int p0, .int p1, .int p2, .int p3, .int p4, .int p5]) ++ List.replicate (11 - (lg_sl ([.ref a0, .int p0, .int p1, .int p2, .int p3, .int p4, .int p5])).length) Slot.unset).toArray [] := by rw [hargs, lg_entry_eq]
  rw [he]
  generalize (lg_sl ([.ref a0, .int p0, .int p1, .int p2, .int p3, .int p4, .int p5]) ++ List.replicate (11 - (lg_sl ([.ref a0, .int p0, .int p1, .int p2, .int p3, .int p4, .int p5])).length) Slot.unset).toArray = ls at hl ⊢
  have hl : lv_has ls 11 [(0, .ref a0), (1, .int p0), (2, .int p1), (3, .int p2), (4, .int p3), (5, .int p4), (6, .int p5)] := hl
  show W p l e rm_X11_same s m args below meth c s.heap [] 0 0 _ _
  refine W.genQ (fun Q hQ => ?_)
  generalize hHe : s.heap = H at hP ⊢
  have hS : va_S A s.heap H [] := by rw [← hHe]; exact va_S.rf
  generalize ([] : List Loc) = locs at hS ⊢
  unfold f_X11_same at hg
  refine lv_aload_n hx hb dX11_same_0 rfl (lv_at hl 0 rfl) ?_
  refine va_get (ci := 10) (v := .ref a1) (C := RX11) (T := TX11) (N := 9) hx hb htb uX11 hown hK.1 hP 0 rfl rfl 0 (by decide) (htb _ tg_412) (fun _ h9 => h9) rfl dX11_same_1 ?_
  refine va_get (ci := 7) (v := .ref a4) (C := RX8) (T := TX8) (N := 6) hx hb htb uX8 hown hK.1 hP 3 rfl rfl 0 (by decide) (htb _ tg_233) (fun _ h9 => h9) rfl dX11_same_4 ?_
  refine lv_astore (lv' := [(7, .ref a4), (0, .ref a0), (1, .int p0), (2, .int p1), (3, .int p2), (4, .int p3), (5, .int p4), (6, .int p5)]) hx hb dX11_same_7 hl (by decide) rfl (fun ls hl => ?_)
  refine lv_aload hx hb dX11_same_9 (lv_at hl 0 rfl) ?_
  refine lv_iload_n hx hb dX11_same_11 rfl (lv_at hl 2 rfl) ?_
  obtain ⟨r_1, hr_1, hg⟩ := g_bd hg
  refine cc_i (va_runV (C := RX10) (As := [.int p0]) (rest := []) ⟨hx, hb, hml, hown, htb⟩ (k_X10_isBody a4 a4_own a4_bodyX a4_bodyY a4_bodyWayX a4_bodyWayY a4_bodyMark v4 p0 r_1 hr_1) (cw_V 1 htb tg_583 tg_3 tg_580 tg_581 tg_582 rfl rfl (by decide +kernel) ⟨Nat.le_of_ble_eq_true rfl, Nat.le_of_ble_eq_true rfl⟩) ⟨PC.blind, va_recv hK.1 hP (ci := 9) (q0 := 14) rfl rfl, PC.pre hK hT hP hD hS hA [14, 15, 16, 17, 18, 19, 20] rfl (by decide)⟩ rfl rfl hl.1 rfl (lv_room (Nat.le_of_ble_eq_true rfl)) dX11_same_12 ⟨Nat.le_of_ble_eq_true rfl, Nat.le_of_ble_eq_true rfl⟩) hP hD hS hA [14, 15, 16, 17, 18, 19, 20] [0, 1, 2, 3, 4, 5, 6, 7, 8, 9, 10, 11, 12, 13] rfl rfl (by decide) (by decide) (fun r9 u9 H locs hw hP hD hS => ?_)
  have hw := hw.symm
  subst hw
  have hP : va_P D vwCl (WS_X11_same cI cJ cZ cY a0 a0_tape a0_firstTakes r0_saved r0_flyer r0_parser a1 a1_codes r1_reads r1_flight a2 a2_view a2_rays a3 a3_lensSide a3_lensWidth a3_pairA a3_pairB a3_pairDelay a4 a4_own a4_bodyX a4_bodyY a4_bodyWayX a4_bodyWayY a4_bodyMark v0 v1 v2 v3 v4) H := hP.sub [0, 1, 2, 3, 4, 5, 6, 7, 8, 9, 10, 11, 12, 13, 14, 15, 16, 17, 18, 19, 20] rfl
  have hD : va_D A (WS_X11_same cI cJ cZ cY a0 a0_tape a0_firstTakes r0_saved r0_flyer r0_parser a1 a1_codes r1_reads r1_flight a2 a2_view a2_rays a3 a3_lensSide a3_lensWidth a3_pairA a3_pairB a3_pairDelay a4 a4_own a4_bodyX a4_bodyY a4_bodyWayX a4_bodyWayY a4_bodyMark v0 v1 v2 v3 v4) := hD.sub [0, 1, 2, 3, 4, 5, 6, 7, 8, 9, 10, 11, 12, 13, 14, 15, 16, 17, 18, 19, 20] (by decide) rfl
  refine lv_if_eq (tgt := 31) hx hb dX11_same_15 (by decide) (fun c_2 => ?_) (fun c_2 => ?_)
  · have hg := g_it hg c_2
    refine lv_iconst (v := (-1)) hx hb dX11_same_31 (by decide) ?_
    have hg := Option.some.inj hg
    rw [hQ]
    exact W.iret (v := (-1)) hx hb hr (fun t ht hW => ⟨⟨(-1), (v0, v2, v4), rfl, ⟨by rw [← hg], by rw [← hg]⟩, by rw [ht]; exact hP, hD⟩, hS.F ht⟩) hS.2.2 dX11_same_32
  · have hg := g_if hg c_2
    refine lv_aload_n hx hb dX11_same_18 rfl (lv_at hl 1 rfl) ?_
    refine lv_iload hx hb dX11_same_19 (lv_at hl 5 rfl) ?_
    refine lv_iload hx hb dX11_same_21 (lv_at hl 6 rfl) ?_
    refine lv_iload hx hb dX11_same_23 (lv_at hl 7 rfl) ?_
    obtain ⟨r_3, hr_3, hg⟩ := g_bd hg
    refine cc_i (va_runV (C := RX11) (As := [.int p3, .int p4, .int p5]) (rest := []) ⟨hx, hb, hml, hown, htb⟩ (k_X11_isStanding a0 a0_tape a0_firstTakes r0_saved a2 r0_flyer r0_parser a1 a1_codes a3 r1_reads r1_flight a4 a4_own a4_bodyX a4_bodyY a4_bodyWayX a4_bodyWayY a4_bodyMark v0 v1 v4 p3 p4 p5 r_3 hr_3) (cw_V 3 htb tg_526 tg_1 tg_523 tg_525 ts_0 rfl rfl (by decide +kernel) ⟨Nat.le_of_ble_eq_true rfl, Nat.le_of_ble_eq_true rfl⟩) ⟨PC.blind, va_recv hK.1 hP (ci := 10) (q0 := 0) rfl rfl, PC.pre hK hT hP hD hS hA [0, 3, 4, 14, 15, 16, 17, 18, 19, 20] rfl (by decide)⟩ rfl rfl hl.1 rfl (lv_room (Nat.le_of_ble_eq_true rfl)) dX11_same_25 ⟨Nat.le_of_ble_eq_true rfl, Nat.le_of_ble_eq_true rfl⟩) hP hD hS hA [0, 3, 4, 14, 15, 16, 17, 18, 19, 20] [1, 2, 5, 6, 7, 8, 9, 10, 11, 12, 13] rfl rfl (by decide) (by decide) (fun r9 u9 H locs hw hP hD hS => ?_)
    have hw := hw.symm
    subst hw
    have hP : va_P D vwCl (WS_X11_same cI cJ cZ cY a0 a0_tape a0_firstTakes r0_saved r0_flyer r0_parser a1 a1_codes r1_reads r1_flight a2 a2_view a2_rays a3 a3_lensSide a3_lensWidth a3_pairA a3_pairB a3_pairDelay a4 a4_own a4_bodyX a4_bodyY a4_bodyWayX a4_bodyWayY a4_bodyMark v0 v1 v2 v3 v4) H := hP.sub [11, 0, 1, 12, 13, 2, 3, 4, 5, 6, 7, 8, 9, 10, 14, 15, 16, 17, 18, 19, 20] rfl
    have hD : va_D A (WS_X11_same cI cJ cZ cY a0 a0_tape a0_firstTakes r0_saved r0_flyer r0_parser a1 a1_codes r1_reads r1_flight a2 a2_view a2_rays a3 a3_lensSide a3_lensWidth a3_pairA a3_pairB a3_pairDelay a4 a4_own a4_bodyX a4_bodyY a4_bodyWayX a4_bodyWayY a4_bodyMark v0 v1 v2 v3 v4) := hD.sub [11, 0, 1, 12, 13, 2, 3, 4, 5, 6, 7, 8, 9, 10, 14, 15, 16, 17, 18, 19, 20] (by decide) rfl
    refine lv_if_ne (tgt := 33) hx hb dX11_same_28 (by decide) (fun c_4 => ?_) (fun c_4 => ?_)
    · have hg := g_if hg c_4
      refine lv_aload hx hb dX11_same_33 (lv_at hl 0 rfl) ?_
      refine va_get (ci := 9) (v := .ref a4_bodyX) (C := RX10) (T := TX10) (N := 9) hx hb htb uX10 hown hK.1 hP 14 rfl rfl 3 (by decide) (htb _ tg_53) (fun _ h9 => h9) rfl dX11_same_35 ?_
      refine lv_iload_n hx hb dX11_same_38 rfl (lv_at hl 2 rfl) ?_
      obtain ⟨h_5, hg⟩ := g_gde hg
      refine va_iald hx hb hK.1 hP 16 0 rfl rfl (inB_vp h_5) dX11_same_39 ?_
      refine lv_topi (fun x8_6 ex8_6 => ?_)
      have hg := g_lte hg x8_6 ex8_6
      refine lv_istore (lv' := [(8, .int x8_6), (7, .ref a4), (0, .ref a0), (1, .int p0), (2, .int p1), (3, .int p2), (4, .int p3), (5, .int p4), (6, .int p5)]) hx hb dX11_same_40 hl (by decide) rfl (fun ls hl => ?_)
      refine lv_aload hx hb dX11_same_42 (lv_at hl 1 rfl) ?_
      refine va_get (ci := 9) (v := .ref a4_bodyY) (C := RX10) (T := TX10) (N := 9) hx hb htb uX10 hown hK.1 hP 14 rfl rfl 4 (by decide) (htb _ tg_55) (fun _ h9 => h9) rfl dX11_same_44 ?_
      refine lv_iload_n hx hb dX11_same_47 rfl (lv_at hl 3 rfl) ?_
      obtain ⟨h_7, hg⟩ := g_gde hg
      refine va_iald hx hb hK.1 hP 17 0 rfl rfl (inB_vp h_7) dX11_same_48 ?_
      refine lv_topi (fun x9_8 ex9_8 => ?_)
      have hg := g_lte hg x9_8 ex9_8
      refine lv_istore (lv' := [(9, .int x9_8), (8, .int x8_6), (7, .ref a4), (0, .ref a0), (1, .int p0), (2, .int p1), (3, .int p2), (4, .int p3), (5, .int p4), (6, .int p5)]) hx hb dX11_same_49 hl (by decide) rfl (fun ls hl => ?_)
      refine lv_iload_n hx hb dX11_same_51 rfl (lv_at hl 5 rfl) ?_
      refine lv_iload hx hb dX11_same_52 (lv_at hl 1 rfl) ?_
      refine lv_ineg hx hb dX11_same_54 ?_
      refine lv_aload hx hb dX11_same_55 (lv_at hl 2 rfl) ?_
      refine va_get (ci := 9) (v := .int (pX10_w v4)) (C := RX10) (T := TX10) (N := 9) hx hb htb uX10 hown hK.1 hP 14 rfl rfl 0 (by decide) (htb _ tg_45) (fun _ h9 => h9) rfl dX11_same_57 ?_
      refine lv_iconst (v := 1) hx hb dX11_same_60 (by decide) ?_
      refine lv_isub hx hb dX11_same_61 ?_
      refine lv_iload hx hb dX11_same_62 (lv_at hl 1 rfl) ?_
      refine lv_isub hx hb dX11_same_64 ?_
      obtain ⟨r_9, hr_9, hg⟩ := g_bd hg
      refine cc_i (va_runS (As := [.int p1, .int (-x8_6), .int (((pX10_w v4) - 1) - x8_6)]) (rest := []) ⟨hx, hb, hml, hown, htb⟩ (k_X11_isWithin p1 (-x8_6) (((pX10_w v4) - 1) - x8_6) r_9 hr_9) (cw_S 3 htb tg_450 tg_1 tg_451 tg_449 rfl rfl (by decide +kernel) ⟨Nat.le_of_ble_eq_true rfl, Nat.le_of_ble_eq_true rfl⟩) ⟨PC.blind, PC.pre hK hT hP hD hS hA [] rfl (by decide)⟩ rfl rfl hl.1 rfl (lv_room (Nat.le_of_ble_eq_true rfl)) dX11_same_65 ⟨Nat.le_of_ble_eq_true rfl, Nat.le_of_ble_eq_true rfl⟩) hP hD hS hA [] [0, 1, 2, 3, 4, 5, 6, 7, 8, 9, 10, 11, 12, 13, 14, 15, 16, 17, 18, 19, 20] rfl rfl (by decide) (by decide) (fun r9 u9 H locs hw hP hD hS => ?_)
      have hw := hw.symm
      subst hw
      have hP : va_P D vwCl (WS_X11_same cI cJ cZ cY a0 a0_tape a0_firstTakes r0_saved r0_flyer r0_parser a1 a1_codes r1_reads r1_flight a2 a2_view a2_rays a3 a3_lensSide a3_lensWidth a3_pairA a3_pairB a3_pairDelay a4 a4_own a4_bodyX a4_bodyY a4_bodyWayX a4_bodyWayY a4_bodyMark v0 v1 v2 v3 v4) H := hP.sub [0, 1, 2, 3, 4, 5, 6, 7, 8, 9, 10, 11, 12, 13, 14, 15, 16, 17, 18, 19, 20] rfl
      have hD : va_D A (WS_X11_same cI cJ cZ cY a0 a0_tape a0_firstTakes r0_saved r0_flyer r0_parser a1 a1_codes r1_reads r1_flight a2 a2_view a2_rays a3 a3_lensSide a3_lensWidth a3_pairA a3_pairB a3_pairDelay a4 a4_own a4_bodyX a4_bodyY a4_bodyWayX a4_bodyWayY a4_bodyMark v0 v1 v2 v3 v4) := hD.sub [0, 1, 2, 3, 4, 5, 6, 7, 8, 9, 10, 11, 12, 13, 14, 15, 16, 17, 18, 19, 20] (by decide) rfl
      refine lv_if_eq (tgt := 91) hx hb dX11_same_68 (by decide) (fun c_10 => ?_) (fun c_10 => ?_)
      · have hg := g_it hg c_10
        refine lv_iconst (v := (-1)) hx hb dX11_same_91 (by decide) ?_
        have hg := Option.some.inj hg
        rw [hQ]
        exact W.iret (v := (-1)) hx hb hr (fun t ht hW => ⟨⟨(-1), (v0, v2, v4), rfl, ⟨by rw [← hg], by rw [← hg]⟩, by rw [ht]; exact hP, hD⟩, hS.F ht⟩) hS.2.2 dX11_same_92
      · have hg := g_if hg c_10
        refine lv_iload_n hx hb dX11_same_71 rfl (lv_at hl 6 rfl) ?_
        refine lv_iload hx hb dX11_same_72 (lv_at hl 0 rfl) ?_
        refine lv_ineg hx hb dX11_same_74 ?_
        refine lv_aload hx hb dX11_same_75 (lv_at hl 2 rfl) ?_
        refine va_get (ci := 9) (v := .int (pX10_h v4)) (C := RX10) (T := TX10) (N := 9) hx hb htb uX10 hown hK.1 hP 14 rfl rfl 1 (by decide) (htb _ tg_48) (fun _ h9 => h9) rfl dX11_same_77 ?_
        refine lv_iconst (v := 1) hx hb dX11_same_80 (by decide) ?_
        refine lv_isub hx hb dX11_same_81 ?_
        refine lv_iload hx hb dX11_same_82 (lv_at hl 0 rfl) ?_
        refine lv_isub hx hb dX11_same_84 ?_
        obtain ⟨r_11, hr_11, hg⟩ := g_bd hg
        refine cc_i (va_runS (As := [.int p2, .int (-x9_8), .int (((pX10_h v4) - 1) - x9_8)]) (rest := []) ⟨hx, hb, hml, hown, htb⟩ (k_X11_isWithin p2 (-x9_8) (((pX10_h v4) - 1) - x9_8) r_11 hr_11) (cw_S 3 htb tg_450 tg_1 tg_451 tg_449 rfl rfl (by decide +kernel) ⟨Nat.le_of_ble_eq_true rfl, Nat.le_of_ble_eq_true rfl⟩) ⟨PC.blind, PC.pre hK hT hP hD hS hA [] rfl (by decide)⟩ rfl rfl hl.1 rfl (lv_room (Nat.le_of_ble_eq_true rfl)) dX11_same_85 ⟨Nat.le_of_ble_eq_true rfl, Nat.le_of_ble_eq_true rfl⟩) hP hD hS hA [] [0, 1, 2, 3, 4, 5, 6, 7, 8, 9, 10, 11, 12, 13, 14, 15, 16, 17, 18, 19, 20] rfl rfl (by decide) (by decide) (fun r9 u9 H locs hw hP hD hS => ?_)
        have hw := hw.symm
        subst hw
        have hP : va_P D vwCl (WS_X11_same cI cJ cZ cY a0 a0_tape a0_firstTakes r0_saved r0_flyer r0_parser a1 a1_codes r1_reads r1_flight a2 a2_view a2_rays a3 a3_lensSide a3_lensWidth a3_pairA a3_pairB a3_pairDelay a4 a4_own a4_bodyX a4_bodyY a4_bodyWayX a4_bodyWayY a4_bodyMark v0 v1 v2 v3 v4) H := hP.sub [0, 1, 2, 3, 4, 5, 6, 7, 8, 9, 10, 11, 12, 13, 14, 15, 16, 17, 18, 19, 20] rfl
        have hD : va_D A (WS_X11_same cI cJ cZ cY a0 a0_tape a0_firstTakes r0_saved r0_flyer r0_parser a1 a1_codes r1_reads r1_flight a2 a2_view a2_rays a3 a3_lensSide a3_lensWidth a3_pairA a3_pairB a3_pairDelay a4 a4_own a4_bodyX a4_bodyY a4_bodyWayX a4_bodyWayY a4_bodyMark v0 v1 v2 v3 v4) := hD.sub [0, 1, 2, 3, 4, 5, 6, 7, 8, 9, 10, 11, 12, 13, 14, 15, 16, 17, 18, 19, 20] (by decide) rfl
        refine lv_if_ne (tgt := 93) hx hb dX11_same_88 (by decide) (fun c_12 => ?_) (fun c_12 => ?_)
        · have hg := g_if hg c_12
          refine lv_aload_n hx hb dX11_same_93 rfl (lv_at hl 3 rfl) ?_
          refine va_get (ci := 10) (v := .ref a2) (C := RX11) (T := TX11) (N := 9) hx hb htb uX11 hown hK.1 hP 0 rfl rfl 2 (by decide) (htb _ tg_414) (fun _ h9 => h9) rfl dX11_same_94 ?_
          refine lv_iload hx hb dX11_same_97 (lv_at hl 7 rfl) ?_
          refine lv_iload hx hb dX11_same_99 (lv_at hl 8 rfl) ?_
          refine lv_iconst (v := 0) hx hb dX11_same_101 (by decide) ?_
          obtain ⟨r_13, hr_13, hg⟩ := g_bd hg
          refine cc_v (va_runV (C := RX7) (As := [.int p3, .int p4, .int 0]) (rest := []) ⟨hx, hb, hml, hown, htb⟩ (k_X7_look a2 a2_view a2_rays a4 a4_own a4_bodyX a4_bodyY a4_bodyWayX a4_bodyWayY a4_bodyMark v2 v4 p3 p4 0 r_13 hr_13) (cw_V 3 htb tg_503 tg_8 tg_500 tg_501 tg_502 rfl rfl (by decide +kernel) ⟨Nat.le_of_ble_eq_true rfl, Nat.le_of_ble_eq_true rfl⟩) ⟨PC.blind, va_recv hK.1 hP (ci := 6) (q0 := 5) rfl rfl, PC.pre hK hT hP hD hS hA [5, 6, 7, 14, 15, 16, 17, 18, 19, 20] rfl (by decide)⟩ rfl rfl hl.1 rfl (lv_room (Nat.le_of_ble_eq_true rfl)) dX11_same_102 ⟨Nat.le_of_ble_eq_true rfl, Nat.le_of_ble_eq_true rfl⟩) hP hD hS hA [5, 6, 7, 14, 15, 16, 17, 18, 19, 20] [0, 1, 2, 3, 4, 8, 9, 10, 11, 12, 13] rfl rfl (by decide) (by decide) (fun u9 H locs hw hP hD hS => ?_)
          have hw := hw.symm
          subst hw
          have hP : va_P D vwCl (WS_X11_same cI cJ cZ cY a0 a0_tape a0_firstTakes r0_saved r0_flyer r0_parser a1 a1_codes r1_reads r1_flight a2 a2_view a2_rays a3 a3_lensSide a3_lensWidth a3_pairA a3_pairB a3_pairDelay a4 a4_own a4_bodyX a4_bodyY a4_bodyWayX a4_bodyWayY a4_bodyMark v0 v1 r_13 v3 v4) H := hP.sub [0, 1, 2, 3, 4, 11, 12, 13, 5, 6, 7, 8, 9, 10, 14, 15, 16, 17, 18, 19, 20] rfl
          have hD : va_D A (WS_X11_same cI cJ cZ cY a0 a0_tape a0_firstTakes r0_saved r0_flyer r0_parser a1 a1_codes r1_reads r1_flight a2 a2_view a2_rays a3 a3_lensSide a3_lensWidth a3_pairA a3_pairB a3_pairDelay a4 a4_own a4_bodyX a4_bodyY a4_bodyWayX a4_bodyWayY a4_bodyMark v0 v1 r_13 v3 v4) := hD.sub [0, 1, 2, 3, 4, 11, 12, 13, 5, 6, 7, 8, 9, 10, 14, 15, 16, 17, 18, 19, 20] (by decide) rfl
          refine lv_aload_n hx hb dX11_same_105 rfl (lv_at hl 3 rfl) ?_
          refine lv_aload_n hx hb dX11_same_106 rfl (lv_at hl 3 rfl) ?_
          refine va_get (ci := 10) (v := .ref a0_firstTakes) (C := RX11) (T := TX11) (N := 9) hx hb htb uX11 hown hK.1 hP 0 rfl rfl 6 (by decide) (htb _ tg_418) (fun _ h9 => h9) rfl dX11_same_107 ?_
          refine lv_iload hx hb dX11_same_110 (lv_at hl 9 rfl) ?_
          obtain ⟨r_14, hr_14, hg⟩ := g_bd hg
          refine cc_v (va_runV (C := RX11) (As := [.ref a0_firstTakes, .int p5]) (rest := []) ⟨hx, hb, hml, hown, htb⟩ (k_X11_fillTakes a0_firstTakes a0 a0_tape a0_firstTakes r0_saved r0_flyer r0_parser a1 a1_codes r1_reads r1_flight a2 a2_view a2_rays a3 a3_lensSide a3_lensWidth a3_pairA a3_pairB a3_pairDelay a4 a4_own a4_bodyX a4_bodyY a4_bodyWayX a4_bodyWayY a4_bodyMark 16 (pX11_firstTakes v0) v0 v1 r_13 v3 v4 p5 r_14 hr_14) (cw_V 2 htb tg_587 tg_1 tg_584 tg_586 ts_1 rfl rfl (by decide +kernel) ⟨Nat.le_of_ble_eq_true rfl, Nat.le_of_ble_eq_true rfl⟩) ⟨PC.blind, va_recv hK.1 hP (ci := 10) (q0 := 0) rfl rfl, PC.pre hK hT hP hD hS hA [2, 0, 3, 4, 5, 6, 7, 8, 9, 10, 11, 12, 13, 14, 15, 16, 17, 18, 19, 20] rfl (by decide)⟩ rfl rfl hl.1 rfl (lv_room (Nat.le_of_ble_eq_true rfl)) dX11_same_112 ⟨Nat.le_of_ble_eq_true rfl, Nat.le_of_ble_eq_true rfl⟩) hP hD hS hA [2, 0, 3, 4, 5, 6, 7, 8, 9, 10, 11, 12, 13, 14, 15, 16, 17, 18, 19, 20] [1] rfl rfl (by decide) (by decide) (fun u9 H locs hw hP hD hS => ?_)
          have hw := hw.symm
          subst hw
          have hP : va_P D vwCl (WS_X11_same cI cJ cZ cY a0 a0_tape a0_firstTakes r0_saved r0_flyer r0_parser a1 a1_codes r1_reads r1_flight a2 a2_view a2_rays a3 a3_lensSide a3_lensWidth a3_pairA a3_pairB a3_pairDelay a4 a4_own a4_bodyX a4_bodyY a4_bodyWayX a4_bodyWayY a4_bodyMark (sX11_firstTakes v0 r_14.1) v1 r_14.2 v3 v4) H := hP.sub [2, 0, 1, 3, 4, 5, 6, 7, 8, 9, 10, 11, 12, 13, 14, 15, 16, 17, 18, 19, 20] rfl
          have hD : va_D A (WS_X11_same cI cJ cZ cY a0 a0_tape a0_firstTakes r0_saved r0_flyer r0_parser a1 a1_codes r1_reads r1_flight a2 a2_view a2_rays a3 a3_lensSide a3_lensWidth a3_pairA a3_pairB a3_pairDelay a4 a4_own a4_bodyX a4_bodyY a4_bodyWayX a4_bodyWayY a4_bodyMark (sX11_firstTakes v0 r_14.1) v1 r_14.2 v3 v4) := hD.sub [2, 0, 1, 3, 4, 5, 6, 7, 8, 9, 10, 11, 12, 13, 14, 15, 16, 17, 18, 19, 20] (by decide) rfl
          refine lv_aload hx hb dX11_same_115 (lv_at hl 2 rfl) ?_
          refine va_get (ci := 9) (v := .ref a4_bodyX) (C := RX10) (T := TX10) (N := 9) hx hb htb uX10 hown hK.1 hP 14 rfl rfl 3 (by decide) (htb _ tg_53) (fun _ h9 => h9) rfl dX11_same_117 ?_
          refine lv_iload_n hx hb dX11_same_120 rfl (lv_at hl 4 rfl) ?_
          refine lv_iload hx hb dX11_same_121 (lv_at hl 1 rfl) ?_
          refine lv_iload_n hx hb dX11_same_123 rfl (lv_at hl 5 rfl) ?_
          refine lv_iadd hx hb dX11_same_124 ?_
          refine lv_topi (fun x_15 ex_15 => ?_)
          have hg := g_lte hg x_15 ex_15
          obtain ⟨h_16, hg⟩ := g_gde hg
          refine va_iast hx hb hK.1 hP hD hS 16 0 rfl rfl (inB_vp h_16) dX11_same_125 (fun H locs hP hD hS => ?_)
          obtain ⟨v4_17, ev4_17⟩ : ∃ z, z = sX10_bodyX v4 (upd (pX10_bodyX v4) (p0 : Int32).toNatClampNeg x_15) := ⟨_, rfl⟩
          have hP : va_P D vwCl (WS_X11_same cI cJ cZ cY a0 a0_tape a0_firstTakes r0_saved r0_flyer r0_parser a1 a1_codes r1_reads r1_flight a2 a2_view a2_rays a3 a3_lensSide a3_lensWidth a3_pairA a3_pairB a3_pairDelay a4 a4_own a4_bodyX a4_bodyY a4_bodyWayX a4_bodyWayY a4_bodyMark (sX11_firstTakes v0 r_14.1) v1 r_14.2 v3 v4_17) H := by rw [ev4_17]; exact hP
          have hD : va_D A (WS_X11_same cI cJ cZ cY a0 a0_tape a0_firstTakes r0_saved r0_flyer r0_parser a1 a1_codes r1_reads r1_flight a2 a2_view a2_rays a3 a3_lensSide a3_lensWidth a3_pairA a3_pairB a3_pairDelay a4 a4_own a4_bodyX a4_bodyY a4_bodyWayX a4_bodyWayY a4_bodyMark (sX11_firstTakes v0 r_14.1) v1 r_14.2 v3 v4_17) := by rw [ev4_17]; exact hD
          have hg := g_lte hg v4_17 ev4_17
          refine lv_aload hx hb dX11_same_126 (lv_at hl 2 rfl) ?_
          refine va_get (ci := 9) (v := .ref a4_bodyY) (C := RX10) (T := TX10) (N := 9) hx hb htb uX10 hown hK.1 hP 14 rfl rfl 4 (by decide) (htb _ tg_55) (fun _ h9 => h9) rfl dX11_same_128 ?_
          refine lv_iload_n hx hb dX11_same_131 rfl (lv_at hl 4 rfl) ?_
          refine lv_iload hx hb dX11_same_132 (lv_at hl 0 rfl) ?_
          refine lv_iload_n hx hb dX11_same_134 rfl (lv_at hl 6 rfl) ?_
          refine lv_iadd hx hb dX11_same_135 ?_
          refine lv_topi (fun x_18 ex_18 => ?_)
          have hg := g_lte hg x_18 ex_18
          obtain ⟨h_19, hg⟩ := g_gde hg
          refine va_iast hx hb hK.1 hP hD hS 17 0 rfl rfl (inB_vp h_19) dX11_same_136 (fun H locs hP hD hS => ?_)
          obtain ⟨v4_20, ev4_20⟩ : ∃ z, z = sX10_bodyY v4_17 (upd (pX10_bodyY v4_17) (p0 : Int32).toNatClampNeg x_18) := ⟨_, rfl⟩
          have hP : va_P D vwCl (WS_X11_same cI cJ cZ cY a0 a0_tape a0_firstTakes r0_saved r0_flyer r0_parser a1 a1_codes r1_reads r1_flight a2 a2_view a2_rays a3 a3_lensSide a3_lensWidth a3_pairA a3_pairB a3_pairDelay a4 a4_own a4_bodyX a4_bodyY a4_bodyWayX a4_bodyWayY a4_bodyMark (sX11_firstTakes v0 r_14.1) v1 r_14.2 v3 v4_20) H := by rw [ev4_20]; exact hP
          have hD : va_D A (WS_X11_same cI cJ cZ cY a0 a0_tape a0_firstTakes r0_saved r0_flyer r0_parser a1 a1_codes r1_reads r1_flight a2 a2_view a2_rays a3 a3_lensSide a3_lensWidth a3_pairA a3_pairB a3_pairDelay a4 a4_own a4_bodyX a4_bodyY a4_bodyWayX a4_bodyWayY a4_bodyMark (sX11_firstTakes v0 r_14.1) v1 r_14.2 v3 v4_20) := by rw [ev4_20]; exact hD
          have hg := g_lte hg v4_20 ev4_20
          refine lv_aload_n hx hb dX11_same_137 rfl (lv_at hl 3 rfl) ?_
          refine va_get (ci := 10) (v := .ref a2) (C := RX11) (T := TX11) (N := 9) hx hb htb uX11 hown hK.1 hP 0 rfl rfl 2 (by decide) (htb _ tg_414) (fun _ h9 => h9) rfl dX11_same_138 ?_
          refine lv_iload hx hb dX11_same_141 (lv_at hl 7 rfl) ?_
          refine lv_iload hx hb dX11_same_143 (lv_at hl 8 rfl) ?_
          refine lv_iconst (v := 0) hx hb dX11_same_145 (by decide) ?_
          obtain ⟨r_21, hr_21, hg⟩ := g_bd hg
          refine cc_v (va_runV (C := RX7) (As := [.int p3, .int p4, .int 0]) (rest := []) ⟨hx, hb, hml, hown, htb⟩ (k_X7_look a2 a2_view a2_rays a4 a4_own a4_bodyX a4_bodyY a4_bodyWayX a4_bodyWayY a4_bodyMark r_14.2 v4_20 p3 p4 0 r_21 hr_21) (cw_V 3 htb tg_503 tg_8 tg_500 tg_501 tg_502 rfl rfl (by decide +kernel) ⟨Nat.le_of_ble_eq_true rfl, Nat.le_of_ble_eq_true rfl⟩) ⟨PC.blind, va_recv hK.1 hP (ci := 6) (q0 := 5) rfl rfl, PC.pre hK hT hP hD hS hA [5, 6, 7, 14, 15, 16, 17, 18, 19, 20] rfl (by decide)⟩ rfl rfl hl.1 rfl (lv_room (Nat.le_of_ble_eq_true rfl)) dX11_same_146 ⟨Nat.le_of_ble_eq_true rfl, Nat.le_of_ble_eq_true rfl⟩) hP hD hS hA [5, 6, 7, 14, 15, 16, 17, 18, 19, 20] [0, 1, 2, 3, 4, 8, 9, 10, 11, 12, 13] rfl rfl (by decide) (by decide) (fun u9 H locs hw hP hD hS => ?_)
          have hw := hw.symm
          subst hw
          have hP : va_P D vwCl (WS_X11_same cI cJ cZ cY a0 a0_tape a0_firstTakes r0_saved r0_flyer r0_parser a1 a1_codes r1_reads r1_flight a2 a2_view a2_rays a3 a3_lensSide a3_lensWidth a3_pairA a3_pairB a3_pairDelay a4 a4_own a4_bodyX a4_bodyY a4_bodyWayX a4_bodyWayY a4_bodyMark (sX11_firstTakes v0 r_14.1) v1 r_21 v3 v4_20) H := hP.sub [0, 1, 2, 3, 4, 11, 12, 13, 5, 6, 7, 8, 9, 10, 14, 15, 16, 17, 18, 19, 20] rfl
          have hD : va_D A (WS_X11_same cI cJ cZ cY a0 a0_tape a0_firstTakes r0_saved r0_flyer r0_parser a1 a1_codes r1_reads r1_flight a2 a2_view a2_rays a3 a3_lensSide a3_lensWidth a3_pairA a3_pairB a3_pairDelay a4 a4_own a4_bodyX a4_bodyY a4_bodyWayX a4_bodyWayY a4_bodyMark (sX11_firstTakes v0 r_14.1) v1 r_21 v3 v4_20) := hD.sub [0, 1, 2, 3, 4, 11, 12, 13, 5, 6, 7, 8, 9, 10, 14, 15, 16, 17, 18, 19, 20] (by decide) rfl
          refine lv_aload_n hx hb dX11_same_149 rfl (lv_at hl 3 rfl) ?_
          refine lv_aload_n hx hb dX11_same_150 rfl (lv_at hl 3 rfl) ?_
          refine va_get (ci := 10) (v := .ref a0_firstTakes) (C := RX11) (T := TX11) (N := 9) hx hb htb uX11 hown hK.1 hP 0 rfl rfl 6 (by decide) (htb _ tg_418) (fun _ h9 => h9) rfl dX11_same_151 ?_
          refine lv_iload hx hb dX11_same_154 (lv_at hl 9 rfl) ?_
          obtain ⟨r_22, hr_22, hg⟩ := g_bd hg
          refine cc_i (va_runV (C := RX11) (As := [.ref a0_firstTakes, .int p5]) (rest := []) ⟨hx, hb, hml, hown, htb⟩ (k_X11_hasTakes a0_firstTakes a0 a0_tape a0_firstTakes r0_saved r0_flyer r0_parser a1 a1_codes r1_reads r1_flight a2 a2_view a2_rays a3 a3_lensSide a3_lensWidth a3_pairA a3_pairB a3_pairDelay a4 a4_own a4_bodyX a4_bodyY a4_bodyWayX a4_bodyWayY a4_bodyMark 16 (pX11_firstTakes (sX11_firstTakes v0 r_14.1)) (sX11_firstTakes v0 r_14.1) v1 r_21 v3 v4_20 p5 r_22 hr_22) (cw_V 2 htb tg_591 tg_1 tg_588 tg_590 ts_2 rfl rfl (by decide +kernel) ⟨Nat.le_of_ble_eq_true rfl, Nat.le_of_ble_eq_true rfl⟩) ⟨PC.blind, va_recv hK.1 hP (ci := 10) (q0 := 0) rfl rfl, PC.pre hK hT hP hD hS hA [2, 0, 3, 4, 5, 6, 7, 8, 9, 10, 11, 12, 13, 14, 15, 16, 17, 18, 19, 20] rfl (by decide)⟩ rfl rfl hl.1 rfl (lv_room (Nat.le_of_ble_eq_true rfl)) dX11_same_156 ⟨Nat.le_of_ble_eq_true rfl, Nat.le_of_ble_eq_true rfl⟩) hP hD hS hA [2, 0, 3, 4, 5, 6, 7, 8, 9, 10, 11, 12, 13, 14, 15, 16, 17, 18, 19, 20] [1] rfl rfl (by decide) (by decide) (fun r9 u9 H locs hw hP hD hS => ?_)
          obtain ⟨rfl, rfl⟩ := hw
          have hP : va_P D vwCl (WS_X11_same cI cJ cZ cY a0 a0_tape a0_firstTakes r0_saved r0_flyer r0_parser a1 a1_codes r1_reads r1_flight a2 a2_view a2_rays a3 a3_lensSide a3_lensWidth a3_pairA a3_pairB a3_pairDelay a4 a4_own a4_bodyX a4_bodyY a4_bodyWayX a4_bodyWayY a4_bodyMark (sX11_firstTakes v0 r_14.1) v1 r_22.2 v3 v4_20) H := hP.sub [2, 0, 1, 3, 4, 5, 6, 7, 8, 9, 10, 11, 12, 13, 14, 15, 16, 17, 18, 19, 20] rfl
          have hD : va_D A (WS_X11_same cI cJ cZ cY a0 a0_tape a0_firstTakes r0_saved r0_flyer r0_parser a1 a1_codes r1_reads r1_flight a2 a2_view a2_rays a3 a3_lensSide a3_lensWidth a3_pairA a3_pairB a3_pairDelay a4 a4_own a4_bodyX a4_bodyY a4_bodyWayX a4_bodyWayY a4_bodyMark (sX11_firstTakes v0 r_14.1) v1 r_22.2 v3 v4_20) := hD.sub [2, 0, 1, 3, 4, 5, 6, 7, 8, 9, 10, 11, 12, 13, 14, 15, 16, 17, 18, 19, 20] (by decide) rfl
          refine lv_istore (lv' := [(10, .int r_22.1), (9, .int x9_8), (8, .int x8_6), (7, .ref a4), (0, .ref a0), (1, .int p0), (2, .int p1), (3, .int p2), (4, .int p3), (5, .int p4), (6, .int p5)]) hx hb dX11_same_159 hl (by decide) rfl (fun ls hl => ?_)
          refine lv_aload hx hb dX11_same_161 (lv_at hl 3 rfl) ?_
          refine va_get (ci := 9) (v := .ref a4_bodyX) (C := RX10) (T := TX10) (N := 9) hx hb htb uX10 hown hK.1 hP 14 rfl rfl 3 (by decide) (htb _ tg_53) (fun _ h9 => h9) rfl dX11_same_163 ?_
          refine lv_iload_n hx hb dX11_same_166 rfl (lv_at hl 5 rfl) ?_
          refine lv_iload hx hb dX11_same_167 (lv_at hl 2 rfl) ?_
          obtain ⟨h_23, hg⟩ := g_gde hg
          refine va_iast hx hb hK.1 hP hD hS 16 0 rfl rfl (inB_vp h_23) dX11_same_169 (fun H locs hP hD hS => ?_)
          obtain ⟨v4_24, ev4_24⟩ : ∃ z, z = sX10_bodyX v4_20 (upd (pX10_bodyX v4_20) (p0 : Int32).toNatClampNeg x8_6) := ⟨_, rfl⟩
          have hP : va_P D vwCl (WS_X11_same cI cJ cZ cY a0 a0_tape a0_firstTakes r0_saved r0_flyer r0_parser a1 a1_codes r1_reads r1_flight a2 a2_view a2_rays a3 a3_lensSide a3_lensWidth a3_pairA a3_pairB a3_pairDelay a4 a4_own a4_bodyX a4_bodyY a4_bodyWayX a4_bodyWayY a4_bodyMark (sX11_firstTakes v0 r_14.1) v1 r_22.2 v3 v4_24) H := by rw [ev4_24]; exact hP
          have hD : va_D A (WS_X11_same cI cJ cZ cY a0 a0_tape a0_firstTakes r0_saved r0_flyer r0_parser a1 a1_codes r1_reads r1_flight a2 a2_view a2_rays a3 a3_lensSide a3_lensWidth a3_pairA a3_pairB a3_pairDelay a4 a4_own a4_bodyX a4_bodyY a4_bodyWayX a4_bodyWayY a4_bodyMark (sX11_firstTakes v0 r_14.1) v1 r_22.2 v3 v4_24) := by rw [ev4_24]; exact hD
          have hg := g_lte hg v4_24 ev4_24
          refine lv_aload hx hb dX11_same_170 (lv_at hl 3 rfl) ?_
          refine va_get (ci := 9) (v := .ref a4_bodyY) (C := RX10) (T := TX10) (N := 9) hx hb htb uX10 hown hK.1 hP 14 rfl rfl 4 (by decide) (htb _ tg_55) (fun _ h9 => h9) rfl dX11_same_172 ?_
          refine lv_iload_n hx hb dX11_same_175 rfl (lv_at hl 5 rfl) ?_
          refine lv_iload hx hb dX11_same_176 (lv_at hl 1 rfl) ?_
          obtain ⟨h_25, hg⟩ := g_gde hg
          refine va_iast hx hb hK.1 hP hD hS 17 0 rfl rfl (inB_vp h_25) dX11_same_178 (fun H locs hP hD hS => ?_)
          obtain ⟨v4_26, ev4_26⟩ : ∃ z, z = sX10_bodyY v4_24 (upd (pX10_bodyY v4_24) (p0 : Int32).toNatClampNeg x9_8) := ⟨_, rfl⟩
          have hP : va_P D vwCl (WS_X11_same cI cJ cZ cY a0 a0_tape a0_firstTakes r0_saved r0_flyer r0_parser a1 a1_codes r1_reads r1_flight a2 a2_view a2_rays a3 a3_lensSide a3_lensWidth a3_pairA a3_pairB a3_pairDelay a4 a4_own a4_bodyX a4_bodyY a4_bodyWayX a4_bodyWayY a4_bodyMark (sX11_firstTakes v0 r_14.1) v1 r_22.2 v3 v4_26) H := by rw [ev4_26]; exact hP
          have hD : va_D A (WS_X11_same cI cJ cZ cY a0 a0_tape a0_firstTakes r0_saved r0_flyer r0_parser a1 a1_codes r1_reads r1_flight a2 a2_view a2_rays a3 a3_lensSide a3_lensWidth a3_pairA a3_pairB a3_pairDelay a4 a4_own a4_bodyX a4_bodyY a4_bodyWayX a4_bodyWayY a4_bodyMark (sX11_firstTakes v0 r_14.1) v1 r_22.2 v3 v4_26) := by rw [ev4_26]; exact hD
          have hg := g_lte hg v4_26 ev4_26
          refine lv_iload hx hb dX11_same_179 (lv_at hl 0 rfl) ?_
          refine lv_if_eq (tgt := 188) hx hb dX11_same_181 (by decide) (fun c_27 => ?_) (fun c_27 => ?_)
          · have hg := g_it hg c_27
            refine lv_iconst (v := 0) hx hb dX11_same_188 (by decide) ?_
            have hg := Option.some.inj hg
            rw [hQ]
            exact W.iret (v := 0) hx hb hr (fun t ht hW => ⟨⟨0, (sX11_firstTakes v0 r_14.1, r_22.2, v4_26), rfl, ⟨by rw [← hg], by rw [← hg]⟩, by rw [ht]; exact hP, hD⟩, hS.F ht⟩) hS.2.2 dX11_same_189
          · have hg := g_if hg c_27
            refine lv_iconst (v := 1) hx hb dX11_same_184 (by decide) ?_
            refine lv_goto (tgt := 189) hx hb dX11_same_185 (by decide) ?_
            have hg := Option.some.inj hg
            rw [hQ]
            exact W.iret (v := 1) hx hb hr (fun t ht hW => ⟨⟨1, (sX11_firstTakes v0 r_14.1, r_22.2, v4_26), rfl, ⟨by rw [← hg], by rw [← hg]⟩, by rw [ht]; exact hP, hD⟩, hS.F ht⟩) hS.2.2 dX11_same_189
        · have hg := g_it hg c_12
          refine lv_iconst (v := (-1)) hx hb dX11_same_91 (by decide) ?_
          have hg := Option.some.inj hg
          rw [hQ]
          exact W.iret (v := (-1)) hx hb hr (fun t ht hW => ⟨⟨(-1), (v0, v2, v4), rfl, ⟨by rw [← hg], by rw [← hg]⟩, by rw [ht]; exact hP, hD⟩, hS.F ht⟩) hS.2.2 dX11_same_92
    · have hg := g_it hg c_4
      refine lv_iconst (v := (-1)) hx hb dX11_same_31 (by decide) ?_
      have hg := Option.some.inj hg
      rw [hQ]
      exact W.iret (v := (-1)) hx hb hr (fun t ht hW => ⟨⟨(-1), (v0, v2, v4), rfl, ⟨by rw [← hg], by rw [← hg]⟩, by rw [ht]; exact hP, hD⟩, hS.F ht⟩) hS.2.2 dX11_same_32

/-! ManyEyes.read(III)I -/
def WS_X11_read (cI cJ cZ cY : ClassId) (a0 a0_tape a0_firstTakes r0_saved r0_sight r0_flyer r0_parser a1 a1_codes r1_eye r1_flight a2 a2_x a2_y a2_head a2_size a2_turns a3 a3_own a3_bodyX a3_bodyY a3_bodyWayX a3_bodyWayY a3_bodyMark : Nat) (v0 : BX11) (v1 : BX8) (v2 : BX5) (v3 : BX10) : va_W := (GX11o cI cJ cZ cY a0 a0_tape a0_firstTakes a1 r0_saved r0_sight r0_flyer r0_parser v0) ++ ((GX8 cI cJ cZ cY a1 a1_codes a3 r1_eye a2 r1_flight v1) ++ ((GX5 cI cJ cZ cY a2 a2_x a2_y a2_head a2_size a2_turns v2) ++ ((GX10 cI cJ cZ cY a3 a3_own a3_bodyX a3_bodyY a3_bodyWayX a3_bodyWayY a3_bodyMark v3))))
def f_X11_read (v0 : BX11) (v1 : BX8) (v2 : BX5) (v3 : BX10) (p0 : Int32) (p1 : Int32) (p2 : Int32) : Option (Int32 × BX5) := (f_X11_isStanding v0 v1 v3 p0 p1 p2).bind (fun r_1 => if (r_1 : Int32) = 0 then (some ((-1), v2)) else (if ((pX5_count v2) : Int32) < 6 then (g_lt ((pX5_count v2) : Int32) (fun x5_4 => g_gd (inB x5_4 6) (g_lt (sX5_x v2 (upd (pX5_x v2) (x5_4 : Int32).toNatClampNeg p0)) (fun v2_6 => g_gd (inB x5_4 6) (g_lt (sX5_y v2_6 (upd (pX5_y v2_6) (x5_4 : Int32).toNatClampNeg p1)) (fun v2_8 => g_gd (inB x5_4 6) (g_lt (sX5_head v2_8 (upd (pX5_head v2_8) (x5_4 : Int32).toNatClampNeg p2)) (fun v2_10 => g_gd (inB x5_4 6) (g_lt (sX5_size v2_10 (upd (pX5_size v2_10) (x5_4 : Int32).toNatClampNeg 0)) (fun v2_12 => g_lt ((x5_4 + 1) : Int32) (fun x_13 => g_lt (sX5_count v2_12 x_13) (fun v2_14 => some (x5_4, v2_14))))))))))))) else (some ((-1), v2))))
abbrev rm_X11_read : Room := { frames := 3, cells := 0, slots := 0, locals := 67 }
set_option maxHeartbeats 4000000 in
set_option maxRecDepth 100000 in
theorem k_X11_read {l : Launch} {D : va_G} {cI cJ cZ cY : ClassId} {tX tY : Nat} {sz : Nat} (a0 a0_tape a0_firstTakes r0_saved r0_sight r0_flyer r0_parser a1 a1_codes r1_eye r1_flight a2 a2_x a2_y a2_head a2_size a2_turns a3 a3_own a3_bodyX a3_bodyY a3_bodyWayX a3_bodyWayY a3_bodyMark : Nat) (v0 : BX11) (v1 : BX8) (v2 : BX5) (v3 : BX10) (p0 : Int32) (p1 : Int32) (p2 : Int32) (res : Int32 × BX5) (hg : f_X11_read v0 v1 v2 v3 p0 p1 p2 = some res) : Met l yX11_read (Cond.code yX11_read cX11_read 6 (some .int) :: TB) rm_X11_read (PC D cI cJ cZ cY tX tY [.ref a0, .int p0, .int p1, .int p2] (WS_X11_read cI cJ cZ cY a0 a0_tape a0_firstTakes r0_saved r0_sight r0_flyer r0_parser a1 a1_codes r1_eye r1_flight a2 a2_x a2_y a2_head a2_size a2_turns a3 a3_own a3_bodyX a3_bodyY a3_bodyWayX a3_bodyWayY a3_bodyMark v0 v1 v2 v3) sz) (va_Qi (fun (r : Int32) (u : BX5) => r = res.1 ∧ u = res.2) (BC D (fun u : BX5 => WS_X11_read cI cJ cZ cY a0 a0_tape a0_firstTakes r0_saved r0_sight r0_flyer r0_parser a1 a1_codes r1_eye r1_flight a2 a2_x a2_y a2_head a2_size a2_turns a3 a3_own a3_bodyX a3_bodyY a3_bodyWayX a3_bodyWayY a3_bodyMark v0 v1 u v3) (va_A (WS_X11_read cI cJ cZ cY a0 a0_tape a0_firstTakes r0_saved r0_sight r0_flyer r0_parser a1 a1_codes r1_eye r1_flight a2 a2_x a2_y a2_head a2_size a2_turns a3 a3_own a3_bodyX a3_bodyY a3_bodyWayX a3_bodyWayY a3_bodyMark v0 v1 v2 v3) sz)) (va_A (WS_X11_read cI cJ cZ cY a0 a0_tape a0_firstTakes r0_saved r0_sight r0_flyer r0_parser a1 a1_codes r1_eye r1_flight a2 a2_x a2_y a2_head a2_size a2_turns a3 a3_own a3_bodyX a3_bodyY a3_bodyWayX a3_bodyWayY a3_bodyMark v0 v1 v2 v3) sz)) 0 0 (va_A (WS_X11_read cI cJ cZ cY a0 a0_tape a0_firstTakes r0_saved r0_sight r0_flyer r0_parser a1 a1_codes r1_eye r1_flight a2 a2_x a2_y a2_head a2_size a2_turns a3 a3_own a3_bodyX a3_bodyY a3_bodyWayX a3_bodyWayY a3_bodyMark v0 v1 v2 v3) sz) := by
  refine Met.ofW (cc := cX11_read) (maxL := 6) (ret := (some .int)) (by decide) rfl ?_
  intro p e s m args below meth c s₁ B hml hv
  obtain ⟨hargs, hsz, hP, hK, hD0, hT⟩ := hv
  have hx := B.exec
  have hb := B.bytes
  have hr := B.returns
  have htb : ∀ w ∈ TB, w.before args s = true := fun w h => atoms_spec (ws := Cond.code yX11_read cX11_read 6 (some .int) :: TB) B.pre w (List.mem_cons_of_mem _ h)
  have hown : s.vm.findClass "ManyEyes" = some m.cls := findClass_of_methodNamed B.named
  have hlocks := B.notSynchronized
  subst hsz
  have hD := hD0.self (sz := s.heap.size)
  generalize hAe : va_A (WS_X11_read cI cJ cZ cY a0 a0_tape a0_firstTakes r0_saved r0_sight r0_flyer r0_parser a1 a1_codes r1_eye r1_flight a2 a2_x a2_y a2_head a2_size a2_turns a3 a3_own a3_bodyX a3_bodyY a3_bodyWayX a3_bodyWayY a3_bodyMark v0 v1 v2 v3) s.heap.size = A at hD hT ⊢
  have hA : ∀ q : Nat, s.heap.size ≤ q → A q := fun q h => by rw [← hAe]; exact Or.inr h
  have hS : va_S A s.heap s.heap [] := va_S.rf
  have hl := lv_entry ([.ref a0, .int p0, .int p1, .int p2]) (n := 6) (Nat.le_of_ble_eq_true rfl)
  have he : entryFrame m args 6 = F0 m 0 (lg_sl ([.ref a0, .int p0, .int p1, .int p2]) ++ List.replicate (6 - (lg_sl ([.ref a0, .int p0, .int p1, .int p2])).length) Slot.unset).toArray [] := by rw [hargs, lg_entry_eq]
  rw [he]
  generalize (lg_sl ([.ref a0, .int p0, .int p1, .int p2]) ++ List.replicate (6 - (lg_sl ([.ref a0, .int p0, .int p1, .int p2])).length) Slot.unset).toArray = ls at hl ⊢
  have hl : lv_has ls 6 [(0, .ref a0), (1, .int p0), (2, .int p1), (3, .int p2)] := hl
  show W p l e rm_X11_read s m args below meth c s.heap [] 0 0 _ _
  refine W.genQ (fun Q hQ => ?_)
  generalize hHe : s.heap = H at hP ⊢
  have hS : va_S A s.heap H [] := by rw [← hHe]; exact va_S.rf
  generalize ([] : List Loc) = locs at hS ⊢
  unfold f_X11_read at hg
  refine lv_aload_n hx hb dX11_read_0 rfl (lv_at hl 0 rfl) ?_
  refine va_get (ci := 10) (v := .ref a1) (C := RX11) (T := TX11) (N := 9) hx hb htb uX11 hown hK.1 hP 0 rfl rfl 0 (by decide) (htb _ tg_412) (fun _ h9 => h9) rfl dX11_read_1 ?_
  refine va_get (ci := 7) (v := .ref a2) (C := RX8) (T := TX8) (N := 6) hx hb htb uX8 hown hK.1 hP 1 rfl rfl 2 (by decide) (htb _ tg_240) (fun _ h9 => h9) rfl dX11_read_4 ?_
  refine lv_astore (lv' := [(4, .ref a2), (0, .ref a0), (1, .int p0), (2, .int p1), (3, .int p2)]) hx hb dX11_read_7 hl (by decide) rfl (fun ls hl => ?_)
  refine lv_aload_n hx hb dX11_read_9 rfl (lv_at hl 1 rfl) ?_
  refine lv_iload_n hx hb dX11_read_10 rfl (lv_at hl 2 rfl) ?_
  refine lv_iload_n hx hb dX11_read_11 rfl (lv_at hl 3 rfl) ?_
  refine lv_iload_n hx hb dX11_read_12 rfl (lv_at hl 4 rfl) ?_
  obtain ⟨r_1, hr_1, hg⟩ := g_bd hg
  refine cc_i (va_runV (C := RX11) (As := [.int p0, .int p1, .int p2]) (rest := []) ⟨hx, hb, hml, hown, htb⟩ (k_X11_isStanding a0 a0_tape a0_firstTakes r0_saved r0_sight r0_flyer r0_parser a1 a1_codes r1_eye a2 r1_flight a3 a3_own a3_bodyX a3_bodyY a3_bodyWayX a3_bodyWayY a3_bodyMark v0 v1 v3 p0 p1 p2 r_1 hr_1) (cw_V 3 htb tg_526 tg_1 tg_523 tg_525 ts_0 rfl rfl (by decide +kernel) ⟨Nat.le_of_ble_eq_true rfl, Nat.le_of_ble_eq_true rfl⟩) ⟨PC.blind, va_recv hK.1 hP (ci := 10) (q0 := 0) rfl rfl, PC.pre hK hT hP hD hS hA [0, 1, 2, 9, 10, 11, 12, 13, 14, 15] rfl (by decide)⟩ rfl rfl hl.1 rfl (lv_room (Nat.le_of_ble_eq_true rfl)) dX11_read_13 ⟨Nat.le_of_ble_eq_true rfl, Nat.le_of_ble_eq_true rfl⟩) hP hD hS hA [0, 1, 2, 9, 10, 11, 12, 13, 14, 15] [3, 4, 5, 6, 7, 8] rfl rfl (by decide) (by decide) (fun r9 u9 H locs hw hP hD hS => ?_)
  have hw := hw.symm
  subst hw
  have hP : va_P D vwCl (WS_X11_read cI cJ cZ cY a0 a0_tape a0_firstTakes r0_saved r0_sight r0_flyer r0_parser a1 a1_codes r1_eye r1_flight a2 a2_x a2_y a2_head a2_size a2_turns a3 a3_own a3_bodyX a3_bodyY a3_bodyWayX a3_bodyWayY a3_bodyMark v0 v1 v2 v3) H := hP.sub [6, 7, 8, 0, 1, 2, 3, 4, 5, 9, 10, 11, 12, 13, 14, 15] rfl
  have hD : va_D A (WS_X11_read cI cJ cZ cY a0 a0_tape a0_firstTakes r0_saved r0_sight r0_flyer r0_parser a1 a1_codes r1_eye r1_flight a2 a2_x a2_y a2_head a2_size a2_turns a3 a3_own a3_bodyX a3_bodyY a3_bodyWayX a3_bodyWayY a3_bodyMark v0 v1 v2 v3) := hD.sub [6, 7, 8, 0, 1, 2, 3, 4, 5, 9, 10, 11, 12, 13, 14, 15] (by decide) rfl
  refine lv_if_eq (tgt := 29) hx hb dX11_read_16 (by decide) (fun c_2 => ?_) (fun c_2 => ?_)
  · have hg := g_it hg c_2
    refine lv_iconst (v := (-1)) hx hb dX11_read_29 (by decide) ?_
    have hg := Option.some.inj hg
    rw [hQ]
    exact W.iret (v := (-1)) hx hb hr (fun t ht hW => ⟨⟨(-1), (v2), rfl, ⟨by rw [← hg], by rw [← hg]⟩, by rw [ht]; exact hP, hD⟩, hS.F ht⟩) hS.2.2 dX11_read_30
  · have hg := g_if hg c_2
    refine lv_aload hx hb dX11_read_19 (lv_at hl 0 rfl) ?_
    refine va_get (ci := 4) (v := .int (pX5_count v2)) (C := RX5) (T := TX5) (N := 6) hx hb htb uX5 hown hK.1 hP 3 rfl rfl 5 (by decide) (htb _ tg_151) (fun _ h9 => h9) rfl dX11_read_21 ?_
    refine lv_bipush (v := 6) hx hb dX11_read_24 (by decide) ?_
    refine lv_icmp_lt (tgt := 31) hx hb dX11_read_26 (by decide) (fun c_3 => ?_) (fun c_3 => ?_)
    · have hg := g_it hg c_3
      refine lv_aload hx hb dX11_read_31 (lv_at hl 0 rfl) ?_
      refine va_get (ci := 4) (v := .int (pX5_count v2)) (C := RX5) (T := TX5) (N := 6) hx hb htb uX5 hown hK.1 hP 3 rfl rfl 5 (by decide) (htb _ tg_151) (fun _ h9 => h9) rfl dX11_read_33 ?_
      refine lv_topi (fun x5_4 ex5_4 => ?_)
      have hg := g_lte hg x5_4 ex5_4
      refine lv_istore (lv' := [(5, .int x5_4), (4, .ref a2), (0, .ref a0), (1, .int p0), (2, .int p1), (3, .int p2)]) hx hb dX11_read_36 hl (by decide) rfl (fun ls hl => ?_)
      refine lv_aload hx hb dX11_read_38 (lv_at hl 1 rfl) ?_
      refine va_get (ci := 4) (v := .ref a2_x) (C := RX5) (T := TX5) (N := 6) hx hb htb uX5 hown hK.1 hP 3 rfl rfl 0 (by decide) (htb _ tg_136) (fun _ h9 => h9) rfl dX11_read_40 ?_
      refine lv_iload hx hb dX11_read_43 (lv_at hl 0 rfl) ?_
      refine lv_iload_n hx hb dX11_read_45 rfl (lv_at hl 3 rfl) ?_
      obtain ⟨h_5, hg⟩ := g_gde hg
      refine va_iast hx hb hK.1 hP hD hS 4 0 rfl rfl (inB_vp h_5) dX11_read_46 (fun H locs hP hD hS => ?_)
      obtain ⟨v2_6, ev2_6⟩ : ∃ z, z = sX5_x v2 (upd (pX5_x v2) (x5_4 : Int32).toNatClampNeg p0) := ⟨_, rfl⟩
      have hP : va_P D vwCl (WS_X11_read cI cJ cZ cY a0 a0_tape a0_firstTakes r0_saved r0_sight r0_flyer r0_parser a1 a1_codes r1_eye r1_flight a2 a2_x a2_y a2_head a2_size a2_turns a3 a3_own a3_bodyX a3_bodyY a3_bodyWayX a3_bodyWayY a3_bodyMark v0 v1 v2_6 v3) H := by rw [ev2_6]; exact hP
      have hD : va_D A (WS_X11_read cI cJ cZ cY a0 a0_tape a0_firstTakes r0_saved r0_sight r0_flyer r0_parser a1 a1_codes r1_eye r1_flight a2 a2_x a2_y a2_head a2_size a2_turns a3 a3_own a3_bodyX a3_bodyY a3_bodyWayX a3_bodyWayY a3_bodyMark v0 v1 v2_6 v3) := by rw [ev2_6]; exact hD
      have hg := g_lte hg v2_6 ev2_6
      refine lv_aload hx hb dX11_read_47 (lv_at hl 1 rfl) ?_
      refine va_get (ci := 4) (v := .ref a2_y) (C := RX5) (T := TX5) (N := 6) hx hb htb uX5 hown hK.1 hP 3 rfl rfl 1 (by decide) (htb _ tg_139) (fun _ h9 => h9) rfl dX11_read_49 ?_
      refine lv_iload hx hb dX11_read_52 (lv_at hl 0 rfl) ?_
      refine lv_iload_n hx hb dX11_read_54 rfl (lv_at hl 4 rfl) ?_
      obtain ⟨h_7, hg⟩ := g_gde hg
      refine va_iast hx hb hK.1 hP hD hS 5 0 rfl rfl (inB_vp h_7) dX11_read_55 (fun H locs hP hD hS => ?_)
      obtain ⟨v2_8, ev2_8⟩ : ∃ z, z = sX5_y v2_6 (upd (pX5_y v2_6) (x5_4 : Int32).toNatClampNeg p1) := ⟨_, rfl⟩
      have hP : va_P D vwCl (WS_X11_read cI cJ cZ cY a0 a0_tape a0_firstTakes r0_saved r0_sight r0_flyer r0_parser a1 a1_codes r1_eye r1_flight a2 a2_x a2_y a2_head a2_size a2_turns a3 a3_own a3_bodyX a3_bodyY a3_bodyWayX a3_bodyWayY a3_bodyMark v0 v1 v2_8 v3) H := by rw [ev2_8]; exact hP
      have hD : va_D A (WS_X11_read cI cJ cZ cY a0 a0_tape a0_firstTakes r0_saved r0_sight r0_flyer r0_parser a1 a1_codes r1_eye r1_flight a2 a2_x a2_y a2_head a2_size a2_turns a3 a3_own a3_bodyX a3_bodyY a3_bodyWayX a3_bodyWayY a3_bodyMark v0 v1 v2_8 v3) := by rw [ev2_8]; exact hD
      have hg := g_lte hg v2_8 ev2_8
      refine lv_aload hx hb dX11_read_56 (lv_at hl 1 rfl) ?_
      refine va_get (ci := 4) (v := .ref a2_head) (C := RX5) (T := TX5) (N := 6) hx hb htb uX5 hown hK.1 hP 3 rfl rfl 2 (by decide) (htb _ tg_142) (fun _ h9 => h9) rfl dX11_read_58 ?_
      refine lv_iload hx hb dX11_read_61 (lv_at hl 0 rfl) ?_
      refine lv_iload_n hx hb dX11_read_63 rfl (lv_at hl 5 rfl) ?_
      obtain ⟨h_9, hg⟩ := g_gde hg
      refine va_iast hx hb hK.1 hP hD hS 6 0 rfl rfl (inB_vp h_9) dX11_read_64 (fun H locs hP hD hS => ?_)
      obtain ⟨v2_10, ev2_10⟩ : ∃ z, z = sX5_head v2_8 (upd (pX5_head v2_8) (x5_4 : Int32).toNatClampNeg p2) := ⟨_, rfl⟩
      have hP : va_P D vwCl (WS_X11_read cI cJ cZ cY a0 a0_tape a0_firstTakes r0_saved r0_sight r0_flyer r0_parser a1 a1_codes r1_eye r1_flight a2 a2_x a2_y a2_head a2_size a2_turns a3 a3_own a3_bodyX a3_bodyY a3_bodyWayX a3_bodyWayY a3_bodyMark v0 v1 v2_10 v3) H := by rw [ev2_10]; exact hP
      have hD : va_D A (WS_X11_read cI cJ cZ cY a0 a0_tape a0_firstTakes r0_saved r0_sight r0_flyer r0_parser a1 a1_codes r1_eye r1_flight a2 a2_x a2_y a2_head a2_size a2_turns a3 a3_own a3_bodyX a3_bodyY a3_bodyWayX a3_bodyWayY a3_bodyMark v0 v1 v2_10 v3) := by rw [ev2_10]; exact hD
      have hg := g_lte hg v2_10 ev2_10
      refine lv_aload hx hb dX11_read_65 (lv_at hl 1 rfl) ?_
      refine va_get (ci := 4) (v := .ref a2_size) (C := RX5) (T := TX5) (N := 6) hx hb htb uX5 hown hK.1 hP 3 rfl rfl 3 (by decide) (htb _ tg_145) (fun _ h9 => h9) rfl dX11_read_67 ?_
      refine lv_iload hx hb dX11_read_70 (lv_at hl 0 rfl) ?_
      refine lv_iconst (v := 0) hx hb dX11_read_72 (by decide) ?_
      obtain ⟨h_11, hg⟩ := g_gde hg
      refine va_iast hx hb hK.1 hP hD hS 7 0 rfl rfl (inB_vp h_11) dX11_read_73 (fun H locs hP hD hS => ?_)
      obtain ⟨v2_12, ev2_12⟩ : ∃ z, z = sX5_size v2_10 (upd (pX5_size v2_10) (x5_4 : Int32).toNatClampNeg 0) := ⟨_, rfl⟩
      have hP : va_P D vwCl (WS_X11_read cI cJ cZ cY a0 a0_tape a0_firstTakes r0_saved r0_sight r0_flyer r0_parser a1 a1_codes r1_eye r1_flight a2 a2_x a2_y a2_head a2_size a2_turns a3 a3_own a3_bodyX a3_bodyY a3_bodyWayX a3_bodyWayY a3_bodyMark v0 v1 v2_12 v3) H := by rw [ev2_12]; exact hP
      have hD : va_D A (WS_X11_read cI cJ cZ cY a0 a0_tape a0_firstTakes r0_saved r0_sight r0_flyer r0_parser a1 a1_codes r1_eye r1_flight a2 a2_x a2_y a2_head a2_size a2_turns a3 a3_own a3_bodyX a3_bodyY a3_bodyWayX a3_bodyWayY a3_bodyMark v0 v1 v2_12 v3) := by rw [ev2_12]; exact hD
      have hg := g_lte hg v2_12 ev2_12
      refine lv_aload hx hb dX11_read_74 (lv_at hl 1 rfl) ?_
      refine lv_iload hx hb dX11_read_76 (lv_at hl 0 rfl) ?_
      refine lv_iconst (v := 1) hx hb dX11_read_78 (by decide) ?_
      refine lv_iadd hx hb dX11_read_79 ?_
      refine lv_topi (fun x_13 ex_13 => ?_)
      have hg := g_lte hg x_13 ex_13
      refine va_put (ci := 4) (v := .int x_13) (ty := .int) (C := RX5) (T := TX5) (N := 6) hx hb htb uX5 tyX5 tyX5_ok nmX5 hown hK.1 hP hD hS 3 rfl rfl 5 (by decide) (htb _ tg_151) (fun _ h9 => h9) rfl (by decide +kernel) rfl rfl (Nat.le_of_ble_eq_true rfl) dX11_read_80 (fun H locs hP hD hS => ?_)
      obtain ⟨v2_14, ev2_14⟩ : ∃ z, z = sX5_count v2_12 x_13 := ⟨_, rfl⟩
      have hP : va_P D vwCl (WS_X11_read cI cJ cZ cY a0 a0_tape a0_firstTakes r0_saved r0_sight r0_flyer r0_parser a1 a1_codes r1_eye r1_flight a2 a2_x a2_y a2_head a2_size a2_turns a3 a3_own a3_bodyX a3_bodyY a3_bodyWayX a3_bodyWayY a3_bodyMark v0 v1 v2_14 v3) H := by rw [ev2_14]; exact hP
      have hD : va_D A (WS_X11_read cI cJ cZ cY a0 a0_tape a0_firstTakes r0_saved r0_sight r0_flyer r0_parser a1 a1_codes r1_eye r1_flight a2 a2_x a2_y a2_head a2_size a2_turns a3 a3_own a3_bodyX a3_bodyY a3_bodyWayX a3_bodyWayY a3_bodyMark v0 v1 v2_14 v3) := by rw [ev2_14]; exact hD
      have hg := g_lte hg v2_14 ev2_14
      refine lv_iload hx hb dX11_read_83 (lv_at hl 0 rfl) ?_
      have hg := Option.some.inj hg
      rw [hQ]
      exact W.iret (v := x5_4) hx hb hr (fun t ht hW => ⟨⟨x5_4, (v2_14), rfl, ⟨by rw [← hg], by rw [← hg]⟩, by rw [ht]; exact hP, hD⟩, hS.F ht⟩) hS.2.2 dX11_read_85
    · have hg := g_if hg c_3
      refine lv_iconst (v := (-1)) hx hb dX11_read_29 (by decide) ?_
      have hg := Option.some.inj hg
      rw [hQ]
      exact W.iret (v := (-1)) hx hb hr (fun t ht hW => ⟨⟨(-1), (v2), rfl, ⟨by rw [← hg], by rw [← hg]⟩, by rw [ht]; exact hP, hD⟩, hS.F ht⟩) hS.2.2 dX11_read_30

/-! ManyEyes$Flyer.step(LManyEyes$Flight;[I)Z -/
def WS_X3_step (cI cJ cZ cY : ClassId) (a0 a0_rows a0_takes a1 a2 r2_trial a3 a3_stack a3_letters a4 a4_view a4_rays a5 a5_codes r5_reads r5_flight a6 a6_lensSide a6_lensWidth a6_pairA a6_pairB a6_pairDelay a7 a7_own a7_bodyX a7_bodyY a7_bodyWayX a7_bodyWayY a7_bodyMark n1 : Nat) (v0 : BX2) (v1 : (Nat → Int32)) (v2 : BX3) (v3 : BX6) (v4 : BX7) (v5 : BX8) (v6 : BX1) (v7 : BX10) : va_W := (GX2 cI cJ cZ cY a0 a0_rows a0_takes v0) ++ ((GA cI a1 n1 v1) ++ ((GX3 cI cJ cZ cY a2 a5 a4 a3 r2_trial v2) ++ ((GX6 cI cJ cZ cY a3 a3_stack a3_letters a6 v3) ++ ((GX7 cI cJ cZ cY a4 a4_view a4_rays a7 v4) ++ ((GX8 cI cJ cZ cY a5 a5_codes a7 a6 r5_reads r5_flight v5) ++ ((GX1 cI cJ cZ cY a6 a6_lensSide a6_lensWidth a6_pairA a6_pairB a6_pairDelay v6) ++ ((GX10 cI cJ cZ cY a7 a7_own a7_bodyX a7_bodyY a7_bodyWayX a7_bodyWayY a7_bodyMark v7))))))))
def f_X3_step_b196 (n1 : Nat) (v1 : (Nat → Int32)) (v2 : BX3) (v5 : BX8) (v6 : BX1) (v7 : BX10) (t1 : Int32) (v0 : BX2) (v3 : BX6) (v4 : BX7) : Option (Int32 × BX2 × BX6 × BX7) := g_gd (t1 = 0 ∨ t1 = 1) (g_lt (sX2_hit v0 t1) (fun v0_2 => some (1, v0_2, v3, v4)))
def f_X3_step (n1 : Nat) (v0 : BX2) (v1 : (Nat → Int32)) (v2 : BX3) (v3 : BX6) (v4 : BX7) (v5 : BX8) (v6 : BX1) (v7 : BX10) : Option (Int32 × BX2 × BX6 × BX7) := if ((pX2_count v0) : Int32) < 60 then ((f_X3_sense v0 v2 v4 v5 v6 v7).bind (fun r_4 => (f_X6_run n1 v1 r_4.1 v3 v6).bind (fun r_5 => g_lt (((pX2_over r_4.1) + (pX6_over r_5)) : Int32) (fun x_6 => g_lt (sX2_over r_4.1 x_6) (fun v0_7 => if ((pX6_rests r_5) : Int32) = 0 then ((f_X2_note v0_7 (pX6_turn r_5) (pX6_go r_5)).bind (fun r_9 => g_lt (((pX2_count r_9) + 1) : Int32) (fun x_10 => g_lt (sX2_count r_9 x_10) (fun v0_11 => g_lt ((((pX2_head v0_11) + (pX6_turn r_5)) &&& 63) : Int32) (fun x_12 => g_lt (sX2_head v0_11 x_12) (fun v0_13 => g_gd (inB (pX2_head v0_13) 64) ((f_J9_floorDiv_7cf53 ((pX6_go r_5) * (wyX ((pX2_head v0_13) : Int32).toNatClampNeg)) 16).bind (fun r_15 => g_lt (((pX2_x v0_13) + r_15) : Int32) (fun x_16 => g_lt (sX2_x v0_13 x_16) (fun v0_17 => g_gd (inB (pX2_head v0_17) 64) ((f_J9_floorDiv_7cf53 ((pX6_go r_5) * (wyY ((pX2_head v0_17) : Int32).toNatClampNeg)) 16).bind (fun r_19 => g_lt (((pX2_y v0_17) + r_19) : Int32) (fun x_20 => g_lt (sX2_y v0_17 x_20) (fun v0_21 => (f_X10_isFree v7 (pX2_x v0_21) (pX2_y v0_21) (pX2_count v0_21)).bind (fun r_22 => if (r_22 : Int32) = 0 then (f_X3_step_b196 n1 v1 v2 v5 v6 v7 1 v0_21 r_5 r_4.2) else (f_X3_step_b196 n1 v1 v2 v5 v6 v7 0 v0_21 r_5 r_4.2)))))))))))))))) else (g_lt (sX2_rested v0_7 1) (fun v0_24 => some (0, v0_24, r_5, r_4.2)))))))) else (some (0, v0, v3, v4))
abbrev rm_X3_step : Room := { frames := 4, cells := 0, slots := 0, locals := 113 }
set_option maxHeartbeats 4000000 in
set_option maxRecDepth 100000 in
theorem k_X3_step {l : Launch} {D : va_G} {cI cJ cZ cY : ClassId} {tX tY : Nat} {sz : Nat} (a0 a0_rows a0_takes a1 a2 r2_trial a3 a3_stack a3_letters a4 a4_view a4_rays a5 a5_codes r5_reads r5_flight a6 a6_lensSide a6_lensWidth a6_pairA a6_pairB a6_pairDelay a7 a7_own a7_bodyX a7_bodyY a7_bodyWayX a7_bodyWayY a7_bodyMark n1 : Nat) (v0 : BX2) (v1 : (Nat → Int32)) (v2 : BX3) (v3 : BX6) (v4 : BX7) (v5 : BX8) (v6 : BX1) (v7 : BX10) (res : Int32 × BX2 × BX6 × BX7) (hg : f_X3_step n1 v0 v1 v2 v3 v4 v5 v6 v7 = some res) : Met l yX3_step (Cond.code yX3_step cX3_step 3 (some .boolean) :: TB) rm_X3_step (PC D cI cJ cZ cY tX tY [.ref a2, .ref a0, .ref a1] (WS_X3_step cI cJ cZ cY a0 a0_rows a0_takes a1 a2 r2_trial a3 a3_stack a3_letters a4 a4_view a4_rays a5 a5_codes r5_reads r5_flight a6 a6_lensSide a6_lensWidth a6_pairA a6_pairB a6_pairDelay a7 a7_own a7_bodyX a7_bodyY a7_bodyWayX a7_bodyWayY a7_bodyMark n1 v0 v1 v2 v3 v4 v5 v6 v7) sz) (va_Qi (fun (r : Int32) (u : BX2 × BX6 × BX7) => r = res.1 ∧ u = res.2) (BC D (fun u : BX2 × BX6 × BX7 => WS_X3_step cI cJ cZ cY a0 a0_rows a0_takes a1 a2 r2_trial a3 a3_stack a3_letters a4 a4_view a4_rays a5 a5_codes r5_reads r5_flight a6 a6_lensSide a6_lensWidth a6_pairA a6_pairB a6_pairDelay a7 a7_own a7_bodyX a7_bodyY a7_bodyWayX a7_bodyWayY a7_bodyMark n1 u.1 v1 v2 u.2.1 u.2.2 v5 v6 v7) (va_A (WS_X3_step cI cJ cZ cY a0 a0_rows a0_takes a1 a2 r2_trial a3 a3_stack a3_letters a4 a4_view a4_rays a5 a5_codes r5_reads r5_flight a6 a6_lensSide a6_lensWidth a6_pairA a6_pairB a6_pairDelay a7 a7_own a7_bodyX a7_bodyY a7_bodyWayX a7_bodyWayY a7_bodyMark n1 v0 v1 v2 v3 v4 v5 v6 v7) sz)) (va_A (WS_X3_step cI cJ cZ cY a0 a0_rows a0_takes a1 a2 r2_trial a3 a3_stack a3_letters a4 a4_view a4_rays a5 a5_codes r5_reads r5_flight a6 a6_lensSide a6_lensWidth a6_pairA a6_pairB a6_pairDelay a7 a7_own a7_bodyX a7_bodyY a7_bodyWayX a7_bodyWayY a7_bodyMark n1 v0 v1 v2 v3 v4 v5 v6 v7) sz)) 0 0 (va_A (WS_X3_step cI cJ cZ cY a0 a0_rows a0_takes a1 a2 r2_trial a3 a3_stack a3_letters a4 a4_view a4_rays a5 a5_codes r5_reads r5_flight a6 a6_lensSide a6_lensWidth a6_pairA a6_pairB a6_pairDelay a7 a7_own a7_bodyX a7_bodyY a7_bodyWayX a7_bodyWayY a7_bodyMark n1 v0 v1 v2 v3 v4 v5 v6 v7) sz) := by
  refine Met.ofW (cc := cX3_step) (maxL := 3) (ret := (some .boolean)) (by decide) rfl ?_
  intro p e s m args below meth c s₁ B hml hv
  obtain ⟨hargs, hsz, hP, hK, hD0, hT⟩ := hv
  have hx := B.exec
  have hb := B.bytes
  have hr := B.returns
  have htb : ∀ w ∈ TB, w.before args s = true := fun w h => atoms_spec (ws := Cond.code yX3_step cX3_step 3 (some .boolean) :: TB) B.pre w (List.mem_cons_of_mem _ h)
  have hown : s.vm.findClass "ManyEyes$Flyer" = some m.cls := findClass_of_methodNamed B.named
  have hlocks := B.notSynchronized
  subst hsz
  have hD := hD0.self (sz := s.heap.size)
  generalize hAe : va_A (WS_X3_step cI cJ cZ cY a0 a0_rows a0_takes a1 a2 r2_trial a3 a3_stack a3_letters a4 a4_view a4_rays a5 a5_codes r5_reads r5_flight a6 a6_lensSide a6_lensWidth a6_pairA a6_pairB a6_pairDelay a7 a7_own a7_bodyX a7_bodyY a7_bodyWayX a7_bodyWayY a7_bodyMark n1 v0 v1 v2 v3 v4 v5 v6 v7) s.heap.size = A at hD hT ⊢
  have hA : ∀ q : Nat, s.heap.size ≤ q → A q := fun q h => by rw [← hAe]; exact Or.inr h
  have hS : va_S A s.heap s.heap [] := va_S.rf
  have hl := lv_entry ([.ref a2, .ref a0, .ref a1]) (n := 3) (Nat.le_of_ble_eq_true rfl)
  have he : entryFrame m args 3 = F0 m 0 (lg_sl ([.ref a2, .ref a0, .ref a1]) ++ List.replicate (3 - (lg_sl ([.ref a2, .ref a0, .ref a1])).length) Slot.unset).toArray [] := by rw [hargs, lg_entry_eq]
  rw [he]
  generalize (lg_sl ([.ref a2, .ref a0, .ref a1]) ++ List.replicate (3 - (lg_sl ([.ref a2, .ref a0, .ref a1])).length) Slot.unset).toArray = ls at hl ⊢
  have hl : lv_has ls 3 [(0, .ref a2), (1, .ref a0), (2, .ref a1)] := hl
  show W p l e rm_X3_step s m args below meth c s.heap [] 0 0 _ _
  refine W.genQ (fun Q hQ => ?_)
  have b_196 : ∀ (t1 : Int32) (v0 : BX2) (v3 : BX6) (v4 : BX7) (H : Heap) (locs : List Loc) (ls : Array Slot), va_P D vwCl (WS_X3_step cI cJ cZ cY a0 a0_rows a0_takes a1 a2 r2_trial a3 a3_stack a3_letters a4 a4_view a4_rays a5 a5_codes r5_reads r5_flight a6 a6_lensSide a6_lensWidth a6_pairA a6_pairB a6_pairDelay a7 a7_own a7_bodyX a7_bodyY a7_bodyWayX a7_bodyWayY a7_bodyMark n1 v0 v1 v2 v3 v4 v5 v6 v7) H → va_D A (WS_X3_step cI cJ cZ cY a0 a0_rows a0_takes a1 a2 r2_trial a3 a3_stack a3_letters a4 a4_view a4_rays a5 a5_codes r5_reads r5_flight a6 a6_lensSide a6_lensWidth a6_pairA a6_pairB a6_pairDelay a7 a7_own a7_bodyX a7_bodyY a7_bodyWayX a7_bodyWayY a7_bodyMark n1 v0 v1 v2 v3 v4 v5 v6 v7) → va_S A s.heap H locs → lv_has ls 3 [] → f_X3_step_b196 n1 v1 v2 v5 v6 v7 t1 v0 v3 v4 = some res → W p l e rm_X3_step s m args below meth c H locs 0 0 Q (F0 m 196 ls [.int t1, .ref a0]) := by
    intro t1 v0 v3 v4 H locs ls hP hD hS hl hg
    unfold f_X3_step_b196 at hg
    obtain ⟨h_1, hg⟩ := g_gde hg
    refine va_put (ci := 1) (v := .int t1) (ty := .boolean) (C := RX2) (T := TX2) (N := 12) hx hb htb uX2 tyX2 tyX2_ok nmX2 hown hK.1 hP hD hS 0 rfl rfl 3 (by decide) (htb _ tg_177) (fun _ h9 => h9) rfl (by decide +kernel) (bool_nar h_1) (bool_fit h_1) (Nat.le_of_ble_eq_true rfl) dX3_step_196 (fun H locs hP hD hS => ?_)
    obtain ⟨v0_2, ev0_2⟩ : ∃ z, z = sX2_hit v0 t1 := ⟨_, rfl⟩
    have hP : va_P D vwCl (WS_X3_step cI cJ cZ cY a0 a0_rows a0_takes a1 a2 r2_trial a3 a3_stack a3_letters a4 a4_view a4_rays a5 a5_codes r5_reads r5_flight a6 a6_lensSide a6_lensWidth a6_pairA a6_pairB a6_pairDelay a7 a7_own a7_bodyX a7_bodyY a7_bodyWayX a7_bodyWayY a7_bodyMark n1 v0_2 v1 v2 v3 v4 v5 v6 v7) H := by rw [ev0_2]; exact hP
    have hD : va_D A (WS_X3_step cI cJ cZ cY a0 a0_rows a0_takes a1 a2 r2_trial a3 a3_stack a3_letters a4 a4_view a4_rays a5 a5_codes r5_reads r5_flight a6 a6_lensSide a6_lensWidth a6_pairA a6_pairB a6_pairDelay a7 a7_own a7_bodyX a7_bodyY a7_bodyWayX a7_bodyWayY a7_bodyMark n1 v0_2 v1 v2 v3 v4 v5 v6 v7) := by rw [ev0_2]; exact hD
    have hg := g_lte hg v0_2 ev0_2
    refine lv_iconst (v := 1) hx hb dX3_step_199 (by decide) ?_
    have hg := Option.some.inj hg
    rw [hQ]
    exact W.zret (v := 1) (ty := .boolean) hx hb hr rfl (fun t ht hW => ⟨⟨1, (v0_2, v3, v4), rfl, ⟨by rw [← hg], by rw [← hg]⟩, by rw [ht]; exact hP, hD⟩, hS.F ht⟩) hS.2.2 dX3_step_200
  generalize hHe : s.heap = H at hP ⊢
  have hS : va_S A s.heap H [] := by rw [← hHe]; exact va_S.rf
  generalize ([] : List Loc) = locs at hS ⊢
  unfold f_X3_step at hg
  refine lv_aload_n hx hb dX3_step_0 rfl (lv_at hl 1 rfl) ?_
  refine va_get (ci := 1) (v := .int (pX2_count v0)) (C := RX2) (T := TX2) (N := 12) hx hb htb uX2 hown hK.1 hP 0 rfl rfl 5 (by decide) (htb _ tg_184) (fun _ h9 => h9) rfl dX3_step_1 ?_
  refine lv_bipush (v := 60) hx hb dX3_step_4 (by decide) ?_
  refine lv_icmp_lt (tgt := 11) hx hb dX3_step_6 (by decide) (fun c_3 => ?_) (fun c_3 => ?_)
  · have hg := g_it hg c_3
    refine lv_aload_n hx hb dX3_step_11 rfl (lv_at hl 0 rfl) ?_
    refine lv_aload_n hx hb dX3_step_12 rfl (lv_at hl 1 rfl) ?_
    obtain ⟨r_4, hr_4, hg⟩ := g_bd hg
    refine cc_v (va_runV (C := RX3) (As := [.ref a0]) (rest := []) ⟨hx, hb, hml, hown, htb⟩ (k_X3_sense a0 a0_rows a0_takes a2 a3 r2_trial a4 a4_view a4_rays a5 a5_codes r5_reads r5_flight a6 a6_lensSide a6_lensWidth a6_pairA a6_pairB a6_pairDelay a7 a7_own a7_bodyX a7_bodyY a7_bodyWayX a7_bodyWayY a7_bodyMark v0 v2 v4 v5 v6 v7 r_4 hr_4) (cw_V 1 htb tg_764 tg_9 tg_761 tg_763 ts_22 rfl rfl (by decide +kernel) ⟨Nat.le_of_ble_eq_true rfl, Nat.le_of_ble_eq_true rfl⟩) ⟨PC.blind, va_recv hK.1 hP (ci := 2) (q0 := 4) rfl rfl, PC.pre hK hT hP hD hS hA [0, 1, 2, 4, 8, 9, 10, 11, 12, 13, 14, 15, 16, 17, 18, 19, 20, 21, 22, 23, 24, 25] rfl (by decide)⟩ rfl rfl hl.1 rfl (lv_room (Nat.le_of_ble_eq_true rfl)) dX3_step_13 ⟨Nat.le_of_ble_eq_true rfl, Nat.le_of_ble_eq_true rfl⟩) hP hD hS hA [0, 1, 2, 4, 8, 9, 10, 11, 12, 13, 14, 15, 16, 17, 18, 19, 20, 21, 22, 23, 24, 25] [3, 5, 6, 7] rfl rfl (by decide) (by decide) (fun u9 H locs hw hP hD hS => ?_)
    have hw := hw.symm
    subst hw
    have hP : va_P D vwCl (WS_X3_step cI cJ cZ cY a0 a0_rows a0_takes a1 a2 r2_trial a3 a3_stack a3_letters a4 a4_view a4_rays a5 a5_codes r5_reads r5_flight a6 a6_lensSide a6_lensWidth a6_pairA a6_pairB a6_pairDelay a7 a7_own a7_bodyX a7_bodyY a7_bodyWayX a7_bodyWayY a7_bodyMark n1 r_4.1 v1 v2 v3 r_4.2 v5 v6 v7) H := hP.sub [4, 5, 6, 0, 7, 1, 2, 3, 8, 9, 10, 11, 12, 13, 14, 15, 16, 17, 18, 19, 20, 21, 22, 23, 24, 25] rfl
    have hD : va_D A (WS_X3_step cI cJ cZ cY a0 a0_rows a0_takes a1 a2 r2_trial a3 a3_stack a3_letters a4 a4_view a4_rays a5 a5_codes r5_reads r5_flight a6 a6_lensSide a6_lensWidth a6_pairA a6_pairB a6_pairDelay a7 a7_own a7_bodyX a7_bodyY a7_bodyWayX a7_bodyWayY a7_bodyMark n1 r_4.1 v1 v2 v3 r_4.2 v5 v6 v7) := hD.sub [4, 5, 6, 0, 7, 1, 2, 3, 8, 9, 10, 11, 12, 13, 14, 15, 16, 17, 18, 19, 20, 21, 22, 23, 24, 25] (by decide) rfl
    refine lv_aload_n hx hb dX3_step_16 rfl (lv_at hl 0 rfl) ?_
    refine va_get (ci := 2) (v := .ref a3) (C := RX3) (T := TX3) (N := 4) hx hb htb uX3 hown hK.1 hP 4 rfl rfl 2 (by decide) (htb _ tg_334) (fun _ h9 => h9) rfl dX3_step_17 ?_
    refine lv_aload_n hx hb dX3_step_20 rfl (lv_at hl 2 rfl) ?_
    refine lv_aload_n hx hb dX3_step_21 rfl (lv_at hl 1 rfl) ?_
    obtain ⟨r_5, hr_5, hg⟩ := g_bd hg
    refine cc_v (va_runV (C := RX6) (As := [.ref a1, .ref a0]) (rest := []) ⟨hx, hb, hml, hown, htb⟩ (k_X6_run a1 a0 a0_rows a0_takes a3 a3_stack a3_letters a6 a6_lensSide a6_lensWidth a6_pairA a6_pairB a6_pairDelay n1 v1 r_4.1 v3 v6 r_5 hr_5) (cw_V 2 htb tg_770 tg_10 tg_767 tg_768 tg_769 rfl rfl (by decide +kernel) ⟨Nat.le_of_ble_eq_true rfl, Nat.le_of_ble_eq_true rfl⟩) ⟨PC.blind, va_recv hK.1 hP (ci := 5) (q0 := 5) rfl rfl, PC.pre hK hT hP hD hS hA [3, 0, 1, 2, 5, 6, 7, 13, 14, 15, 16, 17, 18] rfl (by decide)⟩ rfl rfl hl.1 rfl (lv_room (Nat.le_of_ble_eq_true rfl)) dX3_step_22 ⟨Nat.le_of_ble_eq_true rfl, Nat.le_of_ble_eq_true rfl⟩) hP hD hS hA [3, 0, 1, 2, 5, 6, 7, 13, 14, 15, 16, 17, 18] [4, 8, 9, 10, 11, 12, 19, 20, 21, 22, 23, 24, 25] rfl rfl (by decide) (by decide) (fun u9 H locs hw hP hD hS => ?_)
    have hw := hw.symm
    subst hw
    have hP : va_P D vwCl (WS_X3_step cI cJ cZ cY a0 a0_rows a0_takes a1 a2 r2_trial a3 a3_stack a3_letters a4 a4_view a4_rays a5 a5_codes r5_reads r5_flight a6 a6_lensSide a6_lensWidth a6_pairA a6_pairB a6_pairDelay a7 a7_own a7_bodyX a7_bodyY a7_bodyWayX a7_bodyWayY a7_bodyMark n1 r_4.1 v1 v2 r_5 r_4.2 v5 v6 v7) H := hP.sub [14, 15, 16, 13, 0, 17, 18, 19, 1, 2, 3, 4, 5, 20, 21, 22, 23, 24, 25, 6, 7, 8, 9, 10, 11, 12] rfl
    have hD : va_D A (WS_X3_step cI cJ cZ cY a0 a0_rows a0_takes a1 a2 r2_trial a3 a3_stack a3_letters a4 a4_view a4_rays a5 a5_codes r5_reads r5_flight a6 a6_lensSide a6_lensWidth a6_pairA a6_pairB a6_pairDelay a7 a7_own a7_bodyX a7_bodyY a7_bodyWayX a7_bodyWayY a7_bodyMark n1 r_4.1 v1 v2 r_5 r_4.2 v5 v6 v7) := hD.sub [14, 15, 16, 13, 0, 17, 18, 19, 1, 2, 3, 4, 5, 20, 21, 22, 23, 24, 25, 6, 7, 8, 9, 10, 11, 12] (by decide) rfl
    refine lv_aload_n hx hb dX3_step_25 rfl (lv_at hl 1 rfl) ?_
    refine lv_dup hx hb dX3_step_26 rfl ?_
    refine va_get (ci := 1) (v := .int (pX2_over r_4.1)) (C := RX2) (T := TX2) (N := 12) hx hb htb uX2 hown hK.1 hP 0 rfl rfl 6 (by decide) (htb _ tg_187) (fun _ h9 => h9) rfl dX3_step_27 ?_
    refine lv_aload_n hx hb dX3_step_30 rfl (lv_at hl 0 rfl) ?_
    refine va_get (ci := 2) (v := .ref a3) (C := RX3) (T := TX3) (N := 4) hx hb htb uX3 hown hK.1 hP 4 rfl rfl 2 (by decide) (htb _ tg_334) (fun _ h9 => h9) rfl dX3_step_31 ?_
    refine va_get (ci := 5) (v := .int (pX6_over r_5)) (C := RX6) (T := TX6) (N := 9) hx hb htb uX6 hown hK.1 hP 5 rfl rfl 5 (by decide) (htb _ tg_304) (fun _ h9 => h9) rfl dX3_step_34 ?_
    refine lv_iadd hx hb dX3_step_37 ?_
    refine lv_topi (fun x_6 ex_6 => ?_)
    have hg := g_lte hg x_6 ex_6
    refine va_put (ci := 1) (v := .int x_6) (ty := .int) (C := RX2) (T := TX2) (N := 12) hx hb htb uX2 tyX2 tyX2_ok nmX2 hown hK.1 hP hD hS 0 rfl rfl 6 (by decide) (htb _ tg_187) (fun _ h9 => h9) rfl (by decide +kernel) rfl rfl (Nat.le_of_ble_eq_true rfl) dX3_step_38 (fun H locs hP hD hS => ?_)
    obtain ⟨v0_7, ev0_7⟩ : ∃ z, z = sX2_over r_4.1 x_6 := ⟨_, rfl⟩
    have hP : va_P D vwCl (WS_X3_step cI cJ cZ cY a0 a0_rows a0_takes a1 a2 r2_trial a3 a3_stack a3_letters a4 a4_view a4_rays a5 a5_codes r5_reads r5_flight a6 a6_lensSide a6_lensWidth a6_pairA a6_pairB a6_pairDelay a7 a7_own a7_bodyX a7_bodyY a7_bodyWayX a7_bodyWayY a7_bodyMark n1 v0_7 v1 v2 r_5 r_4.2 v5 v6 v7) H := by rw [ev0_7]; exact hP
    have hD : va_D A (WS_X3_step cI cJ cZ cY a0 a0_rows a0_takes a1 a2 r2_trial a3 a3_stack a3_letters a4 a4_view a4_rays a5 a5_codes r5_reads r5_flight a6 a6_lensSide a6_lensWidth a6_pairA a6_pairB a6_pairDelay a7 a7_own a7_bodyX a7_bodyY a7_bodyWayX a7_bodyWayY a7_bodyMark n1 v0_7 v1 v2 r_5 r_4.2 v5 v6 v7) := by rw [ev0_7]; exact hD
    have hg := g_lte hg v0_7 ev0_7
    refine lv_aload_n hx hb dX3_step_41 rfl (lv_at hl 0 rfl) ?_
    refine va_get (ci := 2) (v := .ref a3) (C := RX3) (T := TX3) (N := 4) hx hb htb uX3 hown hK.1 hP 4 rfl rfl 2 (by decide) (htb _ tg_334) (fun _ h9 => h9) rfl dX3_step_42 ?_
    refine va_get (ci := 5) (v := .int (pX6_rests r_5)) (C := RX6) (T := TX6) (N := 9) hx hb htb uX6 hown hK.1 hP 5 rfl rfl 8 (by decide) (htb _ tg_310) (fun _ h9 => h9) rfl dX3_step_45 ?_
    refine lv_if_eq (tgt := 58) hx hb dX3_step_48 (by decide) (fun c_8 => ?_) (fun c_8 => ?_)
    · have hg := g_it hg c_8
      refine lv_aload_n hx hb dX3_step_58 rfl (lv_at hl 1 rfl) ?_
      refine lv_aload_n hx hb dX3_step_59 rfl (lv_at hl 0 rfl) ?_
      refine va_get (ci := 2) (v := .ref a3) (C := RX3) (T := TX3) (N := 4) hx hb htb uX3 hown hK.1 hP 4 rfl rfl 2 (by decide) (htb _ tg_334) (fun _ h9 => h9) rfl dX3_step_60 ?_
      refine va_get (ci := 5) (v := .int (pX6_turn r_5)) (C := RX6) (T := TX6) (N := 9) hx hb htb uX6 hown hK.1 hP 5 rfl rfl 6 (by decide) (htb _ tg_306) (fun _ h9 => h9) rfl dX3_step_63 ?_
      refine lv_aload_n hx hb dX3_step_66 rfl (lv_at hl 0 rfl) ?_
      refine va_get (ci := 2) (v := .ref a3) (C := RX3) (T := TX3) (N := 4) hx hb htb uX3 hown hK.1 hP 4 rfl rfl 2 (by decide) (htb _ tg_334) (fun _ h9 => h9) rfl dX3_step_67 ?_
      refine va_get (ci := 5) (v := .int (pX6_go r_5)) (C := RX6) (T := TX6) (N := 9) hx hb htb uX6 hown hK.1 hP 5 rfl rfl 7 (by decide) (htb _ tg_308) (fun _ h9 => h9) rfl dX3_step_70 ?_
      obtain ⟨r_9, hr_9, hg⟩ := g_bd hg
      refine cc_v (va_runV (C := RX2) (As := [.int (pX6_turn r_5), .int (pX6_go r_5)]) (rest := []) ⟨hx, hb, hml, hown, htb⟩ (k_X2_note a0 a0_rows a0_takes v0_7 (pX6_turn r_5) (pX6_go r_5) r_9 hr_9) (cw_V 2 htb tg_813 tg_7 tg_810 tg_811 tg_812 rfl rfl (by decide +kernel) ⟨Nat.le_of_ble_eq_true rfl, Nat.le_of_ble_eq_true rfl⟩) ⟨PC.blind, va_recv hK.1 hP (ci := 1) (q0 := 0) rfl rfl, PC.pre hK hT hP hD hS hA [0, 1, 2] rfl (by decide)⟩ rfl rfl hl.1 rfl (lv_room (Nat.le_of_ble_eq_true rfl)) dX3_step_73 ⟨Nat.le_of_ble_eq_true rfl, Nat.le_of_ble_eq_true rfl⟩) hP hD hS hA [0, 1, 2] [3, 4, 5, 6, 7, 8, 9, 10, 11, 12, 13, 14, 15, 16, 17, 18, 19, 20, 21, 22, 23, 24, 25] rfl rfl (by decide) (by decide) (fun u9 H locs hw hP hD hS => ?_)
      have hw := hw.symm
      subst hw
      have hP : va_P D vwCl (WS_X3_step cI cJ cZ cY a0 a0_rows a0_takes a1 a2 r2_trial a3 a3_stack a3_letters a4 a4_view a4_rays a5 a5_codes r5_reads r5_flight a6 a6_lensSide a6_lensWidth a6_pairA a6_pairB a6_pairDelay a7 a7_own a7_bodyX a7_bodyY a7_bodyWayX a7_bodyWayY a7_bodyMark n1 r_9 v1 v2 r_5 r_4.2 v5 v6 v7) H := hP.sub [23, 24, 25, 0, 1, 2, 3, 4, 5, 6, 7, 8, 9, 10, 11, 12, 13, 14, 15, 16, 17, 18, 19, 20, 21, 22] rfl
      have hD : va_D A (WS_X3_step cI cJ cZ cY a0 a0_rows a0_takes a1 a2 r2_trial a3 a3_stack a3_letters a4 a4_view a4_rays a5 a5_codes r5_reads r5_flight a6 a6_lensSide a6_lensWidth a6_pairA a6_pairB a6_pairDelay a7 a7_own a7_bodyX a7_bodyY a7_bodyWayX a7_bodyWayY a7_bodyMark n1 r_9 v1 v2 r_5 r_4.2 v5 v6 v7) := hD.sub [23, 24, 25, 0, 1, 2, 3, 4, 5, 6, 7, 8, 9, 10, 11, 12, 13, 14, 15, 16, 17, 18, 19, 20, 21, 22] (by decide) rfl
      refine lv_aload_n hx hb dX3_step_76 rfl (lv_at hl 1 rfl) ?_
      refine lv_dup hx hb dX3_step_77 rfl ?_
      refine va_get (ci := 1) (v := .int (pX2_count r_9)) (C := RX2) (T := TX2) (N := 12) hx hb htb uX2 hown hK.1 hP 0 rfl rfl 5 (by decide) (htb _ tg_184) (fun _ h9 => h9) rfl dX3_step_78 ?_
      refine lv_iconst (v := 1) hx hb dX3_step_81 (by decide) ?_
      refine lv_iadd hx hb dX3_step_82 ?_
      refine lv_topi (fun x_10 ex_10 => ?_)
      have hg := g_lte hg x_10 ex_10
      refine va_put (ci := 1) (v := .int x_10) (ty := .int) (C := RX2) (T := TX2) (N := 12) hx hb htb uX2 tyX2 tyX2_ok nmX2 hown hK.1 hP hD hS 0 rfl rfl 5 (by decide) (htb _ tg_184) (fun _ h9 => h9) rfl (by decide +kernel) rfl rfl (Nat.le_of_ble_eq_true rfl) dX3_step_83 (fun H locs hP hD hS => ?_)
      obtain ⟨v0_11, ev0_11⟩ : ∃ z, z = sX2_count r_9 x_10 := ⟨_, rfl⟩
      have hP : va_P D vwCl (WS_X3_step cI cJ cZ cY a0 a0_rows a0_takes a1 a2 r2_trial a3 a3_stack a3_letters a4 a4_view a4_rays a5 a5_codes r5_reads r5_flight a6 a6_lensSide a6_lensWidth a6_pairA a6_pairB a6_pairDelay a7 a7_own a7_bodyX a7_bodyY a7_bodyWayX a7_bodyWayY a7_bodyMark n1 v0_11 v1 v2 r_5 r_4.2 v5 v6 v7) H := by rw [ev0_11]; exact hP
      have hD : va_D A (WS_X3_step cI cJ cZ cY a0 a0_rows a0_takes a1 a2 r2_trial a3 a3_stack a3_letters a4 a4_view a4_rays a5 a5_codes r5_reads r5_flight a6 a6_lensSide a6_lensWidth a6_pairA a6_pairB a6_pairDelay a7 a7_own a7_bodyX a7_bodyY a7_bodyWayX a7_bodyWayY a7_bodyMark n1 v0_11 v1 v2 r_5 r_4.2 v5 v6 v7) := by rw [ev0_11]; exact hD
      have hg := g_lte hg v0_11 ev0_11
      refine lv_aload_n hx hb dX3_step_86 rfl (lv_at hl 1 rfl) ?_
      refine lv_aload_n hx hb dX3_step_87 rfl (lv_at hl 1 rfl) ?_
      refine va_get (ci := 1) (v := .int (pX2_head v0_11)) (C := RX2) (T := TX2) (N := 12) hx hb htb uX2 hown hK.1 hP 0 rfl rfl 9 (by decide) (htb _ tg_197) (fun _ h9 => h9) rfl dX3_step_88 ?_
      refine lv_aload_n hx hb dX3_step_91 rfl (lv_at hl 0 rfl) ?_
      refine va_get (ci := 2) (v := .ref a3) (C := RX3) (T := TX3) (N := 4) hx hb htb uX3 hown hK.1 hP 4 rfl rfl 2 (by decide) (htb _ tg_334) (fun _ h9 => h9) rfl dX3_step_92 ?_
      refine va_get (ci := 5) (v := .int (pX6_turn r_5)) (C := RX6) (T := TX6) (N := 9) hx hb htb uX6 hown hK.1 hP 5 rfl rfl 6 (by decide) (htb _ tg_306) (fun _ h9 => h9) rfl dX3_step_95 ?_
      refine lv_iadd hx hb dX3_step_98 ?_
      refine lv_bipush (v := 63) hx hb dX3_step_99 (by decide) ?_
      refine lv_iand hx hb dX3_step_101 ?_
      refine lv_topi (fun x_12 ex_12 => ?_)
      have hg := g_lte hg x_12 ex_12
      refine va_put (ci := 1) (v := .int x_12) (ty := .int) (C := RX2) (T := TX2) (N := 12) hx hb htb uX2 tyX2 tyX2_ok nmX2 hown hK.1 hP hD hS 0 rfl rfl 9 (by decide) (htb _ tg_197) (fun _ h9 => h9) rfl (by decide +kernel) rfl rfl (Nat.le_of_ble_eq_true rfl) dX3_step_102 (fun H locs hP hD hS => ?_)
      obtain ⟨v0_13, ev0_13⟩ : ∃ z, z = sX2_head v0_11 x_12 := ⟨_, rfl⟩
      have hP : va_P D vwCl (WS_X3_step cI cJ cZ cY a0 a0_rows a0_takes a1 a2 r2_trial a3 a3_stack a3_letters a4 a4_view a4_rays a5 a5_codes r5_reads r5_flight a6 a6_lensSide a6_lensWidth a6_pairA a6_pairB a6_pairDelay a7 a7_own a7_bodyX a7_bodyY a7_bodyWayX a7_bodyWayY a7_bodyMark n1 v0_13 v1 v2 r_5 r_4.2 v5 v6 v7) H := by rw [ev0_13]; exact hP
      have hD : va_D A (WS_X3_step cI cJ cZ cY a0 a0_rows a0_takes a1 a2 r2_trial a3 a3_stack a3_letters a4 a4_view a4_rays a5 a5_codes r5_reads r5_flight a6 a6_lensSide a6_lensWidth a6_pairA a6_pairB a6_pairDelay a7 a7_own a7_bodyX a7_bodyY a7_bodyWayX a7_bodyWayY a7_bodyMark n1 v0_13 v1 v2 r_5 r_4.2 v5 v6 v7) := by rw [ev0_13]; exact hD
      have hg := g_lte hg v0_13 ev0_13
      refine lv_aload_n hx hb dX3_step_105 rfl (lv_at hl 1 rfl) ?_
      refine lv_dup hx hb dX3_step_106 rfl ?_
      refine va_get (ci := 1) (v := .int (pX2_x v0_13)) (C := RX2) (T := TX2) (N := 12) hx hb htb uX2 hown hK.1 hP 0 rfl rfl 7 (by decide) (htb _ tg_191) (fun _ h9 => h9) rfl dX3_step_107 ?_
      refine lv_aload_n hx hb dX3_step_110 rfl (lv_at hl 0 rfl) ?_
      refine va_get (ci := 2) (v := .ref a3) (C := RX3) (T := TX3) (N := 4) hx hb htb uX3 hown hK.1 hP 4 rfl rfl 2 (by decide) (htb _ tg_334) (fun _ h9 => h9) rfl dX3_step_111 ?_
      refine va_get (ci := 5) (v := .int (pX6_go r_5)) (C := RX6) (T := TX6) (N := 9) hx hb htb uX6 hown hK.1 hP 5 rfl rfl 7 (by decide) (htb _ tg_308) (fun _ h9 => h9) rfl dX3_step_114 ?_
      refine va_getsN hx hb hT.1 hS hown ((hK.2.1 _ nw_814).use rfl) (fun _ h9 => h9) dX3_step_117 ?_
      refine lv_aload_n hx hb dX3_step_120 rfl (lv_at hl 1 rfl) ?_
      refine va_get (ci := 1) (v := .int (pX2_head v0_13)) (C := RX2) (T := TX2) (N := 12) hx hb htb uX2 hown hK.1 hP 0 rfl rfl 9 (by decide) (htb _ tg_197) (fun _ h9 => h9) rfl dX3_step_121 ?_
      obtain ⟨h_14, hg⟩ := g_gde hg
      refine va_ti (v := .int (wyX ((pX2_head v0_13) : Int32).toNatClampNeg)) hx hb hT.2.1 hS (inB_vp h_14) rfl dX3_step_124 ?_
      refine lv_imul hx hb dX3_step_125 ?_
      refine lv_bipush (v := 16) hx hb dX3_step_126 (by decide) ?_
      obtain ⟨r_15, hr_15, hg⟩ := g_bd hg
      refine cc_i (va_runS (As := [.int ((pX6_go r_5) * (wyX ((pX2_head v0_13) : Int32).toNatClampNeg)), .int 16]) (rest := [.int (pX2_x v0_13), .ref a0]) ⟨hx, hb, hml, hown, htb⟩ (k_J9_floorDiv_7cf53 ((pX6_go r_5) * (wyX ((pX2_head v0_13) : Int32).toNatClampNeg)) 16 r_15 hr_15) (cw_S 2 htb tg_568 tg_4 tg_815 tg_567 rfl rfl (by decide +kernel) ⟨Nat.le_of_ble_eq_true rfl, Nat.le_of_ble_eq_true rfl⟩) ⟨PC.blind, PC.pre hK hT hP hD hS hA [] rfl (by decide)⟩ rfl rfl hl.1 rfl (lv_room (Nat.le_of_ble_eq_true rfl)) dX3_step_128 ⟨Nat.le_of_ble_eq_true rfl, Nat.le_of_ble_eq_true rfl⟩) hP hD hS hA [] [0, 1, 2, 3, 4, 5, 6, 7, 8, 9, 10, 11, 12, 13, 14, 15, 16, 17, 18, 19, 20, 21, 22, 23, 24, 25] rfl rfl (by decide) (by decide) (fun r9 u9 H locs hw hP hD hS => ?_)
      have hw := hw.symm
      subst hw
      have hP : va_P D vwCl (WS_X3_step cI cJ cZ cY a0 a0_rows a0_takes a1 a2 r2_trial a3 a3_stack a3_letters a4 a4_view a4_rays a5 a5_codes r5_reads r5_flight a6 a6_lensSide a6_lensWidth a6_pairA a6_pairB a6_pairDelay a7 a7_own a7_bodyX a7_bodyY a7_bodyWayX a7_bodyWayY a7_bodyMark n1 v0_13 v1 v2 r_5 r_4.2 v5 v6 v7) H := hP.sub [0, 1, 2, 3, 4, 5, 6, 7, 8, 9, 10, 11, 12, 13, 14, 15, 16, 17, 18, 19, 20, 21, 22, 23, 24, 25] rfl
      have hD : va_D A (WS_X3_step cI cJ cZ cY a0 a0_rows a0_takes a1 a2 r2_trial a3 a3_stack a3_letters a4 a4_view a4_rays a5 a5_codes r5_reads r5_flight a6 a6_lensSide a6_lensWidth a6_pairA a6_pairB a6_pairDelay a7 a7_own a7_bodyX a7_bodyY a7_bodyWayX a7_bodyWayY a7_bodyMark n1 v0_13 v1 v2 r_5 r_4.2 v5 v6 v7) := hD.sub [0, 1, 2, 3, 4, 5, 6, 7, 8, 9, 10, 11, 12, 13, 14, 15, 16, 17, 18, 19, 20, 21, 22, 23, 24, 25] (by decide) rfl
      refine lv_iadd hx hb dX3_step_131 ?_
      refine lv_topi (fun x_16 ex_16 => ?_)
      have hg := g_lte hg x_16 ex_16
      refine va_put (ci := 1) (v := .int x_16) (ty := .int) (C := RX2) (T := TX2) (N := 12) hx hb htb uX2 tyX2 tyX2_ok nmX2 hown hK.1 hP hD hS 0 rfl rfl 7 (by decide) (htb _ tg_191) (fun _ h9 => h9) rfl (by decide +kernel) rfl rfl (Nat.le_of_ble_eq_true rfl) dX3_step_132 (fun H locs hP hD hS => ?_)
      obtain ⟨v0_17, ev0_17⟩ : ∃ z, z = sX2_x v0_13 x_16 := ⟨_, rfl⟩
      have hP : va_P D vwCl (WS_X3_step cI cJ cZ cY a0 a0_rows a0_takes a1 a2 r2_trial a3 a3_stack a3_letters a4 a4_view a4_rays a5 a5_codes r5_reads r5_flight a6 a6_lensSide a6_lensWidth a6_pairA a6_pairB a6_pairDelay a7 a7_own a7_bodyX a7_bodyY a7_bodyWayX a7_bodyWayY a7_bodyMark n1 v0_17 v1 v2 r_5 r_4.2 v5 v6 v7) H := by rw [ev0_17]; exact hP
      have hD : va_D A (WS_X3_step cI cJ cZ cY a0 a0_rows a0_takes a1 a2 r2_trial a3 a3_stack a3_letters a4 a4_view a4_rays a5 a5_codes r5_reads r5_flight a6 a6_lensSide a6_lensWidth a6_pairA a6_pairB a6_pairDelay a7 a7_own a7_bodyX a7_bodyY a7_bodyWayX a7_bodyWayY a7_bodyMark n1 v0_17 v1 v2 r_5 r_4.2 v5 v6 v7) := by rw [ev0_17]; exact hD
      have hg := g_lte hg v0_17 ev0_17
      refine lv_aload_n hx hb dX3_step_135 rfl (lv_at hl 1 rfl) ?_
      refine lv_dup hx hb dX3_step_136 rfl ?_
      refine va_get (ci := 1) (v := .int (pX2_y v0_17)) (C := RX2) (T := TX2) (N := 12) hx hb htb uX2 hown hK.1 hP 0 rfl rfl 8 (by decide) (htb _ tg_194) (fun _ h9 => h9) rfl dX3_step_137 ?_
      refine lv_aload_n hx hb dX3_step_140 rfl (lv_at hl 0 rfl) ?_
      refine va_get (ci := 2) (v := .ref a3) (C := RX3) (T := TX3) (N := 4) hx hb htb uX3 hown hK.1 hP 4 rfl rfl 2 (by decide) (htb _ tg_334) (fun _ h9 => h9) rfl dX3_step_141 ?_
      refine va_get (ci := 5) (v := .int (pX6_go r_5)) (C := RX6) (T := TX6) (N := 9) hx hb htb uX6 hown hK.1 hP 5 rfl rfl 7 (by decide) (htb _ tg_308) (fun _ h9 => h9) rfl dX3_step_144 ?_
      refine va_getsN hx hb hT.2.2.1 hS hown ((hK.2.1 _ nw_816).use rfl) (fun _ h9 => h9) dX3_step_147 ?_
      refine lv_aload_n hx hb dX3_step_150 rfl (lv_at hl 1 rfl) ?_
      refine va_get (ci := 1) (v := .int (pX2_head v0_17)) (C := RX2) (T := TX2) (N := 12) hx hb htb uX2 hown hK.1 hP 0 rfl rfl 9 (by decide) (htb _ tg_197) (fun _ h9 => h9) rfl dX3_step_151 ?_
      obtain ⟨h_18, hg⟩ := g_gde hg
      refine va_ti (v := .int (wyY ((pX2_head v0_17) : Int32).toNatClampNeg)) hx hb hT.2.2.2 hS (inB_vp h_18) rfl dX3_step_154 ?_
      refine lv_imul hx hb dX3_step_155 ?_
      refine lv_bipush (v := 16) hx hb dX3_step_156 (by decide) ?_
      obtain ⟨r_19, hr_19, hg⟩ := g_bd hg
      refine cc_i (va_runS (As := [.int ((pX6_go r_5) * (wyY ((pX2_head v0_17) : Int32).toNatClampNeg)), .int 16]) (rest := [.int (pX2_y v0_17), .ref a0]) ⟨hx, hb, hml, hown, htb⟩ (k_J9_floorDiv_7cf53 ((pX6_go r_5) * (wyY ((pX2_head v0_17) : Int32).toNatClampNeg)) 16 r_19 hr_19) (cw_S 2 htb tg_568 tg_4 tg_815 tg_567 rfl rfl (by decide +kernel) ⟨Nat.le_of_ble_eq_true rfl, Nat.le_of_ble_eq_true rfl⟩) ⟨PC.blind, PC.pre hK hT hP hD hS hA [] rfl (by decide)⟩ rfl rfl hl.1 rfl (lv_room (Nat.le_of_ble_eq_true rfl)) dX3_step_158 ⟨Nat.le_of_ble_eq_true rfl, Nat.le_of_ble_eq_true rfl⟩) hP hD hS hA [] [0, 1, 2, 3, 4, 5, 6, 7, 8, 9, 10, 11, 12, 13, 14, 15, 16, 17, 18, 19, 20, 21, 22, 23, 24, 25] rfl rfl (by decide) (by decide) (fun r9 u9 H locs hw hP hD hS => ?_)
      have hw := hw.symm
      subst hw
      have hP : va_P D vwCl (WS_X3_step cI cJ cZ cY a0 a0_rows a0_takes a1 a2 r2_trial a3 a3_stack a3_letters a4 a4_view a4_rays a5 a5_codes r5_reads r5_flight a6 a6_lensSide a6_lensWidth a6_pairA a6_pairB a6_pairDelay a7 a7_own a7_bodyX a7_bodyY a7_bodyWayX a7_bodyWayY a7_bodyMark n1 v0_17 v1 v2 r_5 r_4.2 v5 v6 v7) H := hP.sub [0, 1, 2, 3, 4, 5, 6, 7, 8, 9, 10, 11, 12, 13, 14, 15, 16, 17, 18, 19, 20, 21, 22, 23, 24, 25] rfl
      have hD : va_D A (WS_X3_step cI cJ cZ cY a0 a0_rows a0_takes a1 a2 r2_trial a3 a3_stack a3_letters a4 a4_view a4_rays a5 a5_codes r5_reads r5_flight a6 a6_lensSide a6_lensWidth a6_pairA a6_pairB a6_pairDelay a7 a7_own a7_bodyX a7_bodyY a7_bodyWayX a7_bodyWayY a7_bodyMark n1 v0_17 v1 v2 r_5 r_4.2 v5 v6 v7) := hD.sub [0, 1, 2, 3, 4, 5, 6, 7, 8, 9, 10, 11, 12, 13, 14, 15, 16, 17, 18, 19, 20, 21, 22, 23, 24, 25] (by decide) rfl
      refine lv_iadd hx hb dX3_step_161 ?_
      refine lv_topi (fun x_20 ex_20 => ?_)
      have hg := g_lte hg x_20 ex_20
      refine va_put (ci := 1) (v := .int x_20) (ty := .int) (C := RX2) (T := TX2) (N := 12) hx hb htb uX2 tyX2 tyX2_ok nmX2 hown hK.1 hP hD hS 0 rfl rfl 8 (by decide) (htb _ tg_194) (fun _ h9 => h9) rfl (by decide +kernel) rfl rfl (Nat.le_of_ble_eq_true rfl) dX3_step_162 (fun H locs hP hD hS => ?_)
      obtain ⟨v0_21, ev0_21⟩ : ∃ z, z = sX2_y v0_17 x_20 := ⟨_, rfl⟩
      have hP : va_P D vwCl (WS_X3_step cI cJ cZ cY a0 a0_rows a0_takes a1 a2 r2_trial a3 a3_stack a3_letters a4 a4_view a4_rays a5 a5_codes r5_reads r5_flight a6 a6_lensSide a6_lensWidth a6_pairA a6_pairB a6_pairDelay a7 a7_own a7_bodyX a7_bodyY a7_bodyWayX a7_bodyWayY a7_bodyMark n1 v0_21 v1 v2 r_5 r_4.2 v5 v6 v7) H := by rw [ev0_21]; exact hP
      have hD : va_D A (WS_X3_step cI cJ cZ cY a0 a0_rows a0_takes a1 a2 r2_trial a3 a3_stack a3_letters a4 a4_view a4_rays a5 a5_codes r5_reads r5_flight a6 a6_lensSide a6_lensWidth a6_pairA a6_pairB a6_pairDelay a7 a7_own a7_bodyX a7_bodyY a7_bodyWayX a7_bodyWayY a7_bodyMark n1 v0_21 v1 v2 r_5 r_4.2 v5 v6 v7) := by rw [ev0_21]; exact hD
      have hg := g_lte hg v0_21 ev0_21
      refine lv_aload_n hx hb dX3_step_165 rfl (lv_at hl 1 rfl) ?_
      refine lv_aload_n hx hb dX3_step_166 rfl (lv_at hl 0 rfl) ?_
      refine va_get (ci := 2) (v := .ref a5) (C := RX3) (T := TX3) (N := 4) hx hb htb uX3 hown hK.1 hP 4 rfl rfl 0 (by decide) (htb _ tg_332) (fun _ h9 => h9) rfl dX3_step_167 ?_
      refine va_get (ci := 7) (v := .ref a7) (C := RX8) (T := TX8) (N := 6) hx hb htb uX8 hown hK.1 hP 11 rfl rfl 0 (by decide) (htb _ tg_234) (fun _ h9 => h9) rfl dX3_step_170 ?_
      refine lv_aload_n hx hb dX3_step_173 rfl (lv_at hl 1 rfl) ?_
      refine va_get (ci := 1) (v := .int (pX2_x v0_21)) (C := RX2) (T := TX2) (N := 12) hx hb htb uX2 hown hK.1 hP 0 rfl rfl 7 (by decide) (htb _ tg_191) (fun _ h9 => h9) rfl dX3_step_174 ?_
      refine lv_aload_n hx hb dX3_step_177 rfl (lv_at hl 1 rfl) ?_
      refine va_get (ci := 1) (v := .int (pX2_y v0_21)) (C := RX2) (T := TX2) (N := 12) hx hb htb uX2 hown hK.1 hP 0 rfl rfl 8 (by decide) (htb _ tg_194) (fun _ h9 => h9) rfl dX3_step_178 ?_
      refine lv_aload_n hx hb dX3_step_181 rfl (lv_at hl 1 rfl) ?_
      refine va_get (ci := 1) (v := .int (pX2_count v0_21)) (C := RX2) (T := TX2) (N := 12) hx hb htb uX2 hown hK.1 hP 0 rfl rfl 5 (by decide) (htb _ tg_184) (fun _ h9 => h9) rfl dX3_step_182 ?_
      obtain ⟨r_22, hr_22, hg⟩ := g_bd hg
      refine cc_i (va_runV (C := RX10) (As := [.int (pX2_x v0_21), .int (pX2_y v0_21), .int (pX2_count v0_21)]) (rest := [.ref a0]) ⟨hx, hb, hml, hown, htb⟩ (k_X10_isFree a7 a7_own a7_bodyX a7_bodyY a7_bodyWayX a7_bodyWayY a7_bodyMark v7 (pX2_x v0_21) (pX2_y v0_21) (pX2_count v0_21) r_22 hr_22) (cw_V 3 htb tg_741 tg_3 tg_817 tg_739 tg_740 rfl rfl (by decide +kernel) ⟨Nat.le_of_ble_eq_true rfl, Nat.le_of_ble_eq_true rfl⟩) ⟨PC.blind, va_recv hK.1 hP (ci := 9) (q0 := 19) rfl rfl, PC.pre hK hT hP hD hS hA [19, 20, 21, 22, 23, 24, 25] rfl (by decide)⟩ rfl rfl hl.1 rfl (lv_room (Nat.le_of_ble_eq_true rfl)) dX3_step_185 ⟨Nat.le_of_ble_eq_true rfl, Nat.le_of_ble_eq_true rfl⟩) hP hD hS hA [19, 20, 21, 22, 23, 24, 25] [0, 1, 2, 3, 4, 5, 6, 7, 8, 9, 10, 11, 12, 13, 14, 15, 16, 17, 18] rfl rfl (by decide) (by decide) (fun r9 u9 H locs hw hP hD hS => ?_)
      have hw := hw.symm
      subst hw
      have hP : va_P D vwCl (WS_X3_step cI cJ cZ cY a0 a0_rows a0_takes a1 a2 r2_trial a3 a3_stack a3_letters a4 a4_view a4_rays a5 a5_codes r5_reads r5_flight a6 a6_lensSide a6_lensWidth a6_pairA a6_pairB a6_pairDelay a7 a7_own a7_bodyX a7_bodyY a7_bodyWayX a7_bodyWayY a7_bodyMark n1 v0_21 v1 v2 r_5 r_4.2 v5 v6 v7) H := hP.sub [0, 1, 2, 3, 4, 5, 6, 7, 8, 9, 10, 11, 12, 13, 14, 15, 16, 17, 18, 19, 20, 21, 22, 23, 24, 25] rfl
      have hD : va_D A (WS_X3_step cI cJ cZ cY a0 a0_rows a0_takes a1 a2 r2_trial a3 a3_stack a3_letters a4 a4_view a4_rays a5 a5_codes r5_reads r5_flight a6 a6_lensSide a6_lensWidth a6_pairA a6_pairB a6_pairDelay a7 a7_own a7_bodyX a7_bodyY a7_bodyWayX a7_bodyWayY a7_bodyMark n1 v0_21 v1 v2 r_5 r_4.2 v5 v6 v7) := hD.sub [0, 1, 2, 3, 4, 5, 6, 7, 8, 9, 10, 11, 12, 13, 14, 15, 16, 17, 18, 19, 20, 21, 22, 23, 24, 25] (by decide) rfl
      refine lv_if_ne (tgt := 195) hx hb dX3_step_188 (by decide) (fun c_23 => ?_) (fun c_23 => ?_)
      · have hg := g_if hg c_23
        refine lv_iconst (v := 0) hx hb dX3_step_195 (by decide) ?_
        exact b_196 0 v0_21 r_5 r_4.2 H locs ls hP hD hS (lv_sub hl [] rfl) hg
      · have hg := g_it hg c_23
        refine lv_iconst (v := 1) hx hb dX3_step_191 (by decide) ?_
        refine lv_goto (tgt := 196) hx hb dX3_step_192 (by decide) ?_
        exact b_196 1 v0_21 r_5 r_4.2 H locs ls hP hD hS (lv_sub hl [] rfl) hg
    · have hg := g_if hg c_8
      refine lv_aload_n hx hb dX3_step_51 rfl (lv_at hl 1 rfl) ?_
      refine lv_iconst (v := 1) hx hb dX3_step_52 (by decide) ?_
      refine va_put (ci := 1) (v := .int 1) (ty := .boolean) (C := RX2) (T := TX2) (N := 12) hx hb htb uX2 tyX2 tyX2_ok nmX2 hown hK.1 hP hD hS 0 rfl rfl 4 (by decide) (htb _ tg_180) (fun _ h9 => h9) rfl (by decide +kernel) rfl rfl (Nat.le_of_ble_eq_true rfl) dX3_step_53 (fun H locs hP hD hS => ?_)
      obtain ⟨v0_24, ev0_24⟩ : ∃ z, z = sX2_rested v0_7 1 := ⟨_, rfl⟩
      have hP : va_P D vwCl (WS_X3_step cI cJ cZ cY a0 a0_rows a0_takes a1 a2 r2_trial a3 a3_stack a3_letters a4 a4_view a4_rays a5 a5_codes r5_reads r5_flight a6 a6_lensSide a6_lensWidth a6_pairA a6_pairB a6_pairDelay a7 a7_own a7_bodyX a7_bodyY a7_bodyWayX a7_bodyWayY a7_bodyMark n1 v0_24 v1 v2 r_5 r_4.2 v5 v6 v7) H := by rw [ev0_24]; exact hP
      have hD : va_D A (WS_X3_step cI cJ cZ cY a0 a0_rows a0_takes a1 a2 r2_trial a3 a3_stack a3_letters a4 a4_view a4_rays a5 a5_codes r5_reads r5_flight a6 a6_lensSide a6_lensWidth a6_pairA a6_pairB a6_pairDelay a7 a7_own a7_bodyX a7_bodyY a7_bodyWayX a7_bodyWayY a7_bodyMark n1 v0_24 v1 v2 r_5 r_4.2 v5 v6 v7) := by rw [ev0_24]; exact hD
      have hg := g_lte hg v0_24 ev0_24
      refine lv_iconst (v := 0) hx hb dX3_step_56 (by decide) ?_
      have hg := Option.some.inj hg
      rw [hQ]
      exact W.zret (v := 0) (ty := .boolean) hx hb hr rfl (fun t ht hW => ⟨⟨0, (v0_24, r_5, r_4.2), rfl, ⟨by rw [← hg], by rw [← hg]⟩, by rw [ht]; exact hP, hD⟩, hS.F ht⟩) hS.2.2 dX3_step_57
  · have hg := g_if hg c_3
    refine lv_iconst (v := 0) hx hb dX3_step_9 (by decide) ?_
    have hg := Option.some.inj hg
    rw [hQ]
    exact W.zret (v := 0) (ty := .boolean) hx hb hr rfl (fun t ht hW => ⟨⟨0, (v0, v3, v4), rfl, ⟨by rw [← hg], by rw [← hg]⟩, by rw [ht]; exact hP, hD⟩, hS.F ht⟩) hS.2.2 dX3_step_10

/-! ManyEyes$Flyer.goOn(LManyEyes$Flight;[II)V -/
def WS_X3_goOn (cI cJ cZ cY : ClassId) (a0 a0_rows a0_takes a1 a2 r2_trial a3 a3_stack a3_letters a4 a4_view a4_rays a5 a5_codes r5_reads r5_flight a6 a6_lensSide a6_lensWidth a6_pairA a6_pairB a6_pairDelay a7 a7_own a7_bodyX a7_bodyY a7_bodyWayX a7_bodyWayY a7_bodyMark n1 : Nat) (v0 : BX2) (v1 : (Nat → Int32)) (v2 : BX3) (v3 : BX6) (v4 : BX7) (v5 : BX8) (v6 : BX1) (v7 : BX10) : va_W := (GX2 cI cJ cZ cY a0 a0_rows a0_takes v0) ++ ((GA cI a1 n1 v1) ++ ((GX3 cI cJ cZ cY a2 a5 a4 a3 r2_trial v2) ++ ((GX6 cI cJ cZ cY a3 a3_stack a3_letters a6 v3) ++ ((GX7 cI cJ cZ cY a4 a4_view a4_rays a7 v4) ++ ((GX8 cI cJ cZ cY a5 a5_codes a7 a6 r5_reads r5_flight v5) ++ ((GX1 cI cJ cZ cY a6 a6_lensSide a6_lensWidth a6_pairA a6_pairB a6_pairDelay v6) ++ ((GX10 cI cJ cZ cY a7 a7_own a7_bodyX a7_bodyY a7_bodyWayX a7_bodyWayY a7_bodyMark v7))))))))
def f_X3_goOn_b3B (n1 : Nat) (v1 : (Nat → Int32)) (v2 : BX3) (v5 : BX8) (v6 : BX1) (v7 : BX10) (J3 : Int32 × Int32 × BX2 × BX6 × BX7 → Option (BX2 × BX6 × BX7)) (x3 : Int32) (x4 : Int32) (v0 : BX2) (v3 : BX6) (v4 : BX7) : Option (BX2 × BX6 × BX7) := if (x3 : Int32) ≤ x4 then (some (v0, v3, v4)) else (if ((pX2_hit v0) : Int32) = 0 then (if ((pX2_rested v0) : Int32) = 0 then ((f_X3_step n1 v0 v1 v2 v3 v4 v5 v6 v7).bind (fun r_4 => g_lt (x4 + 1 : Int32) (fun x4_5 => J3 (x3, x4_5, r_4.2.1, r_4.2.2.1, r_4.2.2.2)))) else (some (v0, v3, v4))) else (some (v0, v3, v4)))
def f_X3_goOn_b3 (n1 : Nat) (v1 : (Nat → Int32)) (v2 : BX3) (v5 : BX8) (v6 : BX1) (v7 : BX10) : Nat → (Int32 × Int32 × BX2 × BX6 × BX7) → Option (BX2 × BX6 × BX7) := g_lp (fun J z => f_X3_goOn_b3B n1 v1 v2 v5 v6 v7 J z.1 z.2.1 z.2.2.1 z.2.2.2.1 z.2.2.2.2)
def f_X3_goOn (n1 : Nat) (v0 : BX2) (v1 : (Nat → Int32)) (v2 : BX3) (v3 : BX6) (v4 : BX7) (v5 : BX8) (v6 : BX1) (v7 : BX10) (p2 : Int32) : Option (BX2 × BX6 × BX7) := f_X3_goOn_b3 n1 v1 v2 v5 v6 v7 fU (p2, 0, v0, v3, v4)
abbrev rm_X3_goOn : Room := { frames := 5, cells := 0, slots := 0, locals := 135 }
set_option maxHeartbeats 4000000 in
set_option maxRecDepth 100000 in
theorem k_X3_goOn {l : Launch} {D : va_G} {cI cJ cZ cY : ClassId} {tX tY : Nat} {sz : Nat} (a0 a0_rows a0_takes a1 a2 r2_trial a3 a3_stack a3_letters a4 a4_view a4_rays a5 a5_codes r5_reads r5_flight a6 a6_lensSide a6_lensWidth a6_pairA a6_pairB a6_pairDelay a7 a7_own a7_bodyX a7_bodyY a7_bodyWayX a7_bodyWayY a7_bodyMark n1 : Nat) (v0 : BX2) (v1 : (Nat → Int32)) (v2 : BX3) (v3 : BX6) (v4 : BX7) (v5 : BX8) (v6 : BX1) (v7 : BX10) (p2 : Int32) (res : BX2 × BX6 × BX7) (hg : f_X3_goOn n1 v0 v1 v2 v3 v4 v5 v6 v7 p2 = some res) : Met l yX3_goOn (Cond.code yX3_goOn cX3_goOn 5 none :: TB) rm_X3_goOn (PC D cI cJ cZ cY tX tY [.ref a2, .ref a0, .ref a1, .int p2] (WS_X3_goOn cI cJ cZ cY a0 a0_rows a0_takes a1 a2 r2_trial a3 a3_stack a3_letters a4 a4_view a4_rays a5 a5_codes r5_reads r5_flight a6 a6_lensSide a6_lensWidth a6_pairA a6_pairB a6_pairDelay a7 a7_own a7_bodyX a7_bodyY a7_bodyWayX a7_bodyWayY a7_bodyMark n1 v0 v1 v2 v3 v4 v5 v6 v7) sz) (va_Qv (fun (u : BX2 × BX6 × BX7) => u = res) (BC D (fun u : BX2 × BX6 × BX7 => WS_X3_goOn cI cJ cZ cY a0 a0_rows a0_takes a1 a2 r2_trial a3 a3_stack a3_letters a4 a4_view a4_rays a5 a5_codes r5_reads r5_flight a6 a6_lensSide a6_lensWidth a6_pairA a6_pairB a6_pairDelay a7 a7_own a7_bodyX a7_bodyY a7_bodyWayX a7_bodyWayY a7_bodyMark n1 u.1 v1 v2 u.2.1 u.2.2 v5 v6 v7) (va_A (WS_X3_goOn cI cJ cZ cY a0 a0_rows a0_takes a1 a2 r2_trial a3 a3_stack a3_letters a4 a4_view a4_rays a5 a5_codes r5_reads r5_flight a6 a6_lensSide a6_lensWidth a6_pairA a6_pairB a6_pairDelay a7 a7_own a7_bodyX a7_bodyY a7_bodyWayX a7_bodyWayY a7_bodyMark n1 v0 v1 v2 v3 v4 v5 v6 v7) sz)) (va_A (WS_X3_goOn cI cJ cZ cY a0 a0_rows a0_takes a1 a2 r2_trial a3 a3_stack a3_letters a4 a4_view a4_rays a5 a5_codes r5_reads r5_flight a6 a6_lensSide a6_lensWidth a6_pairA a6_pairB a6_pairDelay a7 a7_own a7_bodyX a7_bodyY a7_bodyWayX a7_bodyWayY a7_bodyMark n1 v0 v1 v2 v3 v4 v5 v6 v7) sz)) 0 0 (va_A (WS_X3_goOn cI cJ cZ cY a0 a0_rows a0_takes a1 a2 r2_trial a3 a3_stack a3_letters a4 a4_view a4_rays a5 a5_codes r5_reads r5_flight a6 a6_lensSide a6_lensWidth a6_pairA a6_pairB a6_pairDelay a7 a7_own a7_bodyX a7_bodyY a7_bodyWayX a7_bodyWayY a7_bodyMark n1 v0 v1 v2 v3 v4 v5 v6 v7) sz) := by
  refine Met.ofW (cc := cX3_goOn) (maxL := 5) (ret := none) (by decide) rfl ?_
  intro p e s m args below meth c s₁ B hml hv
  obtain ⟨hargs, hsz, hP, hK, hD0, hT⟩ := hv
  have hx := B.exec
  have hb := B.bytes
  have hr := B.returns
  have htb : ∀ w ∈ TB, w.before args s = true := fun w h => atoms_spec (ws := Cond.code yX3_goOn cX3_goOn 5 none :: TB) B.pre w (List.mem_cons_of_mem _ h)
  have hown : s.vm.findClass "ManyEyes$Flyer" = some m.cls := findClass_of_methodNamed B.named
  have hlocks := B.notSynchronized
  subst hsz
  have hD := hD0.self (sz := s.heap.size)
  generalize hAe : va_A (WS_X3_goOn cI cJ cZ cY a0 a0_rows a0_takes a1 a2 r2_trial a3 a3_stack a3_letters a4 a4_view a4_rays a5 a5_codes r5_reads r5_flight a6 a6_lensSide a6_lensWidth a6_pairA a6_pairB a6_pairDelay a7 a7_own a7_bodyX a7_bodyY a7_bodyWayX a7_bodyWayY a7_bodyMark n1 v0 v1 v2 v3 v4 v5 v6 v7) s.heap.size = A at hD hT ⊢
  have hA : ∀ q : Nat, s.heap.size ≤ q → A q := fun q h => by rw [← hAe]; exact Or.inr h
  have hS : va_S A s.heap s.heap [] := va_S.rf
  have hl := lv_entry ([.ref a2, .ref a0, .ref a1, .int p2]) (n := 5) (Nat.le_of_ble_eq_true rfl)
  have he : entryFrame m args 5 = F0 m 0 (lg_sl ([.ref a2, .ref a0, .ref a1, .int p2]) ++ List.replicate (5 - (lg_sl ([.ref a2, .ref a0, .ref a1, .int p2])).length) Slot.unset).toArray [] := by rw [hargs, lg_entry_eq]
  rw [he]
  generalize (lg_sl ([.ref a2, .ref a0, .ref a1, .int p2]) ++ List.replicate (5 - (lg_sl ([.ref a2, .ref a0, .ref a1, .int p2])).length) Slot.unset).toArray = ls at hl ⊢
  have hl : lv_has ls 5 [(0, .ref a2), (1, .ref a0), (2, .ref a1), (3, .int p2)] := hl
  show W p l e rm_X3_goOn s m args below meth c s.heap [] 0 0 _ _
  refine W.genQ (fun Q hQ => ?_)
  have b_3 : ∀ (n : Nat), ∀ (x3 : Int32) (x4 : Int32) (v0 : BX2) (v3 : BX6) (v4 : BX7) (H : Heap) (locs : List Loc) (ls : Array Slot), va_P D vwCl (WS_X3_goOn cI cJ cZ cY a0 a0_rows a0_takes a1 a2 r2_trial a3 a3_stack a3_letters a4 a4_view a4_rays a5 a5_codes r5_reads r5_flight a6 a6_lensSide a6_lensWidth a6_pairA a6_pairB a6_pairDelay a7 a7_own a7_bodyX a7_bodyY a7_bodyWayX a7_bodyWayY a7_bodyMark n1 v0 v1 v2 v3 v4 v5 v6 v7) H → va_D A (WS_X3_goOn cI cJ cZ cY a0 a0_rows a0_takes a1 a2 r2_trial a3 a3_stack a3_letters a4 a4_view a4_rays a5 a5_codes r5_reads r5_flight a6 a6_lensSide a6_lensWidth a6_pairA a6_pairB a6_pairDelay a7 a7_own a7_bodyX a7_bodyY a7_bodyWayX a7_bodyWayY a7_bodyMark n1 v0 v1 v2 v3 v4 v5 v6 v7) → va_S A s.heap H locs → lv_has ls 5 [(0, .ref a2), (1, .ref a0), (2, .ref a1), (3, .int x3), (4, .int x4)] → f_X3_goOn_b3 n1 v1 v2 v5 v6 v7 n (x3, x4, v0, v3, v4) = some res → W p l e rm_X3_goOn s m args below meth c H locs 0 0 Q (F0 m 3 ls []) := by
    intro n
    induction n with
    | zero =>
      intro x3 x4 v0 v3 v4 H locs ls hP hD hS hl hg
      exact (g_lp0 hg).elim
    | succ n ih =>
      intro x3 x4 v0 v3 v4 H locs ls hP hD hS hl hg
      have hg : f_X3_goOn_b3B n1 v1 v2 v5 v6 v7 (f_X3_goOn_b3 n1 v1 v2 v5 v6 v7 n) x3 x4 v0 v3 v4 = some res := hg
      unfold f_X3_goOn_b3B at hg
      refine lv_iload hx hb dX3_goOn_3 (lv_at hl 4 rfl) ?_
      refine lv_iload_n hx hb dX3_goOn_5 rfl (lv_at hl 3 rfl) ?_
      refine lv_icmp_ge (tgt := 36) hx hb dX3_goOn_6 (by decide) (fun c_1 => ?_) (fun c_1 => ?_)
      · have hg := g_it hg c_1
        have hg := Option.some.inj hg
        rw [hQ]
        exact W.vret hx hb hr (fun t ht hW => ⟨⟨(v0, v3, v4), rfl, hg, by rw [ht]; exact hP, hD⟩, hS.F ht⟩) hS.2.2 dX3_goOn_36
      · have hg := g_if hg c_1
        refine lv_aload_n hx hb dX3_goOn_9 rfl (lv_at hl 1 rfl) ?_
        refine va_get (ci := 1) (v := .int (pX2_hit v0)) (C := RX2) (T := TX2) (N := 12) hx hb htb uX2 hown hK.1 hP 0 rfl rfl 3 (by decide) (htb _ tg_177) (fun _ h9 => h9) rfl dX3_goOn_10 ?_
        refine lv_if_ne (tgt := 36) hx hb dX3_goOn_13 (by decide) (fun c_2 => ?_) (fun c_2 => ?_)
        · have hg := g_if hg c_2
          have hg := Option.some.inj hg
          rw [hQ]
          exact W.vret hx hb hr (fun t ht hW => ⟨⟨(v0, v3, v4), rfl, hg, by rw [ht]; exact hP, hD⟩, hS.F ht⟩) hS.2.2 dX3_goOn_36
        · have hg := g_it hg c_2
          refine lv_aload_n hx hb dX3_goOn_16 rfl (lv_at hl 1 rfl) ?_
          refine va_get (ci := 1) (v := .int (pX2_rested v0)) (C := RX2) (T := TX2) (N := 12) hx hb htb uX2 hown hK.1 hP 0 rfl rfl 4 (by decide) (htb _ tg_180) (fun _ h9 => h9) rfl dX3_goOn_17 ?_
          refine lv_if_ne (tgt := 36) hx hb dX3_goOn_20 (by decide) (fun c_3 => ?_) (fun c_3 => ?_)
          · have hg := g_if hg c_3
            have hg := Option.some.inj hg
            rw [hQ]
            exact W.vret hx hb hr (fun t ht hW => ⟨⟨(v0, v3, v4), rfl, hg, by rw [ht]; exact hP, hD⟩, hS.F ht⟩) hS.2.2 dX3_goOn_36
          · have hg := g_it hg c_3
            refine lv_aload_n hx hb dX3_goOn_23 rfl (lv_at hl 0 rfl) ?_
            refine lv_aload_n hx hb dX3_goOn_24 rfl (lv_at hl 1 rfl) ?_
            refine lv_aload_n hx hb dX3_goOn_25 rfl (lv_at hl 2 rfl) ?_
            obtain ⟨r_4, hr_4, hg⟩ := g_bd hg
            refine cc_i (va_runV (C := RX3) (As := [.ref a0, .ref a1]) (rest := []) ⟨hx, hb, hml, hown, htb⟩ (k_X3_step a0 a0_rows a0_takes a1 a2 r2_trial a3 a3_stack a3_letters a4 a4_view a4_rays a5 a5_codes r5_reads r5_flight a6 a6_lensSide a6_lensWidth a6_pairA a6_pairB a6_pairDelay a7 a7_own a7_bodyX a7_bodyY a7_bodyWayX a7_bodyWayY a7_bodyMark n1 v0 v1 v2 v3 v4 v5 v6 v7 r_4 hr_4) (cw_V 2 htb tg_760 tg_9 tg_757 tg_759 ts_21 rfl rfl (by decide +kernel) ⟨Nat.le_of_ble_eq_true rfl, Nat.le_of_ble_eq_true rfl⟩) ⟨PC.blind, va_recv hK.1 hP (ci := 2) (q0 := 4) rfl rfl, PC.pre hK hT hP hD hS hA [0, 1, 2, 3, 4, 5, 6, 7, 8, 9, 10, 11, 12, 13, 14, 15, 16, 17, 18, 19, 20, 21, 22, 23, 24, 25] rfl (by decide)⟩ rfl rfl hl.1 rfl (lv_room (Nat.le_of_ble_eq_true rfl)) dX3_goOn_26 ⟨Nat.le_of_ble_eq_true rfl, Nat.le_of_ble_eq_true rfl⟩) hP hD hS hA [0, 1, 2, 3, 4, 5, 6, 7, 8, 9, 10, 11, 12, 13, 14, 15, 16, 17, 18, 19, 20, 21, 22, 23, 24, 25] [] rfl rfl (by decide) (by decide) (fun r9 u9 H locs hw hP hD hS => ?_)
            obtain ⟨rfl, rfl⟩ := hw
            have hP : va_P D vwCl (WS_X3_goOn cI cJ cZ cY a0 a0_rows a0_takes a1 a2 r2_trial a3 a3_stack a3_letters a4 a4_view a4_rays a5 a5_codes r5_reads r5_flight a6 a6_lensSide a6_lensWidth a6_pairA a6_pairB a6_pairDelay a7 a7_own a7_bodyX a7_bodyY a7_bodyWayX a7_bodyWayY a7_bodyMark n1 r_4.2.1 v1 v2 r_4.2.2.1 r_4.2.2.2 v5 v6 v7) H := hP.sub [0, 1, 2, 3, 4, 5, 6, 7, 8, 9, 10, 11, 12, 13, 14, 15, 16, 17, 18, 19, 20, 21, 22, 23, 24, 25] rfl
            have hD : va_D A (WS_X3_goOn cI cJ cZ cY a0 a0_rows a0_takes a1 a2 r2_trial a3 a3_stack a3_letters a4 a4_view a4_rays a5 a5_codes r5_reads r5_flight a6 a6_lensSide a6_lensWidth a6_pairA a6_pairB a6_pairDelay a7 a7_own a7_bodyX a7_bodyY a7_bodyWayX a7_bodyWayY a7_bodyMark n1 r_4.2.1 v1 v2 r_4.2.2.1 r_4.2.2.2 v5 v6 v7) := hD.sub [0, 1, 2, 3, 4, 5, 6, 7, 8, 9, 10, 11, 12, 13, 14, 15, 16, 17, 18, 19, 20, 21, 22, 23, 24, 25] (by decide) rfl
            refine lv_pop hx hb dX3_goOn_29 rfl ?_
            obtain ⟨x4_5, ex4_5⟩ : ∃ z : Int32, z = x4 + 1 := ⟨_, rfl⟩
            have hg := g_lte hg x4_5 ex4_5
            refine lv_iinc (v := x4_5) (lv' := [(4, .int x4_5), (0, .ref a2), (1, .ref a0), (2, .ref a1), (3, .int x3)]) hx hb dX3_goOn_30 hl (k := 4) rfl (by rw [ex4_5]; rfl) (by decide) rfl (fun ls hl => ?_)
            refine lv_goto (tgt := 3) hx hb dX3_goOn_33 (by decide) ?_
            exact ih x3 x4_5 r_4.2.1 r_4.2.2.1 r_4.2.2.2 H locs ls hP hD hS (lv_sub hl [1, 2, 3, 4, 0] rfl) hg
  generalize hHe : s.heap = H at hP ⊢
  have hS : va_S A s.heap H [] := by rw [← hHe]; exact va_S.rf
  generalize ([] : List Loc) = locs at hS ⊢
  unfold f_X3_goOn at hg
  refine lv_iconst (v := 0) hx hb dX3_goOn_0 (by decide) ?_
  refine lv_istore (lv' := [(4, .int 0), (0, .ref a2), (1, .ref a0), (2, .ref a1), (3, .int p2)]) hx hb dX3_goOn_1 hl (by decide) rfl (fun ls hl => ?_)
  exact b_3 fU p2 0 v0 v3 v4 H locs ls hP hD hS (lv_sub hl [1, 2, 3, 4, 0] rfl) hg
