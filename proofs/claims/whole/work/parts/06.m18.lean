/-! ManyEyes$World.copyFrom(LManyEyes$World;)V -/
def WS_X10_copyFrom (cI cJ cZ cY : ClassId) (a0 a0_own a0_bodyX a0_bodyY a0_bodyWayX a0_bodyWayY a0_bodyMark a1 a1_own a1_bodyX a1_bodyY a1_bodyWayX a1_bodyWayY a1_bodyMark : Nat) (v0 : BX10) (v1 : BX10) : va_W := (GX10 cI cJ cZ cY a0 a0_own a0_bodyX a0_bodyY a0_bodyWayX a0_bodyWayY a0_bodyMark v0) ++ ((GX10 cI cJ cZ cY a1 a1_own a1_bodyX a1_bodyY a1_bodyWayX a1_bodyWayY a1_bodyMark v1))
def f_X10_copyFrom (v0 : BX10) (v1 : BX10) : Option (BX10) := (f_X11_copyRow (pX10_n v0) (pX10_n v1) (pX10_own v0) (pX10_own v1)).bind (fun r_1 => (f_X11_copyRow 6 6 (pX10_bodyX v0) (pX10_bodyX (sX10_own v1 r_1))).bind (fun r_2 => (f_X11_copyRow 6 6 (pX10_bodyY v0) (pX10_bodyY (sX10_bodyX (sX10_own v1 r_1) r_2))).bind (fun r_3 => (f_X11_copyRow 6 6 (pX10_bodyWayX v0) (pX10_bodyWayX (sX10_bodyY (sX10_bodyX (sX10_own v1 r_1) r_2) r_3))).bind (fun r_4 => (f_X11_copyRow 6 6 (pX10_bodyWayY v0) (pX10_bodyWayY (sX10_bodyWayX (sX10_bodyY (sX10_bodyX (sX10_own v1 r_1) r_2) r_3) r_4))).bind (fun r_5 => (f_X11_copyRow 6 6 (pX10_bodyMark v0) (pX10_bodyMark (sX10_bodyWayY (sX10_bodyWayX (sX10_bodyY (sX10_bodyX (sX10_own v1 r_1) r_2) r_3) r_4) r_5))).bind (fun r_6 => g_lt ((pX10_bodies v0) : Int32) (fun x_7 => g_lt (sX10_bodies (sX10_bodyMark (sX10_bodyWayY (sX10_bodyWayX (sX10_bodyY (sX10_bodyX (sX10_own v1 r_1) r_2) r_3) r_4) r_5) r_6) x_7) (fun v1_8 => some (v1_8)))))))))
abbrev rm_X10_copyFrom : Room := { frames := 2, cells := 0, slots := 0, locals := 85 }
set_option maxHeartbeats 4000000 in
set_option maxRecDepth 100000 in
theorem k_X10_copyFrom {l : Launch} {D : va_G} {cI cJ cZ cY : ClassId} {tX tY : Nat} {sz : Nat} (a0 a0_own a0_bodyX a0_bodyY a0_bodyWayX a0_bodyWayY a0_bodyMark a1 a1_own a1_bodyX a1_bodyY a1_bodyWayX a1_bodyWayY a1_bodyMark : Nat) (v0 : BX10) (v1 : BX10) (res : BX10) (hg : f_X10_copyFrom v0 v1 = some res) : Met l yX10_copyFrom (Cond.code yX10_copyFrom cX10_copyFrom 2 none :: TB) rm_X10_copyFrom (PC D cI cJ cZ cY tX tY [.ref a1, .ref a0] (WS_X10_copyFrom cI cJ cZ cY a0 a0_own a0_bodyX a0_bodyY a0_bodyWayX a0_bodyWayY a0_bodyMark a1 a1_own a1_bodyX a1_bodyY a1_bodyWayX a1_bodyWayY a1_bodyMark v0 v1) sz) (va_Qv (fun (u : BX10) => u = res) (BC D (fun u : BX10 => WS_X10_copyFrom cI cJ cZ cY a0 a0_own a0_bodyX a0_bodyY a0_bodyWayX a0_bodyWayY a0_bodyMark a1 a1_own a1_bodyX a1_bodyY a1_bodyWayX a1_bodyWayY a1_bodyMark v0 u) (va_A (WS_X10_copyFrom cI cJ cZ cY a0 a0_own a0_bodyX a0_bodyY a0_bodyWayX a0_bodyWayY a0_bodyMark a1 a1_own a1_bodyX a1_bodyY a1_bodyWayX a1_bodyWayY a1_bodyMark v0 v1) sz)) (va_A (WS_X10_copyFrom cI cJ cZ cY a0 a0_own a0_bodyX a0_bodyY a0_bodyWayX a0_bodyWayY a0_bodyMark a1 a1_own a1_bodyX a1_bodyY a1_bodyWayX a1_bodyWayY a1_bodyMark v0 v1) sz)) 0 0 (va_A (WS_X10_copyFrom cI cJ cZ cY a0 a0_own a0_bodyX a0_bodyY a0_bodyWayX a0_bodyWayY a0_bodyMark a1 a1_own a1_bodyX a1_bodyY a1_bodyWayX a1_bodyWayY a1_bodyMark v0 v1) sz) := by
  refine Met.ofW (cc := cX10_copyFrom) (maxL := 2) (ret := none) (by decide) rfl ?_
  intro p e s m args below meth c s₁ B hml hv
  obtain ⟨hargs, hsz, hP, hK, hD0, hT⟩ := hv
  have hx := B.exec
  have hb := B.bytes
  have hr := B.returns
  have htb : ∀ w ∈ TB, w.before args s = true := fun w h => atoms_spec (ws := Cond.code yX10_copyFrom cX10_copyFrom 2 none :: TB) B.pre w (List.mem_cons_of_mem _ h)
  have hown : s.vm.findClass "ManyEyes$World" = some m.cls := findClass_of_methodNamed B.named
  have hlocks := B.notSynchronized
  subst hsz
  have hD := hD0.self (sz := s.heap.size)
  generalize hAe : va_A (WS_X10_copyFrom cI cJ cZ cY a0 a0_own a0_bodyX a0_bodyY a0_bodyWayX a0_bodyWayY a0_bodyMark a1 a1_own a1_bodyX a1_bodyY a1_bodyWayX a1_bodyWayY a1_bodyMark v0 v1) s.heap.size = A at hD hT ⊢
  have hA : ∀ q : Nat, s.heap.size ≤ q → A q := fun q h => by rw [← hAe]; exact Or.inr h
  have hS : va_S A s.heap s.heap [] := va_S.rf
  have hl := lv_entry ([.ref a1, .ref a0]) (n := 2) (Nat.le_of_ble_eq_true rfl)
  have he : entryFrame m args 2 = F0 m 0 (lg_sl ([.ref a1, .ref a0]) ++ List.replicate (2 - (lg_sl ([.ref a1, .ref a0])).length) Slot.unset).toArray [] := by rw [hargs, lg_entry_eq]
  rw [he]
  generalize (lg_sl ([.ref a1, .ref a0]) ++ List.replicate (2 - (lg_sl ([.ref a1, .ref a0])).length) Slot.unset).toArray = ls at hl ⊢
  have hl : lv_has ls 2 [(0, .ref a1), (1, .ref a0)] := hl
  show W p l e rm_X10_copyFrom s m args below meth c s.heap [] 0 0 _ _
  refine W.genQ (fun Q hQ => ?_)
  generalize hHe : s.heap = H at hP ⊢
  have hS : va_S A s.heap H [] := by rw [← hHe]; exact va_S.rf
  generalize ([] : List Loc) = locs at hS ⊢
  unfold f_X10_copyFrom at hg
  refine lv_aload_n hx hb dX10_copyFrom_0 rfl (lv_at hl 1 rfl) ?_
  refine va_get (ci := 9) (v := .ref a0_own) (C := RX10) (T := TX10) (N := 9) hx hb htb uX10 hown hK.1 hP 0 rfl rfl 2 (by decide) (htb _ tg_50) (fun _ h9 => h9) rfl dX10_copyFrom_1 ?_
  refine lv_aload_n hx hb dX10_copyFrom_4 rfl (lv_at hl 0 rfl) ?_
  refine va_get (ci := 9) (v := .ref a1_own) (C := RX10) (T := TX10) (N := 9) hx hb htb uX10 hown hK.1 hP 7 rfl rfl 2 (by decide) (htb _ tg_50) (fun _ h9 => h9) rfl dX10_copyFrom_5 ?_
  obtain ⟨r_1, hr_1, hg⟩ := g_bd hg
  refine cc_v (va_runSN (As := [.ref a0_own, .ref a1_own]) (rest := []) ⟨hx, hb, hml, hown, htb⟩ (k_X11_copyRow a0_own a1_own (pX10_n v0) (pX10_n v1) (pX10_own v0) (pX10_own v1) r_1 hr_1) (cw_SN 2 htb tg_895 tg_1 (hK.2.1 _ nw_893) tg_894 rfl rfl (by decide +kernel) ⟨Nat.le_of_ble_eq_true rfl, Nat.le_of_ble_eq_true rfl⟩) ⟨PC.blind, PC.pre hK hT hP hD hS hA [1, 8] rfl (by decide)⟩ rfl rfl hl.1 rfl (lv_room (Nat.le_of_ble_eq_true rfl)) dX10_copyFrom_8 ⟨Nat.le_of_ble_eq_true rfl, Nat.le_of_ble_eq_true rfl⟩) hP hD hS hA [1, 8] [0, 2, 3, 4, 5, 6, 7, 9, 10, 11, 12, 13] rfl rfl (by decide) (by decide) (fun u9 H locs hw hP hD hS => ?_)
  have hw := hw.symm
  subst hw
  have hP : va_P D vwCl (WS_X10_copyFrom cI cJ cZ cY a0 a0_own a0_bodyX a0_bodyY a0_bodyWayX a0_bodyWayY a0_bodyMark a1 a1_own a1_bodyX a1_bodyY a1_bodyWayX a1_bodyWayY a1_bodyMark v0 (sX10_own v1 r_1)) H := hP.sub [0, 12, 1, 2, 3, 4, 5, 6, 13, 7, 8, 9, 10, 11] rfl
  have hD : va_D A (WS_X10_copyFrom cI cJ cZ cY a0 a0_own a0_bodyX a0_bodyY a0_bodyWayX a0_bodyWayY a0_bodyMark a1 a1_own a1_bodyX a1_bodyY a1_bodyWayX a1_bodyWayY a1_bodyMark v0 (sX10_own v1 r_1)) := hD.sub [0, 12, 1, 2, 3, 4, 5, 6, 13, 7, 8, 9, 10, 11] (by decide) rfl
  refine lv_aload_n hx hb dX10_copyFrom_11 rfl (lv_at hl 1 rfl) ?_
  refine va_get (ci := 9) (v := .ref a0_bodyX) (C := RX10) (T := TX10) (N := 9) hx hb htb uX10 hown hK.1 hP 0 rfl rfl 3 (by decide) (htb _ tg_52) (fun _ h9 => h9) rfl dX10_copyFrom_12 ?_
  refine lv_aload_n hx hb dX10_copyFrom_15 rfl (lv_at hl 0 rfl) ?_
  refine va_get (ci := 9) (v := .ref a1_bodyX) (C := RX10) (T := TX10) (N := 9) hx hb htb uX10 hown hK.1 hP 7 rfl rfl 3 (by decide) (htb _ tg_52) (fun _ h9 => h9) rfl dX10_copyFrom_16 ?_
  obtain ⟨r_2, hr_2, hg⟩ := g_bd hg
  refine cc_v (va_runSN (As := [.ref a0_bodyX, .ref a1_bodyX]) (rest := []) ⟨hx, hb, hml, hown, htb⟩ (k_X11_copyRow a0_bodyX a1_bodyX 6 6 (pX10_bodyX v0) (pX10_bodyX (sX10_own v1 r_1)) r_2 hr_2) (cw_SN 2 htb tg_895 tg_1 (hK.2.1 _ nw_893) tg_894 rfl rfl (by decide +kernel) ⟨Nat.le_of_ble_eq_true rfl, Nat.le_of_ble_eq_true rfl⟩) ⟨PC.blind, PC.pre hK hT hP hD hS hA [2, 9] rfl (by decide)⟩ rfl rfl hl.1 rfl (lv_room (Nat.le_of_ble_eq_true rfl)) dX10_copyFrom_19 ⟨Nat.le_of_ble_eq_true rfl, Nat.le_of_ble_eq_true rfl⟩) hP hD hS hA [2, 9] [0, 1, 3, 4, 5, 6, 7, 8, 10, 11, 12, 13] rfl rfl (by decide) (by decide) (fun u9 H locs hw hP hD hS => ?_)
  have hw := hw.symm
  subst hw
  have hP : va_P D vwCl (WS_X10_copyFrom cI cJ cZ cY a0 a0_own a0_bodyX a0_bodyY a0_bodyWayX a0_bodyWayY a0_bodyMark a1 a1_own a1_bodyX a1_bodyY a1_bodyWayX a1_bodyWayY a1_bodyMark v0 (sX10_bodyX (sX10_own v1 r_1) r_2)) H := hP.sub [0, 1, 12, 2, 3, 4, 5, 6, 7, 13, 8, 9, 10, 11] rfl
  have hD : va_D A (WS_X10_copyFrom cI cJ cZ cY a0 a0_own a0_bodyX a0_bodyY a0_bodyWayX a0_bodyWayY a0_bodyMark a1 a1_own a1_bodyX a1_bodyY a1_bodyWayX a1_bodyWayY a1_bodyMark v0 (sX10_bodyX (sX10_own v1 r_1) r_2)) := hD.sub [0, 1, 12, 2, 3, 4, 5, 6, 7, 13, 8, 9, 10, 11] (by decide) rfl
  refine lv_aload_n hx hb dX10_copyFrom_22 rfl (lv_at hl 1 rfl) ?_
  refine va_get (ci := 9) (v := .ref a0_bodyY) (C := RX10) (T := TX10) (N := 9) hx hb htb uX10 hown hK.1 hP 0 rfl rfl 4 (by decide) (htb _ tg_54) (fun _ h9 => h9) rfl dX10_copyFrom_23 ?_
  refine lv_aload_n hx hb dX10_copyFrom_26 rfl (lv_at hl 0 rfl) ?_
  refine va_get (ci := 9) (v := .ref a1_bodyY) (C := RX10) (T := TX10) (N := 9) hx hb htb uX10 hown hK.1 hP 7 rfl rfl 4 (by decide) (htb _ tg_54) (fun _ h9 => h9) rfl dX10_copyFrom_27 ?_
  obtain ⟨r_3, hr_3, hg⟩ := g_bd hg
  refine cc_v (va_runSN (As := [.ref a0_bodyY, .ref a1_bodyY]) (rest := []) ⟨hx, hb, hml, hown, htb⟩ (k_X11_copyRow a0_bodyY a1_bodyY 6 6 (pX10_bodyY v0) (pX10_bodyY (sX10_bodyX (sX10_own v1 r_1) r_2)) r_3 hr_3) (cw_SN 2 htb tg_895 tg_1 (hK.2.1 _ nw_893) tg_894 rfl rfl (by decide +kernel) ⟨Nat.le_of_ble_eq_true rfl, Nat.le_of_ble_eq_true rfl⟩) ⟨PC.blind, PC.pre hK hT hP hD hS hA [3, 10] rfl (by decide)⟩ rfl rfl hl.1 rfl (lv_room (Nat.le_of_ble_eq_true rfl)) dX10_copyFrom_30 ⟨Nat.le_of_ble_eq_true rfl, Nat.le_of_ble_eq_true rfl⟩) hP hD hS hA [3, 10] [0, 1, 2, 4, 5, 6, 7, 8, 9, 11, 12, 13] rfl rfl (by decide) (by decide) (fun u9 H locs hw hP hD hS => ?_)
  have hw := hw.symm
  subst hw
  have hP : va_P D vwCl (WS_X10_copyFrom cI cJ cZ cY a0 a0_own a0_bodyX a0_bodyY a0_bodyWayX a0_bodyWayY a0_bodyMark a1 a1_own a1_bodyX a1_bodyY a1_bodyWayX a1_bodyWayY a1_bodyMark v0 (sX10_bodyY (sX10_bodyX (sX10_own v1 r_1) r_2) r_3)) H := hP.sub [0, 1, 2, 12, 3, 4, 5, 6, 7, 8, 13, 9, 10, 11] rfl
  have hD : va_D A (WS_X10_copyFrom cI cJ cZ cY a0 a0_own a0_bodyX a0_bodyY a0_bodyWayX a0_bodyWayY a0_bodyMark a1 a1_own a1_bodyX a1_bodyY a1_bodyWayX a1_bodyWayY a1_bodyMark v0 (sX10_bodyY (sX10_bodyX (sX10_own v1 r_1) r_2) r_3)) := hD.sub [0, 1, 2, 12, 3, 4, 5, 6, 7, 8, 13, 9, 10, 11] (by decide) rfl
  refine lv_aload_n hx hb dX10_copyFrom_33 rfl (lv_at hl 1 rfl) ?_
  refine va_get (ci := 9) (v := .ref a0_bodyWayX) (C := RX10) (T := TX10) (N := 9) hx hb htb uX10 hown hK.1 hP 0 rfl rfl 5 (by decide) (htb _ tg_56) (fun _ h9 => h9) rfl dX10_copyFrom_34 ?_
  refine lv_aload_n hx hb dX10_copyFrom_37 rfl (lv_at hl 0 rfl) ?_
  refine va_get (ci := 9) (v := .ref a1_bodyWayX) (C := RX10) (T := TX10) (N := 9) hx hb htb uX10 hown hK.1 hP 7 rfl rfl 5 (by decide) (htb _ tg_56) (fun _ h9 => h9) rfl dX10_copyFrom_38 ?_
  obtain ⟨r_4, hr_4, hg⟩ := g_bd hg
  refine cc_v (va_runSN (As := [.ref a0_bodyWayX, .ref a1_bodyWayX]) (rest := []) ⟨hx, hb, hml, hown, htb⟩ (k_X11_copyRow a0_bodyWayX a1_bodyWayX 6 6 (pX10_bodyWayX v0) (pX10_bodyWayX (sX10_bodyY (sX10_bodyX (sX10_own v1 r_1) r_2) r_3)) r_4 hr_4) (cw_SN 2 htb tg_895 tg_1 (hK.2.1 _ nw_893) tg_894 rfl rfl (by decide +kernel) ⟨Nat.le_of_ble_eq_true rfl, Nat.le_of_ble_eq_true rfl⟩) ⟨PC.blind, PC.pre hK hT hP hD hS hA [4, 11] rfl (by decide)⟩ rfl rfl hl.1 rfl (lv_room (Nat.le_of_ble_eq_true rfl)) dX10_copyFrom_41 ⟨Nat.le_of_ble_eq_true rfl, Nat.le_of_ble_eq_true rfl⟩) hP hD hS hA [4, 11] [0, 1, 2, 3, 5, 6, 7, 8, 9, 10, 12, 13] rfl rfl (by decide) (by decide) (fun u9 H locs hw hP hD hS => ?_)
  have hw := hw.symm
  subst hw
  have hP : va_P D vwCl (WS_X10_copyFrom cI cJ cZ cY a0 a0_own a0_bodyX a0_bodyY a0_bodyWayX a0_bodyWayY a0_bodyMark a1 a1_own a1_bodyX a1_bodyY a1_bodyWayX a1_bodyWayY a1_bodyMark v0 (sX10_bodyWayX (sX10_bodyY (sX10_bodyX (sX10_own v1 r_1) r_2) r_3) r_4)) H := hP.sub [0, 1, 2, 3, 12, 4, 5, 6, 7, 8, 9, 13, 10, 11] rfl
  have hD : va_D A (WS_X10_copyFrom cI cJ cZ cY a0 a0_own a0_bodyX a0_bodyY a0_bodyWayX a0_bodyWayY a0_bodyMark a1 a1_own a1_bodyX a1_bodyY a1_bodyWayX a1_bodyWayY a1_bodyMark v0 (sX10_bodyWayX (sX10_bodyY (sX10_bodyX (sX10_own v1 r_1) r_2) r_3) r_4)) := hD.sub [0, 1, 2, 3, 12, 4, 5, 6, 7, 8, 9, 13, 10, 11] (by decide) rfl
  refine lv_aload_n hx hb dX10_copyFrom_44 rfl (lv_at hl 1 rfl) ?_
  refine va_get (ci := 9) (v := .ref a0_bodyWayY) (C := RX10) (T := TX10) (N := 9) hx hb htb uX10 hown hK.1 hP 0 rfl rfl 6 (by decide) (htb _ tg_58) (fun _ h9 => h9) rfl dX10_copyFrom_45 ?_
  refine lv_aload_n hx hb dX10_copyFrom_48 rfl (lv_at hl 0 rfl) ?_
  refine va_get (ci := 9) (v := .ref a1_bodyWayY) (C := RX10) (T := TX10) (N := 9) hx hb htb uX10 hown hK.1 hP 7 rfl rfl 6 (by decide) (htb _ tg_58) (fun _ h9 => h9) rfl dX10_copyFrom_49 ?_
  obtain ⟨r_5, hr_5, hg⟩ := g_bd hg
  refine cc_v (va_runSN (As := [.ref a0_bodyWayY, .ref a1_bodyWayY]) (rest := []) ⟨hx, hb, hml, hown, htb⟩ (k_X11_copyRow a0_bodyWayY a1_bodyWayY 6 6 (pX10_bodyWayY v0) (pX10_bodyWayY (sX10_bodyWayX (sX10_bodyY (sX10_bodyX (sX10_own v1 r_1) r_2) r_3) r_4)) r_5 hr_5) (cw_SN 2 htb tg_895 tg_1 (hK.2.1 _ nw_893) tg_894 rfl rfl (by decide +kernel) ⟨Nat.le_of_ble_eq_true rfl, Nat.le_of_ble_eq_true rfl⟩) ⟨PC.blind, PC.pre hK hT hP hD hS hA [5, 12] rfl (by decide)⟩ rfl rfl hl.1 rfl (lv_room (Nat.le_of_ble_eq_true rfl)) dX10_copyFrom_52 ⟨Nat.le_of_ble_eq_true rfl, Nat.le_of_ble_eq_true rfl⟩) hP hD hS hA [5, 12] [0, 1, 2, 3, 4, 6, 7, 8, 9, 10, 11, 13] rfl rfl (by decide) (by decide) (fun u9 H locs hw hP hD hS => ?_)
  have hw := hw.symm
  subst hw
  have hP : va_P D vwCl (WS_X10_copyFrom cI cJ cZ cY a0 a0_own a0_bodyX a0_bodyY a0_bodyWayX a0_bodyWayY a0_bodyMark a1 a1_own a1_bodyX a1_bodyY a1_bodyWayX a1_bodyWayY a1_bodyMark v0 (sX10_bodyWayY (sX10_bodyWayX (sX10_bodyY (sX10_bodyX (sX10_own v1 r_1) r_2) r_3) r_4) r_5)) H := hP.sub [0, 1, 2, 3, 4, 12, 5, 6, 7, 8, 9, 10, 13, 11] rfl
  have hD : va_D A (WS_X10_copyFrom cI cJ cZ cY a0 a0_own a0_bodyX a0_bodyY a0_bodyWayX a0_bodyWayY a0_bodyMark a1 a1_own a1_bodyX a1_bodyY a1_bodyWayX a1_bodyWayY a1_bodyMark v0 (sX10_bodyWayY (sX10_bodyWayX (sX10_bodyY (sX10_bodyX (sX10_own v1 r_1) r_2) r_3) r_4) r_5)) := hD.sub [0, 1, 2, 3, 4, 12, 5, 6, 7, 8, 9, 10, 13, 11] (by decide) rfl
  refine lv_aload_n hx hb dX10_copyFrom_55 rfl (lv_at hl 1 rfl) ?_
  refine va_get (ci := 9) (v := .ref a0_bodyMark) (C := RX10) (T := TX10) (N := 9) hx hb htb uX10 hown hK.1 hP 0 rfl rfl 7 (by decide) (htb _ tg_60) (fun _ h9 => h9) rfl dX10_copyFrom_56 ?_
  refine lv_aload_n hx hb dX10_copyFrom_59 rfl (lv_at hl 0 rfl) ?_
  refine va_get (ci := 9) (v := .ref a1_bodyMark) (C := RX10) (T := TX10) (N := 9) hx hb htb uX10 hown hK.1 hP 7 rfl rfl 7 (by decide) (htb _ tg_60) (fun _ h9 => h9) rfl dX10_copyFrom_60 ?_
  obtain ⟨r_6, hr_6, hg⟩ := g_bd hg
  refine cc_v (va_runSN (As := [.ref a0_bodyMark, .ref a1_bodyMark]) (rest := []) ⟨hx, hb, hml, hown, htb⟩ (k_X11_copyRow a0_bodyMark a1_bodyMark 6 6 (pX10_bodyMark v0) (pX10_bodyMark (sX10_bodyWayY (sX10_bodyWayX (sX10_bodyY (sX10_bodyX (sX10_own v1 r_1) r_2) r_3) r_4) r_5)) r_6 hr_6) (cw_SN 2 htb tg_895 tg_1 (hK.2.1 _ nw_893) tg_894 rfl rfl (by decide +kernel) ⟨Nat.le_of_ble_eq_true rfl, Nat.le_of_ble_eq_true rfl⟩) ⟨PC.blind, PC.pre hK hT hP hD hS hA [6, 13] rfl (by decide)⟩ rfl rfl hl.1 rfl (lv_room (Nat.le_of_ble_eq_true rfl)) dX10_copyFrom_63 ⟨Nat.le_of_ble_eq_true rfl, Nat.le_of_ble_eq_true rfl⟩) hP hD hS hA [6, 13] [0, 1, 2, 3, 4, 5, 7, 8, 9, 10, 11, 12] rfl rfl (by decide) (by decide) (fun u9 H locs hw hP hD hS => ?_)
  have hw := hw.symm
  subst hw
  have hP : va_P D vwCl (WS_X10_copyFrom cI cJ cZ cY a0 a0_own a0_bodyX a0_bodyY a0_bodyWayX a0_bodyWayY a0_bodyMark a1 a1_own a1_bodyX a1_bodyY a1_bodyWayX a1_bodyWayY a1_bodyMark v0 (sX10_bodyMark (sX10_bodyWayY (sX10_bodyWayX (sX10_bodyY (sX10_bodyX (sX10_own v1 r_1) r_2) r_3) r_4) r_5) r_6)) H := hP.sub [0, 1, 2, 3, 4, 5, 12, 6, 7, 8, 9, 10, 11, 13] rfl
  have hD : va_D A (WS_X10_copyFrom cI cJ cZ cY a0 a0_own a0_bodyX a0_bodyY a0_bodyWayX a0_bodyWayY a0_bodyMark a1 a1_own a1_bodyX a1_bodyY a1_bodyWayX a1_bodyWayY a1_bodyMark v0 (sX10_bodyMark (sX10_bodyWayY (sX10_bodyWayX (sX10_bodyY (sX10_bodyX (sX10_own v1 r_1) r_2) r_3) r_4) r_5) r_6)) := hD.sub [0, 1, 2, 3, 4, 5, 12, 6, 7, 8, 9, 10, 11, 13] (by decide) rfl
  refine lv_aload_n hx hb dX10_copyFrom_66 rfl (lv_at hl 0 rfl) ?_
  refine lv_aload_n hx hb dX10_copyFrom_67 rfl (lv_at hl 1 rfl) ?_
  refine va_get (ci := 9) (v := .int (pX10_bodies v0)) (C := RX10) (T := TX10) (N := 9) hx hb htb uX10 hown hK.1 hP 0 rfl rfl 8 (by decide) (htb _ tg_65) (fun _ h9 => h9) rfl dX10_copyFrom_68 ?_
  refine lv_topi (fun x_7 ex_7 => ?_)
  have hg := g_lte hg x_7 ex_7
  refine va_put (ci := 9) (v := .int x_7) (ty := .int) (C := RX10) (T := TX10) (N := 9) hx hb htb uX10 tyX10 tyX10_ok nmX10 hown hK.1 hP hD hS 7 rfl rfl 8 (by decide) (htb _ tg_65) (fun _ h9 => h9) rfl (by decide +kernel) rfl rfl (Nat.le_of_ble_eq_true rfl) dX10_copyFrom_71 (fun H locs hP hD hS => ?_)
  obtain ⟨v1_8, ev1_8⟩ : ∃ z, z = sX10_bodies (sX10_bodyMark (sX10_bodyWayY (sX10_bodyWayX (sX10_bodyY (sX10_bodyX (sX10_own v1 r_1) r_2) r_3) r_4) r_5) r_6) x_7 := ⟨_, rfl⟩
  have hP : va_P D vwCl (WS_X10_copyFrom cI cJ cZ cY a0 a0_own a0_bodyX a0_bodyY a0_bodyWayX a0_bodyWayY a0_bodyMark a1 a1_own a1_bodyX a1_bodyY a1_bodyWayX a1_bodyWayY a1_bodyMark v0 v1_8) H := by rw [ev1_8]; exact hP
  have hD : va_D A (WS_X10_copyFrom cI cJ cZ cY a0 a0_own a0_bodyX a0_bodyY a0_bodyWayX a0_bodyWayY a0_bodyMark a1 a1_own a1_bodyX a1_bodyY a1_bodyWayX a1_bodyWayY a1_bodyMark v0 v1_8) := by rw [ev1_8]; exact hD
  have hg := g_lte hg v1_8 ev1_8
  have hg := Option.some.inj hg
  rw [hQ]
  exact W.vret hx hb hr (fun t ht hW => ⟨⟨(v1_8), rfl, hg, by rw [ht]; exact hP, hD⟩, hS.F ht⟩) hS.2.2 dX10_copyFrom_74

/-! ManyEyes.mark(II)Z -/
def WS_X11_mark (cI cJ cZ cY : ClassId) (a0 a0_tape a0_firstTakes r0_saved r0_sight r0_flyer r0_parser a1 a1_codes r1_eye r1_reads r1_flight a2 a2_own a2_bodyX a2_bodyY a2_bodyWayX a2_bodyWayY a2_bodyMark : Nat) (v0 : BX11) (v1 : BX8) (v2 : BX10) : va_W := (GX11o cI cJ cZ cY a0 a0_tape a0_firstTakes a1 r0_saved r0_sight r0_flyer r0_parser v0) ++ ((GX8 cI cJ cZ cY a1 a1_codes a2 r1_eye r1_reads r1_flight v1) ++ ((GX10 cI cJ cZ cY a2 a2_own a2_bodyX a2_bodyY a2_bodyWayX a2_bodyWayY a2_bodyMark v2)))
def f_X11_mark (v0 : BX11) (v1 : BX8) (v2 : BX10) (p0 : Int32) (p1 : Int32) : Option (Int32 × BX10) := (f_X10_isCell v2 p0).bind (fun r_1 => if (r_1 : Int32) = 0 then (some (0, v2)) else ((f_X11_isWithin p1 0 255).bind (fun r_3 => if (r_3 : Int32) = 0 then (some (0, v2)) else (g_gd (inB p0 (pX10_n v2)) (g_lt (sX10_own v2 (upd (pX10_own v2) (p0 : Int32).toNatClampNeg p1)) (fun v2_6 => some (1, v2_6)))))))
abbrev rm_X11_mark : Room := { frames := 2, cells := 0, slots := 0, locals := 43 }
set_option maxHeartbeats 4000000 in
set_option maxRecDepth 100000 in
theorem k_X11_mark {l : Launch} {D : va_G} {cI cJ cZ cY : ClassId} {tX tY : Nat} {sz : Nat} (a0 a0_tape a0_firstTakes r0_saved r0_sight r0_flyer r0_parser a1 a1_codes r1_eye r1_reads r1_flight a2 a2_own a2_bodyX a2_bodyY a2_bodyWayX a2_bodyWayY a2_bodyMark : Nat) (v0 : BX11) (v1 : BX8) (v2 : BX10) (p0 : Int32) (p1 : Int32) (res : Int32 × BX10) (hg : f_X11_mark v0 v1 v2 p0 p1 = some res) : Met l yX11_mark (Cond.code yX11_mark cX11_mark 3 (some .boolean) :: TB) rm_X11_mark (PC D cI cJ cZ cY tX tY [.ref a0, .int p0, .int p1] (WS_X11_mark cI cJ cZ cY a0 a0_tape a0_firstTakes r0_saved r0_sight r0_flyer r0_parser a1 a1_codes r1_eye r1_reads r1_flight a2 a2_own a2_bodyX a2_bodyY a2_bodyWayX a2_bodyWayY a2_bodyMark v0 v1 v2) sz) (va_Qi (fun (r : Int32) (u : BX10) => r = res.1 ∧ u = res.2) (BC D (fun u : BX10 => WS_X11_mark cI cJ cZ cY a0 a0_tape a0_firstTakes r0_saved r0_sight r0_flyer r0_parser a1 a1_codes r1_eye r1_reads r1_flight a2 a2_own a2_bodyX a2_bodyY a2_bodyWayX a2_bodyWayY a2_bodyMark v0 v1 u) (va_A (WS_X11_mark cI cJ cZ cY a0 a0_tape a0_firstTakes r0_saved r0_sight r0_flyer r0_parser a1 a1_codes r1_eye r1_reads r1_flight a2 a2_own a2_bodyX a2_bodyY a2_bodyWayX a2_bodyWayY a2_bodyMark v0 v1 v2) sz)) (va_A (WS_X11_mark cI cJ cZ cY a0 a0_tape a0_firstTakes r0_saved r0_sight r0_flyer r0_parser a1 a1_codes r1_eye r1_reads r1_flight a2 a2_own a2_bodyX a2_bodyY a2_bodyWayX a2_bodyWayY a2_bodyMark v0 v1 v2) sz)) 0 0 (va_A (WS_X11_mark cI cJ cZ cY a0 a0_tape a0_firstTakes r0_saved r0_sight r0_flyer r0_parser a1 a1_codes r1_eye r1_reads r1_flight a2 a2_own a2_bodyX a2_bodyY a2_bodyWayX a2_bodyWayY a2_bodyMark v0 v1 v2) sz) := by
  refine Met.ofW (cc := cX11_mark) (maxL := 3) (ret := (some .boolean)) (by decide) rfl ?_
  intro p e s m args below meth c s₁ B hml hv
  obtain ⟨hargs, hsz, hP, hK, hD0, hT⟩ := hv
  have hx := B.exec
  have hb := B.bytes
  have hr := B.returns
  have htb : ∀ w ∈ TB, w.before args s = true := fun w h => atoms_spec (ws := Cond.code yX11_mark cX11_mark 3 (some .boolean) :: TB) B.pre w (List.mem_cons_of_mem _ h)
  have hown : s.vm.findClass "ManyEyes" = some m.cls := findClass_of_methodNamed B.named
  have hlocks := B.notSynchronized
  subst hsz
  have hD := hD0.self (sz := s.heap.size)
  generalize hAe : va_A (WS_X11_mark cI cJ cZ cY a0 a0_tape a0_firstTakes r0_saved r0_sight r0_flyer r0_parser a1 a1_codes r1_eye r1_reads r1_flight a2 a2_own a2_bodyX a2_bodyY a2_bodyWayX a2_bodyWayY a2_bodyMark v0 v1 v2) s.heap.size = A at hD hT ⊢
  have hA : ∀ q : Nat, s.heap.size ≤ q → A q := fun q h => by rw [← hAe]; exact Or.inr h
  have hS : va_S A s.heap s.heap [] := va_S.rf
  have hl := lv_entry ([.ref a0, .int p0, .int p1]) (n := 3) (Nat.le_of_ble_eq_true rfl)
  have he : entryFrame m args 3 = F0 m 0 (lg_sl ([.ref a0, .int p0, .int p1]) ++ List.replicate (3 - (lg_sl ([.ref a0, .int p0, .int p1])).length) Slot.unset).toArray [] := by rw [hargs, lg_entry_eq]
  rw [he]
  generalize (lg_sl ([.ref a0, .int p0, .int p1]) ++ List.replicate (3 - (lg_sl ([.ref a0, .int p0, .int p1])).length) Slot.unset).toArray = ls at hl ⊢
  have hl : lv_has ls 3 [(0, .ref a0), (1, .int p0), (2, .int p1)] := hl
  show W p l e rm_X11_mark s m args below meth c s.heap [] 0 0 _ _
  refine W.genQ (fun Q hQ => ?_)
  generalize hHe : s.heap = H at hP ⊢
  have hS : va_S A s.heap H [] := by rw [← hHe]; exact va_S.rf
  generalize ([] : List Loc) = locs at hS ⊢
  unfold f_X11_mark at hg
  refine lv_aload_n hx hb dX11_mark_0 rfl (lv_at hl 0 rfl) ?_
  refine va_get (ci := 10) (v := .ref a1) (C := RX11) (T := TX11) (N := 9) hx hb htb uX11 hown hK.1 hP 0 rfl rfl 0 (by decide) (htb _ tg_412) (fun _ h9 => h9) rfl dX11_mark_1 ?_
  refine va_get (ci := 7) (v := .ref a2) (C := RX8) (T := TX8) (N := 6) hx hb htb uX8 hown hK.1 hP 1 rfl rfl 0 (by decide) (htb _ tg_233) (fun _ h9 => h9) rfl dX11_mark_4 ?_
  refine lv_iload_n hx hb dX11_mark_7 rfl (lv_at hl 1 rfl) ?_
  obtain ⟨r_1, hr_1, hg⟩ := g_bd hg
  refine cc_i (va_runV (C := RX10) (As := [.int p0]) (rest := []) ⟨hx, hb, hml, hown, htb⟩ (k_X10_isCell a2 a2_own a2_bodyX a2_bodyY a2_bodyWayX a2_bodyWayY a2_bodyMark v2 p0 r_1 hr_1) (cw_V 1 htb tg_447 tg_3 tg_444 tg_445 tg_446 rfl rfl (by decide +kernel) ⟨Nat.le_of_ble_eq_true rfl, Nat.le_of_ble_eq_true rfl⟩) ⟨PC.blind, va_recv hK.1 hP (ci := 9) (q0 := 3) rfl rfl, PC.pre hK hT hP hD hS hA [3, 4, 5, 6, 7, 8, 9] rfl (by decide)⟩ rfl rfl hl.1 rfl (lv_room (Nat.le_of_ble_eq_true rfl)) dX11_mark_8 ⟨Nat.le_of_ble_eq_true rfl, Nat.le_of_ble_eq_true rfl⟩) hP hD hS hA [3, 4, 5, 6, 7, 8, 9] [0, 1, 2] rfl rfl (by decide) (by decide) (fun r9 u9 H locs hw hP hD hS => ?_)
  have hw := hw.symm
  subst hw
  have hP : va_P D vwCl (WS_X11_mark cI cJ cZ cY a0 a0_tape a0_firstTakes r0_saved r0_sight r0_flyer r0_parser a1 a1_codes r1_eye r1_reads r1_flight a2 a2_own a2_bodyX a2_bodyY a2_bodyWayX a2_bodyWayY a2_bodyMark v0 v1 v2) H := hP.sub [0, 1, 2, 3, 4, 5, 6, 7, 8, 9] rfl
  have hD : va_D A (WS_X11_mark cI cJ cZ cY a0 a0_tape a0_firstTakes r0_saved r0_sight r0_flyer r0_parser a1 a1_codes r1_eye r1_reads r1_flight a2 a2_own a2_bodyX a2_bodyY a2_bodyWayX a2_bodyWayY a2_bodyMark v0 v1 v2) := hD.sub [0, 1, 2, 3, 4, 5, 6, 7, 8, 9] (by decide) rfl
  refine lv_if_eq (tgt := 25) hx hb dX11_mark_11 (by decide) (fun c_2 => ?_) (fun c_2 => ?_)
  · have hg := g_it hg c_2
    refine lv_iconst (v := 0) hx hb dX11_mark_25 (by decide) ?_
    have hg := Option.some.inj hg
    rw [hQ]
    exact W.zret (v := 0) (ty := .boolean) hx hb hr rfl (fun t ht hW => ⟨⟨0, (v2), rfl, ⟨by rw [← hg], by rw [← hg]⟩, by rw [ht]; exact hP, hD⟩, hS.F ht⟩) hS.2.2 dX11_mark_26
  · have hg := g_if hg c_2
    refine lv_iload_n hx hb dX11_mark_14 rfl (lv_at hl 2 rfl) ?_
    refine lv_iconst (v := 0) hx hb dX11_mark_15 (by decide) ?_
    refine lv_sipush (v := 255) hx hb dX11_mark_16 (by decide) ?_
    obtain ⟨r_3, hr_3, hg⟩ := g_bd hg
    refine cc_i (va_runS (As := [.int p1, .int 0, .int 255]) (rest := []) ⟨hx, hb, hml, hown, htb⟩ (k_X11_isWithin p1 0 255 r_3 hr_3) (cw_S 3 htb tg_450 tg_1 tg_451 tg_449 rfl rfl (by decide +kernel) ⟨Nat.le_of_ble_eq_true rfl, Nat.le_of_ble_eq_true rfl⟩) ⟨PC.blind, PC.pre hK hT hP hD hS hA [] rfl (by decide)⟩ rfl rfl hl.1 rfl (lv_room (Nat.le_of_ble_eq_true rfl)) dX11_mark_19 ⟨Nat.le_of_ble_eq_true rfl, Nat.le_of_ble_eq_true rfl⟩) hP hD hS hA [] [0, 1, 2, 3, 4, 5, 6, 7, 8, 9] rfl rfl (by decide) (by decide) (fun r9 u9 H locs hw hP hD hS => ?_)
    have hw := hw.symm
    subst hw
    have hP : va_P D vwCl (WS_X11_mark cI cJ cZ cY a0 a0_tape a0_firstTakes r0_saved r0_sight r0_flyer r0_parser a1 a1_codes r1_eye r1_reads r1_flight a2 a2_own a2_bodyX a2_bodyY a2_bodyWayX a2_bodyWayY a2_bodyMark v0 v1 v2) H := hP.sub [0, 1, 2, 3, 4, 5, 6, 7, 8, 9] rfl
    have hD : va_D A (WS_X11_mark cI cJ cZ cY a0 a0_tape a0_firstTakes r0_saved r0_sight r0_flyer r0_parser a1 a1_codes r1_eye r1_reads r1_flight a2 a2_own a2_bodyX a2_bodyY a2_bodyWayX a2_bodyWayY a2_bodyMark v0 v1 v2) := hD.sub [0, 1, 2, 3, 4, 5, 6, 7, 8, 9] (by decide) rfl
    refine lv_if_ne (tgt := 27) hx hb dX11_mark_22 (by decide) (fun c_4 => ?_) (fun c_4 => ?_)
    · have hg := g_if hg c_4
      refine lv_aload_n hx hb dX11_mark_27 rfl (lv_at hl 0 rfl) ?_
      refine va_get (ci := 10) (v := .ref a1) (C := RX11) (T := TX11) (N := 9) hx hb htb uX11 hown hK.1 hP 0 rfl rfl 0 (by decide) (htb _ tg_412) (fun _ h9 => h9) rfl dX11_mark_28 ?_
      refine va_get (ci := 7) (v := .ref a2) (C := RX8) (T := TX8) (N := 6) hx hb htb uX8 hown hK.1 hP 1 rfl rfl 0 (by decide) (htb _ tg_233) (fun _ h9 => h9) rfl dX11_mark_31 ?_
      refine va_get (ci := 9) (v := .ref a2_own) (C := RX10) (T := TX10) (N := 9) hx hb htb uX10 hown hK.1 hP 3 rfl rfl 2 (by decide) (htb _ tg_51) (fun _ h9 => h9) rfl dX11_mark_34 ?_
      refine lv_iload_n hx hb dX11_mark_37 rfl (lv_at hl 1 rfl) ?_
      refine lv_iload_n hx hb dX11_mark_38 rfl (lv_at hl 2 rfl) ?_
      obtain ⟨h_5, hg⟩ := g_gde hg
      refine va_iast hx hb hK.1 hP hD hS 4 0 rfl rfl (inB_vp h_5) dX11_mark_39 (fun H locs hP hD hS => ?_)
      obtain ⟨v2_6, ev2_6⟩ : ∃ z, z = sX10_own v2 (upd (pX10_own v2) (p0 : Int32).toNatClampNeg p1) := ⟨_, rfl⟩
      have hP : va_P D vwCl (WS_X11_mark cI cJ cZ cY a0 a0_tape a0_firstTakes r0_saved r0_sight r0_flyer r0_parser a1 a1_codes r1_eye r1_reads r1_flight a2 a2_own a2_bodyX a2_bodyY a2_bodyWayX a2_bodyWayY a2_bodyMark v0 v1 v2_6) H := by rw [ev2_6]; exact hP
      have hD : va_D A (WS_X11_mark cI cJ cZ cY a0 a0_tape a0_firstTakes r0_saved r0_sight r0_flyer r0_parser a1 a1_codes r1_eye r1_reads r1_flight a2 a2_own a2_bodyX a2_bodyY a2_bodyWayX a2_bodyWayY a2_bodyMark v0 v1 v2_6) := by rw [ev2_6]; exact hD
      have hg := g_lte hg v2_6 ev2_6
      refine lv_iconst (v := 1) hx hb dX11_mark_40 (by decide) ?_
      have hg := Option.some.inj hg
      rw [hQ]
      exact W.zret (v := 1) (ty := .boolean) hx hb hr rfl (fun t ht hW => ⟨⟨1, (v2_6), rfl, ⟨by rw [← hg], by rw [← hg]⟩, by rw [ht]; exact hP, hD⟩, hS.F ht⟩) hS.2.2 dX11_mark_41
    · have hg := g_it hg c_4
      refine lv_iconst (v := 0) hx hb dX11_mark_25 (by decide) ?_
      have hg := Option.some.inj hg
      rw [hQ]
      exact W.zret (v := 0) (ty := .boolean) hx hb hr rfl (fun t ht hW => ⟨⟨0, (v2), rfl, ⟨by rw [← hg], by rw [← hg]⟩, by rw [ht]; exact hP, hD⟩, hS.F ht⟩) hS.2.2 dX11_mark_26

/-! ManyEyes.body(IIII)I -/
def WS_X11_body (cI cJ cZ cY : ClassId) (a0 a0_tape a0_firstTakes r0_saved r0_sight r0_flyer r0_parser a1 a1_codes r1_eye r1_reads r1_flight a2 a2_own a2_bodyX a2_bodyY a2_bodyWayX a2_bodyWayY a2_bodyMark : Nat) (v0 : BX11) (v1 : BX8) (v2 : BX10) : va_W := (GX11o cI cJ cZ cY a0 a0_tape a0_firstTakes a1 r0_saved r0_sight r0_flyer r0_parser v0) ++ ((GX8 cI cJ cZ cY a1 a1_codes a2 r1_eye r1_reads r1_flight v1) ++ ((GX10 cI cJ cZ cY a2 a2_own a2_bodyX a2_bodyY a2_bodyWayX a2_bodyWayY a2_bodyMark v2)))
def f_X11_body (v0 : BX11) (v1 : BX8) (v2 : BX10) (p0 : Int32) (p1 : Int32) (p2 : Int32) (p3 : Int32) : Option (Int32 × BX10) := (f_X10_isCell v2 p0).bind (fun r_1 => if (r_1 : Int32) = 0 then (some ((-1), v2)) else ((f_X11_isWithin p3 1 255).bind (fun r_3 => if (r_3 : Int32) = 0 then (some ((-1), v2)) else (if ((pX10_bodies v2) : Int32) < 6 then ((f_X11_isWithin p1 (-2) 2).bind (fun r_6 => if (r_6 : Int32) = 0 then (some ((-1), v2)) else ((f_X11_isWithin p2 (-2) 2).bind (fun r_8 => if (r_8 : Int32) = 0 then (some ((-1), v2)) else (g_lt ((pX10_bodies v2) : Int32) (fun x6_10 => (f_X10_rowOf v2 p0).bind (fun r_11 => g_gd (inB x6_10 6) (g_lt (sX10_bodyY v2 (upd (pX10_bodyY v2) (x6_10 : Int32).toNatClampNeg r_11)) (fun v2_13 => g_gd (inB x6_10 6) (g_lt ((p0 - (((pX10_bodyY v2_13) (x6_10 : Int32).toNatClampNeg) * (pX10_w v2_13))) : Int32) (fun x_15 => g_gd (inB x6_10 6) (g_lt (sX10_bodyX v2_13 (upd (pX10_bodyX v2_13) (x6_10 : Int32).toNatClampNeg x_15)) (fun v2_17 => g_gd (inB x6_10 6) (g_lt (sX10_bodyWayX v2_17 (upd (pX10_bodyWayX v2_17) (x6_10 : Int32).toNatClampNeg p1)) (fun v2_19 => g_gd (inB x6_10 6) (g_lt (sX10_bodyWayY v2_19 (upd (pX10_bodyWayY v2_19) (x6_10 : Int32).toNatClampNeg p2)) (fun v2_21 => g_gd (inB x6_10 6) (g_lt (sX10_bodyMark v2_21 (upd (pX10_bodyMark v2_21) (x6_10 : Int32).toNatClampNeg p3)) (fun v2_23 => g_lt ((x6_10 + 1) : Int32) (fun x_24 => g_lt (sX10_bodies v2_23 x_24) (fun v2_25 => some (x6_10, v2_25)))))))))))))))))))))) else (some ((-1), v2))))))
abbrev rm_X11_body : Room := { frames := 2, cells := 0, slots := 0, locals := 43 }
set_option maxHeartbeats 4000000 in
set_option maxRecDepth 100000 in
theorem k_X11_body {l : Launch} {D : va_G} {cI cJ cZ cY : ClassId} {tX tY : Nat} {sz : Nat} (a0 a0_tape a0_firstTakes r0_saved r0_sight r0_flyer r0_parser a1 a1_codes r1_eye r1_reads r1_flight a2 a2_own a2_bodyX a2_bodyY a2_bodyWayX a2_bodyWayY a2_bodyMark : Nat) (v0 : BX11) (v1 : BX8) (v2 : BX10) (p0 : Int32) (p1 : Int32) (p2 : Int32) (p3 : Int32) (res : Int32 × BX10) (hg : f_X11_body v0 v1 v2 p0 p1 p2 p3 = some res) : Met l yX11_body (Cond.code yX11_body cX11_body 7 (some .int) :: TB) rm_X11_body (PC D cI cJ cZ cY tX tY [.ref a0, .int p0, .int p1, .int p2, .int p3] (WS_X11_body cI cJ cZ cY a0 a0_tape a0_firstTakes r0_saved r0_sight r0_flyer r0_parser a1 a1_codes r1_eye r1_reads r1_flight a2 a2_own a2_bodyX a2_bodyY a2_bodyWayX a2_bodyWayY a2_bodyMark v0 v1 v2) sz) (va_Qi (fun (r : Int32) (u : BX10) => r = res.1 ∧ u = res.2) (BC D (fun u : BX10 => WS_X11_body cI cJ cZ cY a0 a0_tape a0_firstTakes r0_saved r0_sight r0_flyer r0_parser a1 a1_codes r1_eye r1_reads r1_flight a2 a2_own a2_bodyX a2_bodyY a2_bodyWayX a2_bodyWayY a2_bodyMark v0 v1 u) (va_A (WS_X11_body cI cJ cZ cY a0 a0_tape a0_firstTakes r0_saved r0_sight r0_flyer r0_parser a1 a1_codes r1_eye r1_reads r1_flight a2 a2_own a2_bodyX a2_bodyY a2_bodyWayX a2_bodyWayY a2_bodyMark v0 v1 v2) sz)) (va_A (WS_X11_body cI cJ cZ cY a0 a0_tape a0_firstTakes r0_saved r0_sight r0_flyer r0_parser a1 a1_codes r1_eye r1_reads r1_flight a2 a2_own a2_bodyX a2_bodyY a2_bodyWayX a2_bodyWayY a2_bodyMark v0 v1 v2) sz)) 0 0 (va_A (WS_X11_body cI cJ cZ cY a0 a0_tape a0_firstTakes r0_saved r0_sight r0_flyer r0_parser a1 a1_codes r1_eye r1_reads r1_flight a2 a2_own a2_bodyX a2_bodyY a2_bodyWayX a2_bodyWayY a2_bodyMark v0 v1 v2) sz) := by
  refine Met.ofW (cc := cX11_body) (maxL := 7) (ret := (some .int)) (by decide) rfl ?_
  intro p e s m args below meth c s₁ B hml hv
  obtain ⟨hargs, hsz, hP, hK, hD0, hT⟩ := hv
  have hx := B.exec
  have hb := B.bytes
  have hr := B.returns
  have htb : ∀ w ∈ TB, w.before args s = true := fun w h => atoms_spec (ws := Cond.code yX11_body cX11_body 7 (some .int) :: TB) B.pre w (List.mem_cons_of_mem _ h)
  have hown : s.vm.findClass "ManyEyes" = some m.cls := findClass_of_methodNamed B.named
  have hlocks := B.notSynchronized
  subst hsz
  have hD := hD0.self (sz := s.heap.size)
  generalize hAe : va_A (WS_X11_body cI cJ cZ cY a0 a0_tape a0_firstTakes r0_saved r0_sight r0_flyer r0_parser a1 a1_codes r1_eye r1_reads r1_flight a2 a2_own a2_bodyX a2_bodyY a2_bodyWayX a2_bodyWayY a2_bodyMark v0 v1 v2) s.heap.size = A at hD hT ⊢
  have hA : ∀ q : Nat, s.heap.size ≤ q → A q := fun q h => by rw [← hAe]; exact Or.inr h
  have hS : va_S A s.heap s.heap [] := va_S.rf
  have hl := lv_entry ([.ref a0, .int p0, .int p1, .int p2, .int p3]) (n := 7) (Nat.le_of_ble_eq_true rfl)
  have he : entryFrame m args 7 = F0 m 0 (lg_sl ([.ref a0, .int p0, .int p1, .int p2, .int p3]) ++ List.replicate (7 - (lg_sl ([.ref a0, .int p0, .int p1, .int p2, .int p3])).length) Slot.unset).toArray [] := by rw [hargs, lg_entry_eq]
  rw [he]
  generalize (lg_sl ([.ref a0, .int p0, .int p1, .int p2, .int p3]) ++ List.replicate (7 - (lg_sl ([.ref a0, .int p0, .int p1, .int p2, .int p3])).length) Slot.unset).toArray = ls at hl ⊢
  have hl : lv_has ls 7 [(0, .ref a0), (1, .int p0), (2, .int p1), (3, .int p2), (4, .int p3)] := hl
  show W p l e rm_X11_body s m args below meth c s.heap [] 0 0 _ _
  refine W.genQ (fun Q hQ => ?_)
  generalize hHe : s.heap = H at hP ⊢
  have hS : va_S A s.heap H [] := by rw [← hHe]; exact va_S.rf
  generalize ([] : List Loc) = locs at hS ⊢
  unfold f_X11_body at hg
  refine lv_aload_n hx hb dX11_body_0 rfl (lv_at hl 0 rfl) ?_
  refine va_get (ci := 10) (v := .ref a1) (C := RX11) (T := TX11) (N := 9) hx hb htb uX11 hown hK.1 hP 0 rfl rfl 0 (by decide) (htb _ tg_412) (fun _ h9 => h9) rfl dX11_body_1 ?_
  refine va_get (ci := 7) (v := .ref a2) (C := RX8) (T := TX8) (N := 6) hx hb htb uX8 hown hK.1 hP 1 rfl rfl 0 (by decide) (htb _ tg_233) (fun _ h9 => h9) rfl dX11_body_4 ?_
  refine lv_astore (lv' := [(5, .ref a2), (0, .ref a0), (1, .int p0), (2, .int p1), (3, .int p2), (4, .int p3)]) hx hb dX11_body_7 hl (by decide) rfl (fun ls hl => ?_)
  refine lv_aload hx hb dX11_body_9 (lv_at hl 0 rfl) ?_
  refine lv_iload_n hx hb dX11_body_11 rfl (lv_at hl 2 rfl) ?_
  obtain ⟨r_1, hr_1, hg⟩ := g_bd hg
  refine cc_i (va_runV (C := RX10) (As := [.int p0]) (rest := []) ⟨hx, hb, hml, hown, htb⟩ (k_X10_isCell a2 a2_own a2_bodyX a2_bodyY a2_bodyWayX a2_bodyWayY a2_bodyMark v2 p0 r_1 hr_1) (cw_V 1 htb tg_447 tg_3 tg_444 tg_445 tg_446 rfl rfl (by decide +kernel) ⟨Nat.le_of_ble_eq_true rfl, Nat.le_of_ble_eq_true rfl⟩) ⟨PC.blind, va_recv hK.1 hP (ci := 9) (q0 := 3) rfl rfl, PC.pre hK hT hP hD hS hA [3, 4, 5, 6, 7, 8, 9] rfl (by decide)⟩ rfl rfl hl.1 rfl (lv_room (Nat.le_of_ble_eq_true rfl)) dX11_body_12 ⟨Nat.le_of_ble_eq_true rfl, Nat.le_of_ble_eq_true rfl⟩) hP hD hS hA [3, 4, 5, 6, 7, 8, 9] [0, 1, 2] rfl rfl (by decide) (by decide) (fun r9 u9 H locs hw hP hD hS => ?_)
  have hw := hw.symm
  subst hw
  have hP : va_P D vwCl (WS_X11_body cI cJ cZ cY a0 a0_tape a0_firstTakes r0_saved r0_sight r0_flyer r0_parser a1 a1_codes r1_eye r1_reads r1_flight a2 a2_own a2_bodyX a2_bodyY a2_bodyWayX a2_bodyWayY a2_bodyMark v0 v1 v2) H := hP.sub [0, 1, 2, 3, 4, 5, 6, 7, 8, 9] rfl
  have hD : va_D A (WS_X11_body cI cJ cZ cY a0 a0_tape a0_firstTakes r0_saved r0_sight r0_flyer r0_parser a1 a1_codes r1_eye r1_reads r1_flight a2 a2_own a2_bodyX a2_bodyY a2_bodyWayX a2_bodyWayY a2_bodyMark v0 v1 v2) := hD.sub [0, 1, 2, 3, 4, 5, 6, 7, 8, 9] (by decide) rfl
  refine lv_if_eq (tgt := 40) hx hb dX11_body_15 (by decide) (fun c_2 => ?_) (fun c_2 => ?_)
  · have hg := g_it hg c_2
    refine lv_iconst (v := (-1)) hx hb dX11_body_40 (by decide) ?_
    have hg := Option.some.inj hg
    rw [hQ]
    exact W.iret (v := (-1)) hx hb hr (fun t ht hW => ⟨⟨(-1), (v2), rfl, ⟨by rw [← hg], by rw [← hg]⟩, by rw [ht]; exact hP, hD⟩, hS.F ht⟩) hS.2.2 dX11_body_41
  · have hg := g_if hg c_2
    refine lv_iload hx hb dX11_body_18 (lv_at hl 5 rfl) ?_
    refine lv_iconst (v := 1) hx hb dX11_body_20 (by decide) ?_
    refine lv_sipush (v := 255) hx hb dX11_body_21 (by decide) ?_
    obtain ⟨r_3, hr_3, hg⟩ := g_bd hg
    refine cc_i (va_runS (As := [.int p3, .int 1, .int 255]) (rest := []) ⟨hx, hb, hml, hown, htb⟩ (k_X11_isWithin p3 1 255 r_3 hr_3) (cw_S 3 htb tg_450 tg_1 tg_451 tg_449 rfl rfl (by decide +kernel) ⟨Nat.le_of_ble_eq_true rfl, Nat.le_of_ble_eq_true rfl⟩) ⟨PC.blind, PC.pre hK hT hP hD hS hA [] rfl (by decide)⟩ rfl rfl hl.1 rfl (lv_room (Nat.le_of_ble_eq_true rfl)) dX11_body_24 ⟨Nat.le_of_ble_eq_true rfl, Nat.le_of_ble_eq_true rfl⟩) hP hD hS hA [] [0, 1, 2, 3, 4, 5, 6, 7, 8, 9] rfl rfl (by decide) (by decide) (fun r9 u9 H locs hw hP hD hS => ?_)
    have hw := hw.symm
    subst hw
    have hP : va_P D vwCl (WS_X11_body cI cJ cZ cY a0 a0_tape a0_firstTakes r0_saved r0_sight r0_flyer r0_parser a1 a1_codes r1_eye r1_reads r1_flight a2 a2_own a2_bodyX a2_bodyY a2_bodyWayX a2_bodyWayY a2_bodyMark v0 v1 v2) H := hP.sub [0, 1, 2, 3, 4, 5, 6, 7, 8, 9] rfl
    have hD : va_D A (WS_X11_body cI cJ cZ cY a0 a0_tape a0_firstTakes r0_saved r0_sight r0_flyer r0_parser a1 a1_codes r1_eye r1_reads r1_flight a2 a2_own a2_bodyX a2_bodyY a2_bodyWayX a2_bodyWayY a2_bodyMark v0 v1 v2) := hD.sub [0, 1, 2, 3, 4, 5, 6, 7, 8, 9] (by decide) rfl
    refine lv_if_eq (tgt := 40) hx hb dX11_body_27 (by decide) (fun c_4 => ?_) (fun c_4 => ?_)
    · have hg := g_it hg c_4
      refine lv_iconst (v := (-1)) hx hb dX11_body_40 (by decide) ?_
      have hg := Option.some.inj hg
      rw [hQ]
      exact W.iret (v := (-1)) hx hb hr (fun t ht hW => ⟨⟨(-1), (v2), rfl, ⟨by rw [← hg], by rw [← hg]⟩, by rw [ht]; exact hP, hD⟩, hS.F ht⟩) hS.2.2 dX11_body_41
    · have hg := g_if hg c_4
      refine lv_aload hx hb dX11_body_30 (lv_at hl 0 rfl) ?_
      refine va_get (ci := 9) (v := .int (pX10_bodies v2)) (C := RX10) (T := TX10) (N := 9) hx hb htb uX10 hown hK.1 hP 3 rfl rfl 8 (by decide) (htb _ tg_64) (fun _ h9 => h9) rfl dX11_body_32 ?_
      refine lv_bipush (v := 6) hx hb dX11_body_35 (by decide) ?_
      refine lv_icmp_lt (tgt := 42) hx hb dX11_body_37 (by decide) (fun c_5 => ?_) (fun c_5 => ?_)
      · have hg := g_it hg c_5
        refine lv_iload_n hx hb dX11_body_42 rfl (lv_at hl 3 rfl) ?_
        refine lv_bipush (v := (-2)) hx hb dX11_body_43 (by decide) ?_
        refine lv_iconst (v := 2) hx hb dX11_body_45 (by decide) ?_
        obtain ⟨r_6, hr_6, hg⟩ := g_bd hg
        refine cc_i (va_runS (As := [.int p1, .int (-2), .int 2]) (rest := []) ⟨hx, hb, hml, hown, htb⟩ (k_X11_isWithin p1 (-2) 2 r_6 hr_6) (cw_S 3 htb tg_450 tg_1 tg_451 tg_449 rfl rfl (by decide +kernel) ⟨Nat.le_of_ble_eq_true rfl, Nat.le_of_ble_eq_true rfl⟩) ⟨PC.blind, PC.pre hK hT hP hD hS hA [] rfl (by decide)⟩ rfl rfl hl.1 rfl (lv_room (Nat.le_of_ble_eq_true rfl)) dX11_body_46 ⟨Nat.le_of_ble_eq_true rfl, Nat.le_of_ble_eq_true rfl⟩) hP hD hS hA [] [0, 1, 2, 3, 4, 5, 6, 7, 8, 9] rfl rfl (by decide) (by decide) (fun r9 u9 H locs hw hP hD hS => ?_)
        have hw := hw.symm
        subst hw
        have hP : va_P D vwCl (WS_X11_body cI cJ cZ cY a0 a0_tape a0_firstTakes r0_saved r0_sight r0_flyer r0_parser a1 a1_codes r1_eye r1_reads r1_flight a2 a2_own a2_bodyX a2_bodyY a2_bodyWayX a2_bodyWayY a2_bodyMark v0 v1 v2) H := hP.sub [0, 1, 2, 3, 4, 5, 6, 7, 8, 9] rfl
        have hD : va_D A (WS_X11_body cI cJ cZ cY a0 a0_tape a0_firstTakes r0_saved r0_sight r0_flyer r0_parser a1 a1_codes r1_eye r1_reads r1_flight a2 a2_own a2_bodyX a2_bodyY a2_bodyWayX a2_bodyWayY a2_bodyMark v0 v1 v2) := hD.sub [0, 1, 2, 3, 4, 5, 6, 7, 8, 9] (by decide) rfl
        refine lv_if_eq (tgt := 62) hx hb dX11_body_49 (by decide) (fun c_7 => ?_) (fun c_7 => ?_)
        · have hg := g_it hg c_7
          refine lv_iconst (v := (-1)) hx hb dX11_body_62 (by decide) ?_
          have hg := Option.some.inj hg
          rw [hQ]
          exact W.iret (v := (-1)) hx hb hr (fun t ht hW => ⟨⟨(-1), (v2), rfl, ⟨by rw [← hg], by rw [← hg]⟩, by rw [ht]; exact hP, hD⟩, hS.F ht⟩) hS.2.2 dX11_body_63
        · have hg := g_if hg c_7
          refine lv_iload_n hx hb dX11_body_52 rfl (lv_at hl 4 rfl) ?_
          refine lv_bipush (v := (-2)) hx hb dX11_body_53 (by decide) ?_
          refine lv_iconst (v := 2) hx hb dX11_body_55 (by decide) ?_
          obtain ⟨r_8, hr_8, hg⟩ := g_bd hg
          refine cc_i (va_runS (As := [.int p2, .int (-2), .int 2]) (rest := []) ⟨hx, hb, hml, hown, htb⟩ (k_X11_isWithin p2 (-2) 2 r_8 hr_8) (cw_S 3 htb tg_450 tg_1 tg_451 tg_449 rfl rfl (by decide +kernel) ⟨Nat.le_of_ble_eq_true rfl, Nat.le_of_ble_eq_true rfl⟩) ⟨PC.blind, PC.pre hK hT hP hD hS hA [] rfl (by decide)⟩ rfl rfl hl.1 rfl (lv_room (Nat.le_of_ble_eq_true rfl)) dX11_body_56 ⟨Nat.le_of_ble_eq_true rfl, Nat.le_of_ble_eq_true rfl⟩) hP hD hS hA [] [0, 1, 2, 3, 4, 5, 6, 7, 8, 9] rfl rfl (by decide) (by decide) (fun r9 u9 H locs hw hP hD hS => ?_)
          have hw := hw.symm
          subst hw
          have hP : va_P D vwCl (WS_X11_body cI cJ cZ cY a0 a0_tape a0_firstTakes r0_saved r0_sight r0_flyer r0_parser a1 a1_codes r1_eye r1_reads r1_flight a2 a2_own a2_bodyX a2_bodyY a2_bodyWayX a2_bodyWayY a2_bodyMark v0 v1 v2) H := hP.sub [0, 1, 2, 3, 4, 5, 6, 7, 8, 9] rfl
          have hD : va_D A (WS_X11_body cI cJ cZ cY a0 a0_tape a0_firstTakes r0_saved r0_sight r0_flyer r0_parser a1 a1_codes r1_eye r1_reads r1_flight a2 a2_own a2_bodyX a2_bodyY a2_bodyWayX a2_bodyWayY a2_bodyMark v0 v1 v2) := hD.sub [0, 1, 2, 3, 4, 5, 6, 7, 8, 9] (by decide) rfl
          refine lv_if_ne (tgt := 64) hx hb dX11_body_59 (by decide) (fun c_9 => ?_) (fun c_9 => ?_)
          · have hg := g_if hg c_9
            refine lv_aload hx hb dX11_body_64 (lv_at hl 0 rfl) ?_
            refine va_get (ci := 9) (v := .int (pX10_bodies v2)) (C := RX10) (T := TX10) (N := 9) hx hb htb uX10 hown hK.1 hP 3 rfl rfl 8 (by decide) (htb _ tg_64) (fun _ h9 => h9) rfl dX11_body_66 ?_
            refine lv_topi (fun x6_10 ex6_10 => ?_)
            have hg := g_lte hg x6_10 ex6_10
            refine lv_istore (lv' := [(6, .int x6_10), (5, .ref a2), (0, .ref a0), (1, .int p0), (2, .int p1), (3, .int p2), (4, .int p3)]) hx hb dX11_body_69 hl (by decide) rfl (fun ls hl => ?_)
            refine lv_aload hx hb dX11_body_71 (lv_at hl 1 rfl) ?_
            refine va_get (ci := 9) (v := .ref a2_bodyY) (C := RX10) (T := TX10) (N := 9) hx hb htb uX10 hown hK.1 hP 3 rfl rfl 4 (by decide) (htb _ tg_55) (fun _ h9 => h9) rfl dX11_body_73 ?_
            refine lv_iload hx hb dX11_body_76 (lv_at hl 0 rfl) ?_
            refine lv_aload hx hb dX11_body_78 (lv_at hl 1 rfl) ?_
            refine lv_iload_n hx hb dX11_body_80 rfl (lv_at hl 3 rfl) ?_
            obtain ⟨r_11, hr_11, hg⟩ := g_bd hg
            refine cc_i (va_runV (C := RX10) (As := [.int p0]) (rest := [.int x6_10, .ref a2_bodyY]) ⟨hx, hb, hml, hown, htb⟩ (k_X10_rowOf a2 a2_own a2_bodyX a2_bodyY a2_bodyWayX a2_bodyWayY a2_bodyMark v2 p0 r_11 hr_11) (cw_V 1 htb tg_459 tg_3 tg_456 tg_457 tg_458 rfl rfl (by decide +kernel) ⟨Nat.le_of_ble_eq_true rfl, Nat.le_of_ble_eq_true rfl⟩) ⟨PC.blind, va_recv hK.1 hP (ci := 9) (q0 := 3) rfl rfl, PC.pre hK hT hP hD hS hA [3, 4, 5, 6, 7, 8, 9] rfl (by decide)⟩ rfl rfl hl.1 rfl (lv_room (Nat.le_of_ble_eq_true rfl)) dX11_body_81 ⟨Nat.le_of_ble_eq_true rfl, Nat.le_of_ble_eq_true rfl⟩) hP hD hS hA [3, 4, 5, 6, 7, 8, 9] [0, 1, 2] rfl rfl (by decide) (by decide) (fun r9 u9 H locs hw hP hD hS => ?_)
            have hw := hw.symm
            subst hw
            have hP : va_P D vwCl (WS_X11_body cI cJ cZ cY a0 a0_tape a0_firstTakes r0_saved r0_sight r0_flyer r0_parser a1 a1_codes r1_eye r1_reads r1_flight a2 a2_own a2_bodyX a2_bodyY a2_bodyWayX a2_bodyWayY a2_bodyMark v0 v1 v2) H := hP.sub [0, 1, 2, 3, 4, 5, 6, 7, 8, 9] rfl
            have hD : va_D A (WS_X11_body cI cJ cZ cY a0 a0_tape a0_firstTakes r0_saved r0_sight r0_flyer r0_parser a1 a1_codes r1_eye r1_reads r1_flight a2 a2_own a2_bodyX a2_bodyY a2_bodyWayX a2_bodyWayY a2_bodyMark v0 v1 v2) := hD.sub [0, 1, 2, 3, 4, 5, 6, 7, 8, 9] (by decide) rfl
            obtain ⟨h_12, hg⟩ := g_gde hg
            refine va_iast hx hb hK.1 hP hD hS 6 0 rfl rfl (inB_vp h_12) dX11_body_84 (fun H locs hP hD hS => ?_)
            obtain ⟨v2_13, ev2_13⟩ : ∃ z, z = sX10_bodyY v2 (upd (pX10_bodyY v2) (x6_10 : Int32).toNatClampNeg r_11) := ⟨_, rfl⟩
            have hP : va_P D vwCl (WS_X11_body cI cJ cZ cY a0 a0_tape a0_firstTakes r0_saved r0_sight r0_flyer r0_parser a1 a1_codes r1_eye r1_reads r1_flight a2 a2_own a2_bodyX a2_bodyY a2_bodyWayX a2_bodyWayY a2_bodyMark v0 v1 v2_13) H := by rw [ev2_13]; exact hP
            have hD : va_D A (WS_X11_body cI cJ cZ cY a0 a0_tape a0_firstTakes r0_saved r0_sight r0_flyer r0_parser a1 a1_codes r1_eye r1_reads r1_flight a2 a2_own a2_bodyX a2_bodyY a2_bodyWayX a2_bodyWayY a2_bodyMark v0 v1 v2_13) := by rw [ev2_13]; exact hD
            have hg := g_lte hg v2_13 ev2_13
            refine lv_aload hx hb dX11_body_85 (lv_at hl 1 rfl) ?_
            refine va_get (ci := 9) (v := .ref a2_bodyX) (C := RX10) (T := TX10) (N := 9) hx hb htb uX10 hown hK.1 hP 3 rfl rfl 3 (by decide) (htb _ tg_53) (fun _ h9 => h9) rfl dX11_body_87 ?_
            refine lv_iload hx hb dX11_body_90 (lv_at hl 0 rfl) ?_
            refine lv_iload_n hx hb dX11_body_92 rfl (lv_at hl 3 rfl) ?_
            refine lv_aload hx hb dX11_body_93 (lv_at hl 1 rfl) ?_
            refine va_get (ci := 9) (v := .ref a2_bodyY) (C := RX10) (T := TX10) (N := 9) hx hb htb uX10 hown hK.1 hP 3 rfl rfl 4 (by decide) (htb _ tg_55) (fun _ h9 => h9) rfl dX11_body_95 ?_
            refine lv_iload hx hb dX11_body_98 (lv_at hl 0 rfl) ?_
            obtain ⟨h_14, hg⟩ := g_gde hg
            refine va_iald hx hb hK.1 hP 6 0 rfl rfl (inB_vp h_14) dX11_body_100 ?_
            refine lv_aload hx hb dX11_body_101 (lv_at hl 1 rfl) ?_
            refine va_get (ci := 9) (v := .int (pX10_w v2_13)) (C := RX10) (T := TX10) (N := 9) hx hb htb uX10 hown hK.1 hP 3 rfl rfl 0 (by decide) (htb _ tg_45) (fun _ h9 => h9) rfl dX11_body_103 ?_
            refine lv_imul hx hb dX11_body_106 ?_
            refine lv_isub hx hb dX11_body_107 ?_
            refine lv_topi (fun x_15 ex_15 => ?_)
            have hg := g_lte hg x_15 ex_15
            obtain ⟨h_16, hg⟩ := g_gde hg
            refine va_iast hx hb hK.1 hP hD hS 5 0 rfl rfl (inB_vp h_16) dX11_body_108 (fun H locs hP hD hS => ?_)
            obtain ⟨v2_17, ev2_17⟩ : ∃ z, z = sX10_bodyX v2_13 (upd (pX10_bodyX v2_13) (x6_10 : Int32).toNatClampNeg x_15) := ⟨_, rfl⟩
            have hP : va_P D vwCl (WS_X11_body cI cJ cZ cY a0 a0_tape a0_firstTakes r0_saved r0_sight r0_flyer r0_parser a1 a1_codes r1_eye r1_reads r1_flight a2 a2_own a2_bodyX a2_bodyY a2_bodyWayX a2_bodyWayY a2_bodyMark v0 v1 v2_17) H := by rw [ev2_17]; exact hP
            have hD : va_D A (WS_X11_body cI cJ cZ cY a0 a0_tape a0_firstTakes r0_saved r0_sight r0_flyer r0_parser a1 a1_codes r1_eye r1_reads r1_flight a2 a2_own a2_bodyX a2_bodyY a2_bodyWayX a2_bodyWayY a2_bodyMark v0 v1 v2_17) := by rw [ev2_17]; exact hD
            have hg := g_lte hg v2_17 ev2_17
            refine lv_aload hx hb dX11_body_109 (lv_at hl 1 rfl) ?_
            refine va_get (ci := 9) (v := .ref a2_bodyWayX) (C := RX10) (T := TX10) (N := 9) hx hb htb uX10 hown hK.1 hP 3 rfl rfl 5 (by decide) (htb _ tg_57) (fun _ h9 => h9) rfl dX11_body_111 ?_
            refine lv_iload hx hb dX11_body_114 (lv_at hl 0 rfl) ?_
            refine lv_iload_n hx hb dX11_body_116 rfl (lv_at hl 4 rfl) ?_
            obtain ⟨h_18, hg⟩ := g_gde hg
            refine va_iast hx hb hK.1 hP hD hS 7 0 rfl rfl (inB_vp h_18) dX11_body_117 (fun H locs hP hD hS => ?_)
            obtain ⟨v2_19, ev2_19⟩ : ∃ z, z = sX10_bodyWayX v2_17 (upd (pX10_bodyWayX v2_17) (x6_10 : Int32).toNatClampNeg p1) := ⟨_, rfl⟩
            have hP : va_P D vwCl (WS_X11_body cI cJ cZ cY a0 a0_tape a0_firstTakes r0_saved r0_sight r0_flyer r0_parser a1 a1_codes r1_eye r1_reads r1_flight a2 a2_own a2_bodyX a2_bodyY a2_bodyWayX a2_bodyWayY a2_bodyMark v0 v1 v2_19) H := by rw [ev2_19]; exact hP
            have hD : va_D A (WS_X11_body cI cJ cZ cY a0 a0_tape a0_firstTakes r0_saved r0_sight r0_flyer r0_parser a1 a1_codes r1_eye r1_reads r1_flight a2 a2_own a2_bodyX a2_bodyY a2_bodyWayX a2_bodyWayY a2_bodyMark v0 v1 v2_19) := by rw [ev2_19]; exact hD
            have hg := g_lte hg v2_19 ev2_19
            refine lv_aload hx hb dX11_body_118 (lv_at hl 1 rfl) ?_
            refine va_get (ci := 9) (v := .ref a2_bodyWayY) (C := RX10) (T := TX10) (N := 9) hx hb htb uX10 hown hK.1 hP 3 rfl rfl 6 (by decide) (htb _ tg_59) (fun _ h9 => h9) rfl dX11_body_120 ?_
            refine lv_iload hx hb dX11_body_123 (lv_at hl 0 rfl) ?_
            refine lv_iload_n hx hb dX11_body_125 rfl (lv_at hl 5 rfl) ?_
            obtain ⟨h_20, hg⟩ := g_gde hg
            refine va_iast hx hb hK.1 hP hD hS 8 0 rfl rfl (inB_vp h_20) dX11_body_126 (fun H locs hP hD hS => ?_)
            obtain ⟨v2_21, ev2_21⟩ : ∃ z, z = sX10_bodyWayY v2_19 (upd (pX10_bodyWayY v2_19) (x6_10 : Int32).toNatClampNeg p2) := ⟨_, rfl⟩
            have hP : va_P D vwCl (WS_X11_body cI cJ cZ cY a0 a0_tape a0_firstTakes r0_saved r0_sight r0_flyer r0_parser a1 a1_codes r1_eye r1_reads r1_flight a2 a2_own a2_bodyX a2_bodyY a2_bodyWayX a2_bodyWayY a2_bodyMark v0 v1 v2_21) H := by rw [ev2_21]; exact hP
            have hD : va_D A (WS_X11_body cI cJ cZ cY a0 a0_tape a0_firstTakes r0_saved r0_sight r0_flyer r0_parser a1 a1_codes r1_eye r1_reads r1_flight a2 a2_own a2_bodyX a2_bodyY a2_bodyWayX a2_bodyWayY a2_bodyMark v0 v1 v2_21) := by rw [ev2_21]; exact hD
            have hg := g_lte hg v2_21 ev2_21
            refine lv_aload hx hb dX11_body_127 (lv_at hl 1 rfl) ?_
            refine va_get (ci := 9) (v := .ref a2_bodyMark) (C := RX10) (T := TX10) (N := 9) hx hb htb uX10 hown hK.1 hP 3 rfl rfl 7 (by decide) (htb _ tg_62) (fun _ h9 => h9) rfl dX11_body_129 ?_
            refine lv_iload hx hb dX11_body_132 (lv_at hl 0 rfl) ?_
            refine lv_iload hx hb dX11_body_134 (lv_at hl 6 rfl) ?_
            obtain ⟨h_22, hg⟩ := g_gde hg
            refine va_iast hx hb hK.1 hP hD hS 9 0 rfl rfl (inB_vp h_22) dX11_body_136 (fun H locs hP hD hS => ?_)
            obtain ⟨v2_23, ev2_23⟩ : ∃ z, z = sX10_bodyMark v2_21 (upd (pX10_bodyMark v2_21) (x6_10 : Int32).toNatClampNeg p3) := ⟨_, rfl⟩
            have hP : va_P D vwCl (WS_X11_body cI cJ cZ cY a0 a0_tape a0_firstTakes r0_saved r0_sight r0_flyer r0_parser a1 a1_codes r1_eye r1_reads r1_flight a2 a2_own a2_bodyX a2_bodyY a2_bodyWayX a2_bodyWayY a2_bodyMark v0 v1 v2_23) H := by rw [ev2_23]; exact hP
            have hD : va_D A (WS_X11_body cI cJ cZ cY a0 a0_tape a0_firstTakes r0_saved r0_sight r0_flyer r0_parser a1 a1_codes r1_eye r1_reads r1_flight a2 a2_own a2_bodyX a2_bodyY a2_bodyWayX a2_bodyWayY a2_bodyMark v0 v1 v2_23) := by rw [ev2_23]; exact hD
            have hg := g_lte hg v2_23 ev2_23
            refine lv_aload hx hb dX11_body_137 (lv_at hl 1 rfl) ?_
            refine lv_iload hx hb dX11_body_139 (lv_at hl 0 rfl) ?_
            refine lv_iconst (v := 1) hx hb dX11_body_141 (by decide) ?_
            refine lv_iadd hx hb dX11_body_142 ?_
            refine lv_topi (fun x_24 ex_24 => ?_)
            have hg := g_lte hg x_24 ex_24
            refine va_put (ci := 9) (v := .int x_24) (ty := .int) (C := RX10) (T := TX10) (N := 9) hx hb htb uX10 tyX10 tyX10_ok nmX10 hown hK.1 hP hD hS 3 rfl rfl 8 (by decide) (htb _ tg_64) (fun _ h9 => h9) rfl (by decide +kernel) rfl rfl (Nat.le_of_ble_eq_true rfl) dX11_body_143 (fun H locs hP hD hS => ?_)
            obtain ⟨v2_25, ev2_25⟩ : ∃ z, z = sX10_bodies v2_23 x_24 := ⟨_, rfl⟩
            have hP : va_P D vwCl (WS_X11_body cI cJ cZ cY a0 a0_tape a0_firstTakes r0_saved r0_sight r0_flyer r0_parser a1 a1_codes r1_eye r1_reads r1_flight a2 a2_own a2_bodyX a2_bodyY a2_bodyWayX a2_bodyWayY a2_bodyMark v0 v1 v2_25) H := by rw [ev2_25]; exact hP
            have hD : va_D A (WS_X11_body cI cJ cZ cY a0 a0_tape a0_firstTakes r0_saved r0_sight r0_flyer r0_parser a1 a1_codes r1_eye r1_reads r1_flight a2 a2_own a2_bodyX a2_bodyY a2_bodyWayX a2_bodyWayY a2_bodyMark v0 v1 v2_25) := by rw [ev2_25]; exact hD
            have hg := g_lte hg v2_25 ev2_25
            refine lv_iload hx hb dX11_body_146 (lv_at hl 0 rfl) ?_
            have hg := Option.some.inj hg
            rw [hQ]
            exact W.iret (v := x6_10) hx hb hr (fun t ht hW => ⟨⟨x6_10, (v2_25), rfl, ⟨by rw [← hg], by rw [← hg]⟩, by rw [ht]; exact hP, hD⟩, hS.F ht⟩) hS.2.2 dX11_body_148
          · have hg := g_it hg c_9
            refine lv_iconst (v := (-1)) hx hb dX11_body_62 (by decide) ?_
            have hg := Option.some.inj hg
            rw [hQ]
            exact W.iret (v := (-1)) hx hb hr (fun t ht hW => ⟨⟨(-1), (v2), rfl, ⟨by rw [← hg], by rw [← hg]⟩, by rw [ht]; exact hP, hD⟩, hS.F ht⟩) hS.2.2 dX11_body_63
      · have hg := g_if hg c_5
        refine lv_iconst (v := (-1)) hx hb dX11_body_40 (by decide) ?_
        have hg := Option.some.inj hg
        rw [hQ]
        exact W.iret (v := (-1)) hx hb hr (fun t ht hW => ⟨⟨(-1), (v2), rfl, ⟨by rw [← hg], by rw [← hg]⟩, by rw [ht]; exact hP, hD⟩, hS.F ht⟩) hS.2.2 dX11_body_41

/-! ManyEyes.markOf(II)I -/
def WS_X11_markOf (cI cJ cZ cY : ClassId) (a0 a0_tape a0_firstTakes r0_saved r0_sight r0_flyer r0_parser a1 a1_codes r1_eye r1_reads r1_flight a2 a2_own a2_bodyX a2_bodyY a2_bodyWayX a2_bodyWayY a2_bodyMark : Nat) (v0 : BX11) (v1 : BX8) (v2 : BX10) : va_W := (GX11o cI cJ cZ cY a0 a0_tape a0_firstTakes a1 r0_saved r0_sight r0_flyer r0_parser v0) ++ ((GX8 cI cJ cZ cY a1 a1_codes a2 r1_eye r1_reads r1_flight v1) ++ ((GX10 cI cJ cZ cY a2 a2_own a2_bodyX a2_bodyY a2_bodyWayX a2_bodyWayY a2_bodyMark v2)))
def f_X11_markOf (v0 : BX11) (v1 : BX8) (v2 : BX10) (p0 : Int32) (p1 : Int32) : Option (Int32) := (f_X10_isCell v2 p0).bind (fun r_1 => if (r_1 : Int32) = 0 then (some (-1)) else ((f_X11_isTick p1).bind (fun r_3 => if (r_3 : Int32) = 0 then (some (-1)) else ((f_X10_seenMark v2 p0 p1).bind (fun r_5 => some r_5)))))
abbrev rm_X11_markOf : Room := { frames := 3, cells := 0, slots := 0, locals := 66 }
set_option maxHeartbeats 4000000 in
set_option maxRecDepth 100000 in
theorem k_X11_markOf {l : Launch} {D : va_G} {cI cJ cZ cY : ClassId} {tX tY : Nat} {sz : Nat} (a0 a0_tape a0_firstTakes r0_saved r0_sight r0_flyer r0_parser a1 a1_codes r1_eye r1_reads r1_flight a2 a2_own a2_bodyX a2_bodyY a2_bodyWayX a2_bodyWayY a2_bodyMark : Nat) (v0 : BX11) (v1 : BX8) (v2 : BX10) (p0 : Int32) (p1 : Int32) (res : Int32) (hg : f_X11_markOf v0 v1 v2 p0 p1 = some res) : Met l yX11_markOf (Cond.code yX11_markOf cX11_markOf 3 (some .int) :: TB) rm_X11_markOf (PC D cI cJ cZ cY tX tY [.ref a0, .int p0, .int p1] (WS_X11_markOf cI cJ cZ cY a0 a0_tape a0_firstTakes r0_saved r0_sight r0_flyer r0_parser a1 a1_codes r1_eye r1_reads r1_flight a2 a2_own a2_bodyX a2_bodyY a2_bodyWayX a2_bodyWayY a2_bodyMark v0 v1 v2) sz) (va_Qi (fun (r : Int32) (_ : Unit) => r = res) (BC D (fun _ : Unit => WS_X11_markOf cI cJ cZ cY a0 a0_tape a0_firstTakes r0_saved r0_sight r0_flyer r0_parser a1 a1_codes r1_eye r1_reads r1_flight a2 a2_own a2_bodyX a2_bodyY a2_bodyWayX a2_bodyWayY a2_bodyMark v0 v1 v2) (va_A (WS_X11_markOf cI cJ cZ cY a0 a0_tape a0_firstTakes r0_saved r0_sight r0_flyer r0_parser a1 a1_codes r1_eye r1_reads r1_flight a2 a2_own a2_bodyX a2_bodyY a2_bodyWayX a2_bodyWayY a2_bodyMark v0 v1 v2) sz)) (va_A (WS_X11_markOf cI cJ cZ cY a0 a0_tape a0_firstTakes r0_saved r0_sight r0_flyer r0_parser a1 a1_codes r1_eye r1_reads r1_flight a2 a2_own a2_bodyX a2_bodyY a2_bodyWayX a2_bodyWayY a2_bodyMark v0 v1 v2) sz)) 0 0 (va_A (WS_X11_markOf cI cJ cZ cY a0 a0_tape a0_firstTakes r0_saved r0_sight r0_flyer r0_parser a1 a1_codes r1_eye r1_reads r1_flight a2 a2_own a2_bodyX a2_bodyY a2_bodyWayX a2_bodyWayY a2_bodyMark v0 v1 v2) sz) := by
  refine Met.ofW (cc := cX11_markOf) (maxL := 3) (ret := (some .int)) (by decide) rfl ?_
  intro p e s m args below meth c s₁ B hml hv
  obtain ⟨hargs, hsz, hP, hK, hD0, hT⟩ := hv
  have hx := B.exec
  have hb := B.bytes
  have hr := B.returns
  have htb : ∀ w ∈ TB, w.before args s = true := fun w h => atoms_spec (ws := Cond.code yX11_markOf cX11_markOf 3 (some .int) :: TB) B.pre w (List.mem_cons_of_mem _ h)
  have hown : s.vm.findClass "ManyEyes" = some m.cls := findClass_of_methodNamed B.named
  have hlocks := B.notSynchronized
  subst hsz
  have hD := hD0.self (sz := s.heap.size)
  generalize hAe : va_A (WS_X11_markOf cI cJ cZ cY a0 a0_tape a0_firstTakes r0_saved r0_sight r0_flyer r0_parser a1 a1_codes r1_eye r1_reads r1_flight a2 a2_own a2_bodyX a2_bodyY a2_bodyWayX a2_bodyWayY a2_bodyMark v0 v1 v2) s.heap.size = A at hD hT ⊢
  have hA : ∀ q : Nat, s.heap.size ≤ q → A q := fun q h => by rw [← hAe]; exact Or.inr h
  have hS : va_S A s.heap s.heap [] := va_S.rf
  have hl := lv_entry ([.ref a0, .int p0, .int p1]) (n := 3) (Nat.le_of_ble_eq_true rfl)
  have he : entryFrame m args 3 = F0 m 0 (lg_sl ([.ref a0, .int p0, .int p1]) ++ List.replicate (3 - (lg_sl ([.ref a0, .int p0, .int p1])).length) Slot.unset).toArray [] := by rw [hargs, lg_entry_eq]
  rw [he]
  generalize (lg_sl ([.ref a0, .int p0, .int p1]) ++ List.replicate (3 - (lg_sl ([.ref a0, .int p0, .int p1])).length) Slot.unset).toArray = ls at hl ⊢
  have hl : lv_has ls 3 [(0, .ref a0), (1, .int p0), (2, .int p1)] := hl
  show W p l e rm_X11_markOf s m args below meth c s.heap [] 0 0 _ _
  refine W.genQ (fun Q hQ => ?_)
  generalize hHe : s.heap = H at hP ⊢
  have hS : va_S A s.heap H [] := by rw [← hHe]; exact va_S.rf
  generalize ([] : List Loc) = locs at hS ⊢
  unfold f_X11_markOf at hg
  refine lv_aload_n hx hb dX11_markOf_0 rfl (lv_at hl 0 rfl) ?_
  refine va_get (ci := 10) (v := .ref a1) (C := RX11) (T := TX11) (N := 9) hx hb htb uX11 hown hK.1 hP 0 rfl rfl 0 (by decide) (htb _ tg_412) (fun _ h9 => h9) rfl dX11_markOf_1 ?_
  refine va_get (ci := 7) (v := .ref a2) (C := RX8) (T := TX8) (N := 6) hx hb htb uX8 hown hK.1 hP 1 rfl rfl 0 (by decide) (htb _ tg_233) (fun _ h9 => h9) rfl dX11_markOf_4 ?_
  refine lv_iload_n hx hb dX11_markOf_7 rfl (lv_at hl 1 rfl) ?_
  obtain ⟨r_1, hr_1, hg⟩ := g_bd hg
  refine cc_i (va_runV (C := RX10) (As := [.int p0]) (rest := []) ⟨hx, hb, hml, hown, htb⟩ (k_X10_isCell a2 a2_own a2_bodyX a2_bodyY a2_bodyWayX a2_bodyWayY a2_bodyMark v2 p0 r_1 hr_1) (cw_V 1 htb tg_447 tg_3 tg_444 tg_445 tg_446 rfl rfl (by decide +kernel) ⟨Nat.le_of_ble_eq_true rfl, Nat.le_of_ble_eq_true rfl⟩) ⟨PC.blind, va_recv hK.1 hP (ci := 9) (q0 := 3) rfl rfl, PC.pre hK hT hP hD hS hA [3, 4, 5, 6, 7, 8, 9] rfl (by decide)⟩ rfl rfl hl.1 rfl (lv_room (Nat.le_of_ble_eq_true rfl)) dX11_markOf_8 ⟨Nat.le_of_ble_eq_true rfl, Nat.le_of_ble_eq_true rfl⟩) hP hD hS hA [3, 4, 5, 6, 7, 8, 9] [0, 1, 2] rfl rfl (by decide) (by decide) (fun r9 u9 H locs hw hP hD hS => ?_)
  have hw := hw.symm
  subst hw
  have hP : va_P D vwCl (WS_X11_markOf cI cJ cZ cY a0 a0_tape a0_firstTakes r0_saved r0_sight r0_flyer r0_parser a1 a1_codes r1_eye r1_reads r1_flight a2 a2_own a2_bodyX a2_bodyY a2_bodyWayX a2_bodyWayY a2_bodyMark v0 v1 v2) H := hP.sub [0, 1, 2, 3, 4, 5, 6, 7, 8, 9] rfl
  have hD : va_D A (WS_X11_markOf cI cJ cZ cY a0 a0_tape a0_firstTakes r0_saved r0_sight r0_flyer r0_parser a1 a1_codes r1_eye r1_reads r1_flight a2 a2_own a2_bodyX a2_bodyY a2_bodyWayX a2_bodyWayY a2_bodyMark v0 v1 v2) := hD.sub [0, 1, 2, 3, 4, 5, 6, 7, 8, 9] (by decide) rfl
  refine lv_if_eq (tgt := 36) hx hb dX11_markOf_11 (by decide) (fun c_2 => ?_) (fun c_2 => ?_)
  · have hg := g_it hg c_2
    refine lv_iconst (v := (-1)) hx hb dX11_markOf_36 (by decide) ?_
    have hg := Option.some.inj hg
    rw [hQ]
    exact W.iret (v := (-1)) hx hb hr (fun t ht hW => ⟨⟨(-1), (), rfl, hg, by rw [ht]; exact hP, hD⟩, hS.F ht⟩) hS.2.2 dX11_markOf_37
  · have hg := g_if hg c_2
    refine lv_iload_n hx hb dX11_markOf_14 rfl (lv_at hl 2 rfl) ?_
    obtain ⟨r_3, hr_3, hg⟩ := g_bd hg
    refine cc_i (va_runS (As := [.int p1]) (rest := []) ⟨hx, hb, hml, hown, htb⟩ (k_X11_isTick p1 r_3 hr_3) (cw_S 1 htb tg_466 tg_1 tg_464 tg_465 rfl rfl (by decide +kernel) ⟨Nat.le_of_ble_eq_true rfl, Nat.le_of_ble_eq_true rfl⟩) ⟨PC.blind, PC.pre hK hT hP hD hS hA [] rfl (by decide)⟩ rfl rfl hl.1 rfl (lv_room (Nat.le_of_ble_eq_true rfl)) dX11_markOf_15 ⟨Nat.le_of_ble_eq_true rfl, Nat.le_of_ble_eq_true rfl⟩) hP hD hS hA [] [0, 1, 2, 3, 4, 5, 6, 7, 8, 9] rfl rfl (by decide) (by decide) (fun r9 u9 H locs hw hP hD hS => ?_)
    have hw := hw.symm
    subst hw
    have hP : va_P D vwCl (WS_X11_markOf cI cJ cZ cY a0 a0_tape a0_firstTakes r0_saved r0_sight r0_flyer r0_parser a1 a1_codes r1_eye r1_reads r1_flight a2 a2_own a2_bodyX a2_bodyY a2_bodyWayX a2_bodyWayY a2_bodyMark v0 v1 v2) H := hP.sub [0, 1, 2, 3, 4, 5, 6, 7, 8, 9] rfl
    have hD : va_D A (WS_X11_markOf cI cJ cZ cY a0 a0_tape a0_firstTakes r0_saved r0_sight r0_flyer r0_parser a1 a1_codes r1_eye r1_reads r1_flight a2 a2_own a2_bodyX a2_bodyY a2_bodyWayX a2_bodyWayY a2_bodyMark v0 v1 v2) := hD.sub [0, 1, 2, 3, 4, 5, 6, 7, 8, 9] (by decide) rfl
    refine lv_if_eq (tgt := 36) hx hb dX11_markOf_18 (by decide) (fun c_4 => ?_) (fun c_4 => ?_)
    · have hg := g_it hg c_4
      refine lv_iconst (v := (-1)) hx hb dX11_markOf_36 (by decide) ?_
      have hg := Option.some.inj hg
      rw [hQ]
      exact W.iret (v := (-1)) hx hb hr (fun t ht hW => ⟨⟨(-1), (), rfl, hg, by rw [ht]; exact hP, hD⟩, hS.F ht⟩) hS.2.2 dX11_markOf_37
    · have hg := g_if hg c_4
      refine lv_aload_n hx hb dX11_markOf_21 rfl (lv_at hl 0 rfl) ?_
      refine va_get (ci := 10) (v := .ref a1) (C := RX11) (T := TX11) (N := 9) hx hb htb uX11 hown hK.1 hP 0 rfl rfl 0 (by decide) (htb _ tg_412) (fun _ h9 => h9) rfl dX11_markOf_22 ?_
      refine va_get (ci := 7) (v := .ref a2) (C := RX8) (T := TX8) (N := 6) hx hb htb uX8 hown hK.1 hP 1 rfl rfl 0 (by decide) (htb _ tg_233) (fun _ h9 => h9) rfl dX11_markOf_25 ?_
      refine lv_iload_n hx hb dX11_markOf_28 rfl (lv_at hl 1 rfl) ?_
      refine lv_iload_n hx hb dX11_markOf_29 rfl (lv_at hl 2 rfl) ?_
      obtain ⟨r_5, hr_5, hg⟩ := g_bd hg
      refine cc_i (va_runV (C := RX10) (As := [.int p0, .int p1]) (rest := []) ⟨hx, hb, hml, hown, htb⟩ (k_X10_seenMark a2 a2_own a2_bodyX a2_bodyY a2_bodyWayX a2_bodyWayY a2_bodyMark v2 p0 p1 r_5 hr_5) (cw_V 2 htb tg_470 tg_3 tg_467 tg_468 tg_469 rfl rfl (by decide +kernel) ⟨Nat.le_of_ble_eq_true rfl, Nat.le_of_ble_eq_true rfl⟩) ⟨PC.blind, va_recv hK.1 hP (ci := 9) (q0 := 3) rfl rfl, PC.pre hK hT hP hD hS hA [3, 4, 5, 6, 7, 8, 9] rfl (by decide)⟩ rfl rfl hl.1 rfl (lv_room (Nat.le_of_ble_eq_true rfl)) dX11_markOf_30 ⟨Nat.le_of_ble_eq_true rfl, Nat.le_of_ble_eq_true rfl⟩) hP hD hS hA [3, 4, 5, 6, 7, 8, 9] [0, 1, 2] rfl rfl (by decide) (by decide) (fun r9 u9 H locs hw hP hD hS => ?_)
      have hw := hw.symm
      subst hw
      have hP : va_P D vwCl (WS_X11_markOf cI cJ cZ cY a0 a0_tape a0_firstTakes r0_saved r0_sight r0_flyer r0_parser a1 a1_codes r1_eye r1_reads r1_flight a2 a2_own a2_bodyX a2_bodyY a2_bodyWayX a2_bodyWayY a2_bodyMark v0 v1 v2) H := hP.sub [0, 1, 2, 3, 4, 5, 6, 7, 8, 9] rfl
      have hD : va_D A (WS_X11_markOf cI cJ cZ cY a0 a0_tape a0_firstTakes r0_saved r0_sight r0_flyer r0_parser a1 a1_codes r1_eye r1_reads r1_flight a2 a2_own a2_bodyX a2_bodyY a2_bodyWayX a2_bodyWayY a2_bodyMark v0 v1 v2) := hD.sub [0, 1, 2, 3, 4, 5, 6, 7, 8, 9] (by decide) rfl
      refine lv_goto (tgt := 37) hx hb dX11_markOf_33 (by decide) ?_
      have hg := Option.some.inj hg
      rw [hQ]
      exact W.iret (v := r_5) hx hb hr (fun t ht hW => ⟨⟨r_5, (), rfl, hg, by rw [ht]; exact hP, hD⟩, hS.F ht⟩) hS.2.2 dX11_markOf_37

/-! ManyEyes.lens(II)I -/
def WS_X11_lens (cI cJ cZ cY : ClassId) (a0 a0_tape a0_firstTakes r0_saved r0_sight r0_flyer r0_parser a1 a1_codes r1_world r1_reads r1_flight a2 a2_lensSide a2_lensWidth a2_pairA a2_pairB a2_pairDelay : Nat) (v0 : BX11) (v1 : BX8) (v2 : BX1) : va_W := (GX11o cI cJ cZ cY a0 a0_tape a0_firstTakes a1 r0_saved r0_sight r0_flyer r0_parser v0) ++ ((GX8 cI cJ cZ cY a1 a1_codes r1_world a2 r1_reads r1_flight v1) ++ ((GX1 cI cJ cZ cY a2 a2_lensSide a2_lensWidth a2_pairA a2_pairB a2_pairDelay v2)))
def f_X11_lens (v0 : BX11) (v1 : BX8) (v2 : BX1) (p0 : Int32) (p1 : Int32) : Option (Int32 × BX1) := (f_X11_isSide p0).bind (fun r_1 => if (r_1 : Int32) = 0 then (some ((-1), v2)) else ((f_X11_isWithin p1 0 7).bind (fun r_3 => if (r_3 : Int32) = 0 then (some ((-1), v2)) else (if ((pX1_lenses v2) : Int32) < 16 then (g_lt ((pX1_lenses v2) : Int32) (fun x4_6 => g_gd (inB x4_6 16) (g_lt (sX1_lensSide v2 (upd (pX1_lensSide v2) (x4_6 : Int32).toNatClampNeg p0)) (fun v2_8 => g_gd (inB x4_6 16) (g_lt (sX1_lensWidth v2_8 (upd (pX1_lensWidth v2_8) (x4_6 : Int32).toNatClampNeg p1)) (fun v2_10 => g_lt ((x4_6 + 1) : Int32) (fun x_11 => g_lt (sX1_lenses v2_10 x_11) (fun v2_12 => some (x4_6, v2_12))))))))) else (some ((-1), v2))))))
abbrev rm_X11_lens : Room := { frames := 2, cells := 0, slots := 0, locals := 42 }
set_option maxHeartbeats 4000000 in
set_option maxRecDepth 100000 in
theorem k_X11_lens {l : Launch} {D : va_G} {cI cJ cZ cY : ClassId} {tX tY : Nat} {sz : Nat} (a0 a0_tape a0_firstTakes r0_saved r0_sight r0_flyer r0_parser a1 a1_codes r1_world r1_reads r1_flight a2 a2_lensSide a2_lensWidth a2_pairA a2_pairB a2_pairDelay : Nat) (v0 : BX11) (v1 : BX8) (v2 : BX1) (p0 : Int32) (p1 : Int32) (res : Int32 × BX1) (hg : f_X11_lens v0 v1 v2 p0 p1 = some res) : Met l yX11_lens (Cond.code yX11_lens cX11_lens 5 (some .int) :: TB) rm_X11_lens (PC D cI cJ cZ cY tX tY [.ref a0, .int p0, .int p1] (WS_X11_lens cI cJ cZ cY a0 a0_tape a0_firstTakes r0_saved r0_sight r0_flyer r0_parser a1 a1_codes r1_world r1_reads r1_flight a2 a2_lensSide a2_lensWidth a2_pairA a2_pairB a2_pairDelay v0 v1 v2) sz) (va_Qi (fun (r : Int32) (u : BX1) => r = res.1 ∧ u = res.2) (BC D (fun u : BX1 => WS_X11_lens cI cJ cZ cY a0 a0_tape a0_firstTakes r0_saved r0_sight r0_flyer r0_parser a1 a1_codes r1_world r1_reads r1_flight a2 a2_lensSide a2_lensWidth a2_pairA a2_pairB a2_pairDelay v0 v1 u) (va_A (WS_X11_lens cI cJ cZ cY a0 a0_tape a0_firstTakes r0_saved r0_sight r0_flyer r0_parser a1 a1_codes r1_world r1_reads r1_flight a2 a2_lensSide a2_lensWidth a2_pairA a2_pairB a2_pairDelay v0 v1 v2) sz)) (va_A (WS_X11_lens cI cJ cZ cY a0 a0_tape a0_firstTakes r0_saved r0_sight r0_flyer r0_parser a1 a1_codes r1_world r1_reads r1_flight a2 a2_lensSide a2_lensWidth a2_pairA a2_pairB a2_pairDelay v0 v1 v2) sz)) 0 0 (va_A (WS_X11_lens cI cJ cZ cY a0 a0_tape a0_firstTakes r0_saved r0_sight r0_flyer r0_parser a1 a1_codes r1_world r1_reads r1_flight a2 a2_lensSide a2_lensWidth a2_pairA a2_pairB a2_pairDelay v0 v1 v2) sz) := by
  refine Met.ofW (cc := cX11_lens) (maxL := 5) (ret := (some .int)) (by decide) rfl ?_
  intro p e s m args below meth c s₁ B hml hv
  obtain ⟨hargs, hsz, hP, hK, hD0, hT⟩ := hv
  have hx := B.exec
  have hb := B.bytes
  have hr := B.returns
  have htb : ∀ w ∈ TB, w.before args s = true := fun w h => atoms_spec (ws := Cond.code yX11_lens cX11_lens 5 (some .int) :: TB) B.pre w (List.mem_cons_of_mem _ h)
  have hown : s.vm.findClass "ManyEyes" = some m.cls := findClass_of_methodNamed B.named
  have hlocks := B.notSynchronized
  subst hsz
  have hD := hD0.self (sz := s.heap.size)
  generalize hAe : va_A (WS_X11_lens cI cJ cZ cY a0 a0_tape a0_firstTakes r0_saved r0_sight r0_flyer r0_parser a1 a1_codes r1_world r1_reads r1_flight a2 a2_lensSide a2_lensWidth a2_pairA a2_pairB a2_pairDelay v0 v1 v2) s.heap.size = A at hD hT ⊢
  have hA : ∀ q : Nat, s.heap.size ≤ q → A q := fun q h => by rw [← hAe]; exact Or.inr h
  have hS : va_S A s.heap s.heap [] := va_S.rf
  have hl := lv_entry ([.ref a0, .int p0, .int p1]) (n := 5) (Nat.le_of_ble_eq_true rfl)
  have he : entryFrame m args 5 = F0 m 0 (lg_sl ([.ref a0, .int p0, .int p1]) ++ List.replicate (5 - (lg_sl ([.ref a0, .int p0, .int p1])).length) Slot.unset).toArray [] := by rw [hargs, lg_entry_eq]
  rw [he]
  generalize (lg_sl ([.ref a0, .int p0, .int p1]) ++ List.replicate (5 - (lg_sl ([.ref a0, .int p0, .int p1])).length) Slot.unset).toArray = ls at hl ⊢
  have hl : lv_has ls 5 [(0, .ref a0), (1, .int p0), (2, .int p1)] := hl
  show W p l e rm_X11_lens s m args below meth c s.heap [] 0 0 _ _
  refine W.genQ (fun Q hQ => ?_)
  generalize hHe : s.heap = H at hP ⊢
  have hS : va_S A s.heap H [] := by rw [← hHe]; exact va_S.rf
  generalize ([] : List Loc) = locs at hS ⊢
  unfold f_X11_lens at hg
  refine lv_aload_n hx hb dX11_lens_0 rfl (lv_at hl 0 rfl) ?_
  refine va_get (ci := 10) (v := .ref a1) (C := RX11) (T := TX11) (N := 9) hx hb htb uX11 hown hK.1 hP 0 rfl rfl 0 (by decide) (htb _ tg_412) (fun _ h9 => h9) rfl dX11_lens_1 ?_
  refine va_get (ci := 7) (v := .ref a2) (C := RX8) (T := TX8) (N := 6) hx hb htb uX8 hown hK.1 hP 1 rfl rfl 1 (by decide) (htb _ tg_237) (fun _ h9 => h9) rfl dX11_lens_4 ?_
  refine lv_astore_n (lv' := [(3, .ref a2), (0, .ref a0), (1, .int p0), (2, .int p1)]) hx hb dX11_lens_7 rfl hl (by decide) rfl (fun ls hl => ?_)
  refine lv_iload_n hx hb dX11_lens_8 rfl (lv_at hl 2 rfl) ?_
  obtain ⟨r_1, hr_1, hg⟩ := g_bd hg
  refine cc_i (va_runS (As := [.int p0]) (rest := []) ⟨hx, hb, hml, hown, htb⟩ (k_X11_isSide p0 r_1 hr_1) (cw_S 1 htb tg_482 tg_1 tg_480 tg_481 rfl rfl (by decide +kernel) ⟨Nat.le_of_ble_eq_true rfl, Nat.le_of_ble_eq_true rfl⟩) ⟨PC.blind, PC.pre hK hT hP hD hS hA [] rfl (by decide)⟩ rfl rfl hl.1 rfl (lv_room (Nat.le_of_ble_eq_true rfl)) dX11_lens_9 ⟨Nat.le_of_ble_eq_true rfl, Nat.le_of_ble_eq_true rfl⟩) hP hD hS hA [] [0, 1, 2, 3, 4, 5, 6, 7, 8] rfl rfl (by decide) (by decide) (fun r9 u9 H locs hw hP hD hS => ?_)
  have hw := hw.symm
  subst hw
  have hP : va_P D vwCl (WS_X11_lens cI cJ cZ cY a0 a0_tape a0_firstTakes r0_saved r0_sight r0_flyer r0_parser a1 a1_codes r1_world r1_reads r1_flight a2 a2_lensSide a2_lensWidth a2_pairA a2_pairB a2_pairDelay v0 v1 v2) H := hP.sub [0, 1, 2, 3, 4, 5, 6, 7, 8] rfl
  have hD : va_D A (WS_X11_lens cI cJ cZ cY a0 a0_tape a0_firstTakes r0_saved r0_sight r0_flyer r0_parser a1 a1_codes r1_world r1_reads r1_flight a2 a2_lensSide a2_lensWidth a2_pairA a2_pairB a2_pairDelay v0 v1 v2) := hD.sub [0, 1, 2, 3, 4, 5, 6, 7, 8] (by decide) rfl
  refine lv_if_eq (tgt := 34) hx hb dX11_lens_12 (by decide) (fun c_2 => ?_) (fun c_2 => ?_)
  · have hg := g_it hg c_2
    refine lv_iconst (v := (-1)) hx hb dX11_lens_34 (by decide) ?_
    have hg := Option.some.inj hg
    rw [hQ]
    exact W.iret (v := (-1)) hx hb hr (fun t ht hW => ⟨⟨(-1), (v2), rfl, ⟨by rw [← hg], by rw [← hg]⟩, by rw [ht]; exact hP, hD⟩, hS.F ht⟩) hS.2.2 dX11_lens_35
  · have hg := g_if hg c_2
    refine lv_iload_n hx hb dX11_lens_15 rfl (lv_at hl 3 rfl) ?_
    refine lv_iconst (v := 0) hx hb dX11_lens_16 (by decide) ?_
    refine lv_bipush (v := 7) hx hb dX11_lens_17 (by decide) ?_
    obtain ⟨r_3, hr_3, hg⟩ := g_bd hg
    refine cc_i (va_runS (As := [.int p1, .int 0, .int 7]) (rest := []) ⟨hx, hb, hml, hown, htb⟩ (k_X11_isWithin p1 0 7 r_3 hr_3) (cw_S 3 htb tg_450 tg_1 tg_451 tg_449 rfl rfl (by decide +kernel) ⟨Nat.le_of_ble_eq_true rfl, Nat.le_of_ble_eq_true rfl⟩) ⟨PC.blind, PC.pre hK hT hP hD hS hA [] rfl (by decide)⟩ rfl rfl hl.1 rfl (lv_room (Nat.le_of_ble_eq_true rfl)) dX11_lens_19 ⟨Nat.le_of_ble_eq_true rfl, Nat.le_of_ble_eq_true rfl⟩) hP hD hS hA [] [0, 1, 2, 3, 4, 5, 6, 7, 8] rfl rfl (by decide) (by decide) (fun r9 u9 H locs hw hP hD hS => ?_)
    have hw := hw.symm
    subst hw
    have hP : va_P D vwCl (WS_X11_lens cI cJ cZ cY a0 a0_tape a0_firstTakes r0_saved r0_sight r0_flyer r0_parser a1 a1_codes r1_world r1_reads r1_flight a2 a2_lensSide a2_lensWidth a2_pairA a2_pairB a2_pairDelay v0 v1 v2) H := hP.sub [0, 1, 2, 3, 4, 5, 6, 7, 8] rfl
    have hD : va_D A (WS_X11_lens cI cJ cZ cY a0 a0_tape a0_firstTakes r0_saved r0_sight r0_flyer r0_parser a1 a1_codes r1_world r1_reads r1_flight a2 a2_lensSide a2_lensWidth a2_pairA a2_pairB a2_pairDelay v0 v1 v2) := hD.sub [0, 1, 2, 3, 4, 5, 6, 7, 8] (by decide) rfl
    refine lv_if_eq (tgt := 34) hx hb dX11_lens_22 (by decide) (fun c_4 => ?_) (fun c_4 => ?_)
    · have hg := g_it hg c_4
      refine lv_iconst (v := (-1)) hx hb dX11_lens_34 (by decide) ?_
      have hg := Option.some.inj hg
      rw [hQ]
      exact W.iret (v := (-1)) hx hb hr (fun t ht hW => ⟨⟨(-1), (v2), rfl, ⟨by rw [← hg], by rw [← hg]⟩, by rw [ht]; exact hP, hD⟩, hS.F ht⟩) hS.2.2 dX11_lens_35
    · have hg := g_if hg c_4
      refine lv_aload_n hx hb dX11_lens_25 rfl (lv_at hl 0 rfl) ?_
      refine va_get (ci := 0) (v := .int (pX1_lenses v2)) (C := RX1) (T := TX1) (N := 7) hx hb htb uX1 hown hK.1 hP 3 rfl rfl 5 (by decide) (htb _ tg_109) (fun _ h9 => h9) rfl dX11_lens_26 ?_
      refine lv_bipush (v := 16) hx hb dX11_lens_29 (by decide) ?_
      refine lv_icmp_lt (tgt := 36) hx hb dX11_lens_31 (by decide) (fun c_5 => ?_) (fun c_5 => ?_)
      · have hg := g_it hg c_5
        refine lv_aload_n hx hb dX11_lens_36 rfl (lv_at hl 0 rfl) ?_
        refine va_get (ci := 0) (v := .int (pX1_lenses v2)) (C := RX1) (T := TX1) (N := 7) hx hb htb uX1 hown hK.1 hP 3 rfl rfl 5 (by decide) (htb _ tg_109) (fun _ h9 => h9) rfl dX11_lens_37 ?_
        refine lv_topi (fun x4_6 ex4_6 => ?_)
        have hg := g_lte hg x4_6 ex4_6
        refine lv_istore (lv' := [(4, .int x4_6), (3, .ref a2), (0, .ref a0), (1, .int p0), (2, .int p1)]) hx hb dX11_lens_40 hl (by decide) rfl (fun ls hl => ?_)
        refine lv_aload_n hx hb dX11_lens_42 rfl (lv_at hl 1 rfl) ?_
        refine va_get (ci := 0) (v := .ref a2_lensSide) (C := RX1) (T := TX1) (N := 7) hx hb htb uX1 hown hK.1 hP 3 rfl rfl 0 (by decide) (htb _ tg_93) (fun _ h9 => h9) rfl dX11_lens_43 ?_
        refine lv_iload hx hb dX11_lens_46 (lv_at hl 0 rfl) ?_
        refine lv_iload_n hx hb dX11_lens_48 rfl (lv_at hl 3 rfl) ?_
        obtain ⟨h_7, hg⟩ := g_gde hg
        refine va_iast hx hb hK.1 hP hD hS 4 0 rfl rfl (inB_vp h_7) dX11_lens_49 (fun H locs hP hD hS => ?_)
        obtain ⟨v2_8, ev2_8⟩ : ∃ z, z = sX1_lensSide v2 (upd (pX1_lensSide v2) (x4_6 : Int32).toNatClampNeg p0) := ⟨_, rfl⟩
        have hP : va_P D vwCl (WS_X11_lens cI cJ cZ cY a0 a0_tape a0_firstTakes r0_saved r0_sight r0_flyer r0_parser a1 a1_codes r1_world r1_reads r1_flight a2 a2_lensSide a2_lensWidth a2_pairA a2_pairB a2_pairDelay v0 v1 v2_8) H := by rw [ev2_8]; exact hP
        have hD : va_D A (WS_X11_lens cI cJ cZ cY a0 a0_tape a0_firstTakes r0_saved r0_sight r0_flyer r0_parser a1 a1_codes r1_world r1_reads r1_flight a2 a2_lensSide a2_lensWidth a2_pairA a2_pairB a2_pairDelay v0 v1 v2_8) := by rw [ev2_8]; exact hD
        have hg := g_lte hg v2_8 ev2_8
        refine lv_aload_n hx hb dX11_lens_50 rfl (lv_at hl 1 rfl) ?_
        refine va_get (ci := 0) (v := .ref a2_lensWidth) (C := RX1) (T := TX1) (N := 7) hx hb htb uX1 hown hK.1 hP 3 rfl rfl 1 (by decide) (htb _ tg_96) (fun _ h9 => h9) rfl dX11_lens_51 ?_
        refine lv_iload hx hb dX11_lens_54 (lv_at hl 0 rfl) ?_
        refine lv_iload_n hx hb dX11_lens_56 rfl (lv_at hl 4 rfl) ?_
        obtain ⟨h_9, hg⟩ := g_gde hg
        refine va_iast hx hb hK.1 hP hD hS 5 0 rfl rfl (inB_vp h_9) dX11_lens_57 (fun H locs hP hD hS => ?_)
        obtain ⟨v2_10, ev2_10⟩ : ∃ z, z = sX1_lensWidth v2_8 (upd (pX1_lensWidth v2_8) (x4_6 : Int32).toNatClampNeg p1) := ⟨_, rfl⟩
        have hP : va_P D vwCl (WS_X11_lens cI cJ cZ cY a0 a0_tape a0_firstTakes r0_saved r0_sight r0_flyer r0_parser a1 a1_codes r1_world r1_reads r1_flight a2 a2_lensSide a2_lensWidth a2_pairA a2_pairB a2_pairDelay v0 v1 v2_10) H := by rw [ev2_10]; exact hP
        have hD : va_D A (WS_X11_lens cI cJ cZ cY a0 a0_tape a0_firstTakes r0_saved r0_sight r0_flyer r0_parser a1 a1_codes r1_world r1_reads r1_flight a2 a2_lensSide a2_lensWidth a2_pairA a2_pairB a2_pairDelay v0 v1 v2_10) := by rw [ev2_10]; exact hD
        have hg := g_lte hg v2_10 ev2_10
        refine lv_aload_n hx hb dX11_lens_58 rfl (lv_at hl 1 rfl) ?_
        refine lv_iload hx hb dX11_lens_59 (lv_at hl 0 rfl) ?_
        refine lv_iconst (v := 1) hx hb dX11_lens_61 (by decide) ?_
        refine lv_iadd hx hb dX11_lens_62 ?_
        refine lv_topi (fun x_11 ex_11 => ?_)
        have hg := g_lte hg x_11 ex_11
        refine va_put (ci := 0) (v := .int x_11) (ty := .int) (C := RX1) (T := TX1) (N := 7) hx hb htb uX1 tyX1 tyX1_ok nmX1 hown hK.1 hP hD hS 3 rfl rfl 5 (by decide) (htb _ tg_109) (fun _ h9 => h9) rfl (by decide +kernel) rfl rfl (Nat.le_of_ble_eq_true rfl) dX11_lens_63 (fun H locs hP hD hS => ?_)
        obtain ⟨v2_12, ev2_12⟩ : ∃ z, z = sX1_lenses v2_10 x_11 := ⟨_, rfl⟩
        have hP : va_P D vwCl (WS_X11_lens cI cJ cZ cY a0 a0_tape a0_firstTakes r0_saved r0_sight r0_flyer r0_parser a1 a1_codes r1_world r1_reads r1_flight a2 a2_lensSide a2_lensWidth a2_pairA a2_pairB a2_pairDelay v0 v1 v2_12) H := by rw [ev2_12]; exact hP
        have hD : va_D A (WS_X11_lens cI cJ cZ cY a0 a0_tape a0_firstTakes r0_saved r0_sight r0_flyer r0_parser a1 a1_codes r1_world r1_reads r1_flight a2 a2_lensSide a2_lensWidth a2_pairA a2_pairB a2_pairDelay v0 v1 v2_12) := by rw [ev2_12]; exact hD
        have hg := g_lte hg v2_12 ev2_12
        refine lv_iload hx hb dX11_lens_66 (lv_at hl 0 rfl) ?_
        have hg := Option.some.inj hg
        rw [hQ]
        exact W.iret (v := x4_6) hx hb hr (fun t ht hW => ⟨⟨x4_6, (v2_12), rfl, ⟨by rw [← hg], by rw [← hg]⟩, by rw [ht]; exact hP, hD⟩, hS.F ht⟩) hS.2.2 dX11_lens_68
      · have hg := g_if hg c_5
        refine lv_iconst (v := (-1)) hx hb dX11_lens_34 (by decide) ?_
        have hg := Option.some.inj hg
        rw [hQ]
        exact W.iret (v := (-1)) hx hb hr (fun t ht hW => ⟨⟨(-1), (v2), rfl, ⟨by rw [← hg], by rw [← hg]⟩, by rw [ht]; exact hP, hD⟩, hS.F ht⟩) hS.2.2 dX11_lens_35

/-! ManyEyes.pair(III)I -/
def WS_X11_pair (cI cJ cZ cY : ClassId) (a0 a0_tape a0_firstTakes r0_saved r0_sight r0_flyer r0_parser a1 a1_codes r1_world r1_reads r1_flight a2 a2_lensSide a2_lensWidth a2_pairA a2_pairB a2_pairDelay : Nat) (v0 : BX11) (v1 : BX8) (v2 : BX1) : va_W := (GX11o cI cJ cZ cY a0 a0_tape a0_firstTakes a1 r0_saved r0_sight r0_flyer r0_parser v0) ++ ((GX8 cI cJ cZ cY a1 a1_codes r1_world a2 r1_reads r1_flight v1) ++ ((GX1 cI cJ cZ cY a2 a2_lensSide a2_lensWidth a2_pairA a2_pairB a2_pairDelay v2)))
def f_X11_pair (v0 : BX11) (v1 : BX8) (v2 : BX1) (p0 : Int32) (p1 : Int32) (p2 : Int32) : Option (Int32 × BX1) := (f_X1_isLens v2 p0).bind (fun r_1 => if (r_1 : Int32) = 0 then (some ((-1), v2)) else ((f_X1_isLens v2 p1).bind (fun r_3 => if (r_3 : Int32) = 0 then (some ((-1), v2)) else (if (p0 : Int32) = p1 then (some ((-1), v2)) else ((f_X11_isWithin p2 1 8).bind (fun r_6 => if (r_6 : Int32) = 0 then (some ((-1), v2)) else (if ((pX1_pairs v2) : Int32) < 16 then (g_lt ((pX1_pairs v2) : Int32) (fun x5_9 => g_gd (inB x5_9 16) (g_lt (sX1_pairA v2 (upd (pX1_pairA v2) (x5_9 : Int32).toNatClampNeg p0)) (fun v2_11 => g_gd (inB x5_9 16) (g_lt (sX1_pairB v2_11 (upd (pX1_pairB v2_11) (x5_9 : Int32).toNatClampNeg p1)) (fun v2_13 => g_gd (inB x5_9 16) (g_lt (sX1_pairDelay v2_13 (upd (pX1_pairDelay v2_13) (x5_9 : Int32).toNatClampNeg p2)) (fun v2_15 => g_lt ((x5_9 + 1) : Int32) (fun x_16 => g_lt (sX1_pairs v2_15 x_16) (fun v2_17 => some (x5_9, v2_17))))))))))) else (some ((-1), v2)))))))))
abbrev rm_X11_pair : Room := { frames := 2, cells := 0, slots := 0, locals := 43 }
set_option maxHeartbeats 4000000 in
set_option maxRecDepth 100000 in
theorem k_X11_pair {l : Launch} {D : va_G} {cI cJ cZ cY : ClassId} {tX tY : Nat} {sz : Nat} (a0 a0_tape a0_firstTakes r0_saved r0_sight r0_flyer r0_parser a1 a1_codes r1_world r1_reads r1_flight a2 a2_lensSide a2_lensWidth a2_pairA a2_pairB a2_pairDelay : Nat) (v0 : BX11) (v1 : BX8) (v2 : BX1) (p0 : Int32) (p1 : Int32) (p2 : Int32) (res : Int32 × BX1) (hg : f_X11_pair v0 v1 v2 p0 p1 p2 = some res) : Met l yX11_pair (Cond.code yX11_pair cX11_pair 6 (some .int) :: TB) rm_X11_pair (PC D cI cJ cZ cY tX tY [.ref a0, .int p0, .int p1, .int p2] (WS_X11_pair cI cJ cZ cY a0 a0_tape a0_firstTakes r0_saved r0_sight r0_flyer r0_parser a1 a1_codes r1_world r1_reads r1_flight a2 a2_lensSide a2_lensWidth a2_pairA a2_pairB a2_pairDelay v0 v1 v2) sz) (va_Qi (fun (r : Int32) (u : BX1) => r = res.1 ∧ u = res.2) (BC D (fun u : BX1 => WS_X11_pair cI cJ cZ cY a0 a0_tape a0_firstTakes r0_saved r0_sight r0_flyer r0_parser a1 a1_codes r1_world r1_reads r1_flight a2 a2_lensSide a2_lensWidth a2_pairA a2_pairB a2_pairDelay v0 v1 u) (va_A (WS_X11_pair cI cJ cZ cY a0 a0_tape a0_firstTakes r0_saved r0_sight r0_flyer r0_parser a1 a1_codes r1_world r1_reads r1_flight a2 a2_lensSide a2_lensWidth a2_pairA a2_pairB a2_pairDelay v0 v1 v2) sz)) (va_A (WS_X11_pair cI cJ cZ cY a0 a0_tape a0_firstTakes r0_saved r0_sight r0_flyer r0_parser a1 a1_codes r1_world r1_reads r1_flight a2 a2_lensSide a2_lensWidth a2_pairA a2_pairB a2_pairDelay v0 v1 v2) sz)) 0 0 (va_A (WS_X11_pair cI cJ cZ cY a0 a0_tape a0_firstTakes r0_saved r0_sight r0_flyer r0_parser a1 a1_codes r1_world r1_reads r1_flight a2 a2_lensSide a2_lensWidth a2_pairA a2_pairB a2_pairDelay v0 v1 v2) sz) := by
  refine Met.ofW (cc := cX11_pair) (maxL := 6) (ret := (some .int)) (by decide) rfl ?_
  intro p e s m args below meth c s₁ B hml hv
  obtain ⟨hargs, hsz, hP, hK, hD0, hT⟩ := hv
  have hx := B.exec
  have hb := B.bytes
  have hr := B.returns
  have htb : ∀ w ∈ TB, w.before args s = true := fun w h => atoms_spec (ws := Cond.code yX11_pair cX11_pair 6 (some .int) :: TB) B.pre w (List.mem_cons_of_mem _ h)
  have hown : s.vm.findClass "ManyEyes" = some m.cls := findClass_of_methodNamed B.named
  have hlocks := B.notSynchronized
  subst hsz
  have hD := hD0.self (sz := s.heap.size)
  generalize hAe : va_A (WS_X11_pair cI cJ cZ cY a0 a0_tape a0_firstTakes r0_saved r0_sight r0_flyer r0_parser a1 a1_codes r1_world r1_reads r1_flight a2 a2_lensSide a2_lensWidth a2_pairA a2_pairB a2_pairDelay v0 v1 v2) s.heap.size = A at hD hT ⊢
  have hA : ∀ q : Nat, s.heap.size ≤ q → A q := fun q h => by rw [← hAe]; exact Or.inr h
  have hS : va_S A s.heap s.heap [] := va_S.rf
  have hl := lv_entry ([.ref a0, .int p0, .int p1, .int p2]) (n := 6) (Nat.le_of_ble_eq_true rfl)
  have he : entryFrame m args 6 = F0 m 0 (lg_sl ([.ref a0, .int p0, .int p1, .int p2]) ++ List.replicate (6 - (lg_sl ([.ref a0, .int p0, .int p1, .int p2])).length) Slot.unset).toArray [] := by rw [hargs, lg_entry_eq]
  rw [he]
  generalize (lg_sl ([.ref a0, .int p0, .int p1, .int p2]) ++ List.replicate (6 - (lg_sl ([.ref a0, .int p0, .int p1, .int p2])).length) Slot.unset).toArray = ls at hl ⊢
  have hl : lv_has ls 6 [(0, .ref a0), (1, .int p0), (2, .int p1), (3, .int p2)] := hl
  show W p l e rm_X11_pair s m args below meth c s.heap [] 0 0 _ _
  refine W.genQ (fun Q hQ => ?_)
  generalize hHe : s.heap = H at hP ⊢
  have hS : va_S A s.heap H [] := by rw [← hHe]; exact va_S.rf
  generalize ([] : List Loc) = locs at hS ⊢
  unfold f_X11_pair at hg
  refine lv_aload_n hx hb dX11_pair_0 rfl (lv_at hl 0 rfl) ?_
  refine va_get (ci := 10) (v := .ref a1) (C := RX11) (T := TX11) (N := 9) hx hb htb uX11 hown hK.1 hP 0 rfl rfl 0 (by decide) (htb _ tg_412) (fun _ h9 => h9) rfl dX11_pair_1 ?_
  refine va_get (ci := 7) (v := .ref a2) (C := RX8) (T := TX8) (N := 6) hx hb htb uX8 hown hK.1 hP 1 rfl rfl 1 (by decide) (htb _ tg_237) (fun _ h9 => h9) rfl dX11_pair_4 ?_
  refine lv_astore (lv' := [(4, .ref a2), (0, .ref a0), (1, .int p0), (2, .int p1), (3, .int p2)]) hx hb dX11_pair_7 hl (by decide) rfl (fun ls hl => ?_)
  refine lv_aload hx hb dX11_pair_9 (lv_at hl 0 rfl) ?_
  refine lv_iload_n hx hb dX11_pair_11 rfl (lv_at hl 2 rfl) ?_
  obtain ⟨r_1, hr_1, hg⟩ := g_bd hg
  refine cc_i (va_runV (C := RX1) (As := [.int p0]) (rest := []) ⟨hx, hb, hml, hown, htb⟩ (k_X1_isLens a2 a2_lensSide a2_lensWidth a2_pairA a2_pairB a2_pairDelay v2 p0 r_1 hr_1) (cw_V 1 htb tg_490 tg_5 tg_487 tg_488 tg_489 rfl rfl (by decide +kernel) ⟨Nat.le_of_ble_eq_true rfl, Nat.le_of_ble_eq_true rfl⟩) ⟨PC.blind, va_recv hK.1 hP (ci := 0) (q0 := 3) rfl rfl, PC.pre hK hT hP hD hS hA [3, 4, 5, 6, 7, 8] rfl (by decide)⟩ rfl rfl hl.1 rfl (lv_room (Nat.le_of_ble_eq_true rfl)) dX11_pair_12 ⟨Nat.le_of_ble_eq_true rfl, Nat.le_of_ble_eq_true rfl⟩) hP hD hS hA [3, 4, 5, 6, 7, 8] [0, 1, 2] rfl rfl (by decide) (by decide) (fun r9 u9 H locs hw hP hD hS => ?_)
  have hw := hw.symm
  subst hw
  have hP : va_P D vwCl (WS_X11_pair cI cJ cZ cY a0 a0_tape a0_firstTakes r0_saved r0_sight r0_flyer r0_parser a1 a1_codes r1_world r1_reads r1_flight a2 a2_lensSide a2_lensWidth a2_pairA a2_pairB a2_pairDelay v0 v1 v2) H := hP.sub [0, 1, 2, 3, 4, 5, 6, 7, 8] rfl
  have hD : va_D A (WS_X11_pair cI cJ cZ cY a0 a0_tape a0_firstTakes r0_saved r0_sight r0_flyer r0_parser a1 a1_codes r1_world r1_reads r1_flight a2 a2_lensSide a2_lensWidth a2_pairA a2_pairB a2_pairDelay v0 v1 v2) := hD.sub [0, 1, 2, 3, 4, 5, 6, 7, 8] (by decide) rfl
  refine lv_if_eq (tgt := 32) hx hb dX11_pair_15 (by decide) (fun c_2 => ?_) (fun c_2 => ?_)
  · have hg := g_it hg c_2
    refine lv_iconst (v := (-1)) hx hb dX11_pair_32 (by decide) ?_
    have hg := Option.some.inj hg
    rw [hQ]
    exact W.iret (v := (-1)) hx hb hr (fun t ht hW => ⟨⟨(-1), (v2), rfl, ⟨by rw [← hg], by rw [← hg]⟩, by rw [ht]; exact hP, hD⟩, hS.F ht⟩) hS.2.2 dX11_pair_33
  · have hg := g_if hg c_2
    refine lv_aload hx hb dX11_pair_18 (lv_at hl 0 rfl) ?_
    refine lv_iload_n hx hb dX11_pair_20 rfl (lv_at hl 3 rfl) ?_
    obtain ⟨r_3, hr_3, hg⟩ := g_bd hg
    refine cc_i (va_runV (C := RX1) (As := [.int p1]) (rest := []) ⟨hx, hb, hml, hown, htb⟩ (k_X1_isLens a2 a2_lensSide a2_lensWidth a2_pairA a2_pairB a2_pairDelay v2 p1 r_3 hr_3) (cw_V 1 htb tg_490 tg_5 tg_487 tg_488 tg_489 rfl rfl (by decide +kernel) ⟨Nat.le_of_ble_eq_true rfl, Nat.le_of_ble_eq_true rfl⟩) ⟨PC.blind, va_recv hK.1 hP (ci := 0) (q0 := 3) rfl rfl, PC.pre hK hT hP hD hS hA [3, 4, 5, 6, 7, 8] rfl (by decide)⟩ rfl rfl hl.1 rfl (lv_room (Nat.le_of_ble_eq_true rfl)) dX11_pair_21 ⟨Nat.le_of_ble_eq_true rfl, Nat.le_of_ble_eq_true rfl⟩) hP hD hS hA [3, 4, 5, 6, 7, 8] [0, 1, 2] rfl rfl (by decide) (by decide) (fun r9 u9 H locs hw hP hD hS => ?_)
    have hw := hw.symm
    subst hw
    have hP : va_P D vwCl (WS_X11_pair cI cJ cZ cY a0 a0_tape a0_firstTakes r0_saved r0_sight r0_flyer r0_parser a1 a1_codes r1_world r1_reads r1_flight a2 a2_lensSide a2_lensWidth a2_pairA a2_pairB a2_pairDelay v0 v1 v2) H := hP.sub [0, 1, 2, 3, 4, 5, 6, 7, 8] rfl
    have hD : va_D A (WS_X11_pair cI cJ cZ cY a0 a0_tape a0_firstTakes r0_saved r0_sight r0_flyer r0_parser a1 a1_codes r1_world r1_reads r1_flight a2 a2_lensSide a2_lensWidth a2_pairA a2_pairB a2_pairDelay v0 v1 v2) := hD.sub [0, 1, 2, 3, 4, 5, 6, 7, 8] (by decide) rfl
    refine lv_if_eq (tgt := 32) hx hb dX11_pair_24 (by decide) (fun c_4 => ?_) (fun c_4 => ?_)
    · have hg := g_it hg c_4
      refine lv_iconst (v := (-1)) hx hb dX11_pair_32 (by decide) ?_
      have hg := Option.some.inj hg
      rw [hQ]
      exact W.iret (v := (-1)) hx hb hr (fun t ht hW => ⟨⟨(-1), (v2), rfl, ⟨by rw [← hg], by rw [← hg]⟩, by rw [ht]; exact hP, hD⟩, hS.F ht⟩) hS.2.2 dX11_pair_33
    · have hg := g_if hg c_4
      refine lv_iload_n hx hb dX11_pair_27 rfl (lv_at hl 2 rfl) ?_
      refine lv_iload_n hx hb dX11_pair_28 rfl (lv_at hl 3 rfl) ?_
      refine lv_icmp_ne (tgt := 34) hx hb dX11_pair_29 (by decide) (fun c_5 => ?_) (fun c_5 => ?_)
      · have hg := g_if hg c_5
        refine lv_iload_n hx hb dX11_pair_34 rfl (lv_at hl 4 rfl) ?_
        refine lv_iconst (v := 1) hx hb dX11_pair_35 (by decide) ?_
        refine lv_bipush (v := 8) hx hb dX11_pair_36 (by decide) ?_
        obtain ⟨r_6, hr_6, hg⟩ := g_bd hg
        refine cc_i (va_runS (As := [.int p2, .int 1, .int 8]) (rest := []) ⟨hx, hb, hml, hown, htb⟩ (k_X11_isWithin p2 1 8 r_6 hr_6) (cw_S 3 htb tg_450 tg_1 tg_451 tg_449 rfl rfl (by decide +kernel) ⟨Nat.le_of_ble_eq_true rfl, Nat.le_of_ble_eq_true rfl⟩) ⟨PC.blind, PC.pre hK hT hP hD hS hA [] rfl (by decide)⟩ rfl rfl hl.1 rfl (lv_room (Nat.le_of_ble_eq_true rfl)) dX11_pair_38 ⟨Nat.le_of_ble_eq_true rfl, Nat.le_of_ble_eq_true rfl⟩) hP hD hS hA [] [0, 1, 2, 3, 4, 5, 6, 7, 8] rfl rfl (by decide) (by decide) (fun r9 u9 H locs hw hP hD hS => ?_)
        have hw := hw.symm
        subst hw
        have hP : va_P D vwCl (WS_X11_pair cI cJ cZ cY a0 a0_tape a0_firstTakes r0_saved r0_sight r0_flyer r0_parser a1 a1_codes r1_world r1_reads r1_flight a2 a2_lensSide a2_lensWidth a2_pairA a2_pairB a2_pairDelay v0 v1 v2) H := hP.sub [0, 1, 2, 3, 4, 5, 6, 7, 8] rfl
        have hD : va_D A (WS_X11_pair cI cJ cZ cY a0 a0_tape a0_firstTakes r0_saved r0_sight r0_flyer r0_parser a1 a1_codes r1_world r1_reads r1_flight a2 a2_lensSide a2_lensWidth a2_pairA a2_pairB a2_pairDelay v0 v1 v2) := hD.sub [0, 1, 2, 3, 4, 5, 6, 7, 8] (by decide) rfl
        refine lv_if_eq (tgt := 54) hx hb dX11_pair_41 (by decide) (fun c_7 => ?_) (fun c_7 => ?_)
        · have hg := g_it hg c_7
          refine lv_iconst (v := (-1)) hx hb dX11_pair_54 (by decide) ?_
          have hg := Option.some.inj hg
          rw [hQ]
          exact W.iret (v := (-1)) hx hb hr (fun t ht hW => ⟨⟨(-1), (v2), rfl, ⟨by rw [← hg], by rw [← hg]⟩, by rw [ht]; exact hP, hD⟩, hS.F ht⟩) hS.2.2 dX11_pair_55
        · have hg := g_if hg c_7
          refine lv_aload hx hb dX11_pair_44 (lv_at hl 0 rfl) ?_
          refine va_get (ci := 0) (v := .int (pX1_pairs v2)) (C := RX1) (T := TX1) (N := 7) hx hb htb uX1 hown hK.1 hP 3 rfl rfl 6 (by decide) (htb _ tg_111) (fun _ h9 => h9) rfl dX11_pair_46 ?_
          refine lv_bipush (v := 16) hx hb dX11_pair_49 (by decide) ?_
          refine lv_icmp_lt (tgt := 56) hx hb dX11_pair_51 (by decide) (fun c_8 => ?_) (fun c_8 => ?_)
          · have hg := g_it hg c_8
            refine lv_aload hx hb dX11_pair_56 (lv_at hl 0 rfl) ?_
            refine va_get (ci := 0) (v := .int (pX1_pairs v2)) (C := RX1) (T := TX1) (N := 7) hx hb htb uX1 hown hK.1 hP 3 rfl rfl 6 (by decide) (htb _ tg_111) (fun _ h9 => h9) rfl dX11_pair_58 ?_
            refine lv_topi (fun x5_9 ex5_9 => ?_)
            have hg := g_lte hg x5_9 ex5_9
            refine lv_istore (lv' := [(5, .int x5_9), (4, .ref a2), (0, .ref a0), (1, .int p0), (2, .int p1), (3, .int p2)]) hx hb dX11_pair_61 hl (by decide) rfl (fun ls hl => ?_)
            refine lv_aload hx hb dX11_pair_63 (lv_at hl 1 rfl) ?_
            refine va_get (ci := 0) (v := .ref a2_pairA) (C := RX1) (T := TX1) (N := 7) hx hb htb uX1 hown hK.1 hP 3 rfl rfl 2 (by decide) (htb _ tg_100) (fun _ h9 => h9) rfl dX11_pair_65 ?_
            refine lv_iload hx hb dX11_pair_68 (lv_at hl 0 rfl) ?_
            refine lv_iload_n hx hb dX11_pair_70 rfl (lv_at hl 3 rfl) ?_
            obtain ⟨h_10, hg⟩ := g_gde hg
            refine va_iast hx hb hK.1 hP hD hS 6 0 rfl rfl (inB_vp h_10) dX11_pair_71 (fun H locs hP hD hS => ?_)
            obtain ⟨v2_11, ev2_11⟩ : ∃ z, z = sX1_pairA v2 (upd (pX1_pairA v2) (x5_9 : Int32).toNatClampNeg p0) := ⟨_, rfl⟩
            have hP : va_P D vwCl (WS_X11_pair cI cJ cZ cY a0 a0_tape a0_firstTakes r0_saved r0_sight r0_flyer r0_parser a1 a1_codes r1_world r1_reads r1_flight a2 a2_lensSide a2_lensWidth a2_pairA a2_pairB a2_pairDelay v0 v1 v2_11) H := by rw [ev2_11]; exact hP
            have hD : va_D A (WS_X11_pair cI cJ cZ cY a0 a0_tape a0_firstTakes r0_saved r0_sight r0_flyer r0_parser a1 a1_codes r1_world r1_reads r1_flight a2 a2_lensSide a2_lensWidth a2_pairA a2_pairB a2_pairDelay v0 v1 v2_11) := by rw [ev2_11]; exact hD
            have hg := g_lte hg v2_11 ev2_11
            refine lv_aload hx hb dX11_pair_72 (lv_at hl 1 rfl) ?_
            refine va_get (ci := 0) (v := .ref a2_pairB) (C := RX1) (T := TX1) (N := 7) hx hb htb uX1 hown hK.1 hP 3 rfl rfl 3 (by decide) (htb _ tg_103) (fun _ h9 => h9) rfl dX11_pair_74 ?_
            refine lv_iload hx hb dX11_pair_77 (lv_at hl 0 rfl) ?_
            refine lv_iload_n hx hb dX11_pair_79 rfl (lv_at hl 4 rfl) ?_
            obtain ⟨h_12, hg⟩ := g_gde hg
            refine va_iast hx hb hK.1 hP hD hS 7 0 rfl rfl (inB_vp h_12) dX11_pair_80 (fun H locs hP hD hS => ?_)
            obtain ⟨v2_13, ev2_13⟩ : ∃ z, z = sX1_pairB v2_11 (upd (pX1_pairB v2_11) (x5_9 : Int32).toNatClampNeg p1) := ⟨_, rfl⟩
            have hP : va_P D vwCl (WS_X11_pair cI cJ cZ cY a0 a0_tape a0_firstTakes r0_saved r0_sight r0_flyer r0_parser a1 a1_codes r1_world r1_reads r1_flight a2 a2_lensSide a2_lensWidth a2_pairA a2_pairB a2_pairDelay v0 v1 v2_13) H := by rw [ev2_13]; exact hP
            have hD : va_D A (WS_X11_pair cI cJ cZ cY a0 a0_tape a0_firstTakes r0_saved r0_sight r0_flyer r0_parser a1 a1_codes r1_world r1_reads r1_flight a2 a2_lensSide a2_lensWidth a2_pairA a2_pairB a2_pairDelay v0 v1 v2_13) := by rw [ev2_13]; exact hD
            have hg := g_lte hg v2_13 ev2_13
            refine lv_aload hx hb dX11_pair_81 (lv_at hl 1 rfl) ?_
            refine va_get (ci := 0) (v := .ref a2_pairDelay) (C := RX1) (T := TX1) (N := 7) hx hb htb uX1 hown hK.1 hP 3 rfl rfl 4 (by decide) (htb _ tg_106) (fun _ h9 => h9) rfl dX11_pair_83 ?_
            refine lv_iload hx hb dX11_pair_86 (lv_at hl 0 rfl) ?_
            refine lv_iload_n hx hb dX11_pair_88 rfl (lv_at hl 5 rfl) ?_
            obtain ⟨h_14, hg⟩ := g_gde hg
            refine va_iast hx hb hK.1 hP hD hS 8 0 rfl rfl (inB_vp h_14) dX11_pair_89 (fun H locs hP hD hS => ?_)
            obtain ⟨v2_15, ev2_15⟩ : ∃ z, z = sX1_pairDelay v2_13 (upd (pX1_pairDelay v2_13) (x5_9 : Int32).toNatClampNeg p2) := ⟨_, rfl⟩
            have hP : va_P D vwCl (WS_X11_pair cI cJ cZ cY a0 a0_tape a0_firstTakes r0_saved r0_sight r0_flyer r0_parser a1 a1_codes r1_world r1_reads r1_flight a2 a2_lensSide a2_lensWidth a2_pairA a2_pairB a2_pairDelay v0 v1 v2_15) H := by rw [ev2_15]; exact hP
            have hD : va_D A (WS_X11_pair cI cJ cZ cY a0 a0_tape a0_firstTakes r0_saved r0_sight r0_flyer r0_parser a1 a1_codes r1_world r1_reads r1_flight a2 a2_lensSide a2_lensWidth a2_pairA a2_pairB a2_pairDelay v0 v1 v2_15) := by rw [ev2_15]; exact hD
            have hg := g_lte hg v2_15 ev2_15
            refine lv_aload hx hb dX11_pair_90 (lv_at hl 1 rfl) ?_
            refine lv_iload hx hb dX11_pair_92 (lv_at hl 0 rfl) ?_
            refine lv_iconst (v := 1) hx hb dX11_pair_94 (by decide) ?_
            refine lv_iadd hx hb dX11_pair_95 ?_
            refine lv_topi (fun x_16 ex_16 => ?_)
            have hg := g_lte hg x_16 ex_16
            refine va_put (ci := 0) (v := .int x_16) (ty := .int) (C := RX1) (T := TX1) (N := 7) hx hb htb uX1 tyX1 tyX1_ok nmX1 hown hK.1 hP hD hS 3 rfl rfl 6 (by decide) (htb _ tg_111) (fun _ h9 => h9) rfl (by decide +kernel) rfl rfl (Nat.le_of_ble_eq_true rfl) dX11_pair_96 (fun H locs hP hD hS => ?_)
            obtain ⟨v2_17, ev2_17⟩ : ∃ z, z = sX1_pairs v2_15 x_16 := ⟨_, rfl⟩
            have hP : va_P D vwCl (WS_X11_pair cI cJ cZ cY a0 a0_tape a0_firstTakes r0_saved r0_sight r0_flyer r0_parser a1 a1_codes r1_world r1_reads r1_flight a2 a2_lensSide a2_lensWidth a2_pairA a2_pairB a2_pairDelay v0 v1 v2_17) H := by rw [ev2_17]; exact hP
            have hD : va_D A (WS_X11_pair cI cJ cZ cY a0 a0_tape a0_firstTakes r0_saved r0_sight r0_flyer r0_parser a1 a1_codes r1_world r1_reads r1_flight a2 a2_lensSide a2_lensWidth a2_pairA a2_pairB a2_pairDelay v0 v1 v2_17) := by rw [ev2_17]; exact hD
            have hg := g_lte hg v2_17 ev2_17
            refine lv_iload hx hb dX11_pair_99 (lv_at hl 0 rfl) ?_
            have hg := Option.some.inj hg
            rw [hQ]
            exact W.iret (v := x5_9) hx hb hr (fun t ht hW => ⟨⟨x5_9, (v2_17), rfl, ⟨by rw [← hg], by rw [← hg]⟩, by rw [ht]; exact hP, hD⟩, hS.F ht⟩) hS.2.2 dX11_pair_101
          · have hg := g_if hg c_8
            refine lv_iconst (v := (-1)) hx hb dX11_pair_54 (by decide) ?_
            have hg := Option.some.inj hg
            rw [hQ]
            exact W.iret (v := (-1)) hx hb hr (fun t ht hW => ⟨⟨(-1), (v2), rfl, ⟨by rw [← hg], by rw [← hg]⟩, by rw [ht]; exact hP, hD⟩, hS.F ht⟩) hS.2.2 dX11_pair_55
      · have hg := g_it hg c_5
        refine lv_iconst (v := (-1)) hx hb dX11_pair_32 (by decide) ?_
        have hg := Option.some.inj hg
        rw [hQ]
        exact W.iret (v := (-1)) hx hb hr (fun t ht hW => ⟨⟨(-1), (v2), rfl, ⟨by rw [← hg], by rw [← hg]⟩, by rw [ht]; exact hP, hD⟩, hS.F ht⟩) hS.2.2 dX11_pair_33

/-! ManyEyes.ray(IIIIZ)I -/
def WS_X11_ray (cI cJ cZ cY : ClassId) (a0 a0_tape a0_firstTakes r0_saved r0_flyer r0_parser a1 a1_codes r1_eye r1_reads r1_flight a2 a2_view a2_rays a3 a3_own a3_bodyX a3_bodyY a3_bodyWayX a3_bodyWayY a3_bodyMark : Nat) (v0 : BX11) (v1 : BX8) (v2 : BX7) (v3 : BX10) : va_W := (GX11o cI cJ cZ cY a0 a0_tape a0_firstTakes a1 r0_saved a2 r0_flyer r0_parser v0) ++ ((GX8 cI cJ cZ cY a1 a1_codes a3 r1_eye r1_reads r1_flight v1) ++ ((GX7 cI cJ cZ cY a2 a2_view a2_rays a3 v2) ++ ((GX10 cI cJ cZ cY a3 a3_own a3_bodyX a3_bodyY a3_bodyWayX a3_bodyWayY a3_bodyMark v3))))
def f_X11_ray (v0 : BX11) (v1 : BX8) (v2 : BX7) (v3 : BX10) (p0 : Int32) (p1 : Int32) (p2 : Int32) (p3 : Int32) (p4 : Int32) : Option (Int32 × BX7) := (f_X10_isPlace v3 p0 p1).bind (fun r_1 => if (r_1 : Int32) = 0 then (some ((-1), v2)) else ((f_X11_isSide p2).bind (fun r_3 => if (r_3 : Int32) = 0 then (some ((-1), v2)) else ((f_X11_isTick p3).bind (fun r_5 => if (r_5 : Int32) = 0 then (some ((-1), v2)) else ((f_X7_look v2 v3 p0 p1 p3).bind (fun r_7 => (f_X7_trace r_7 v3 p2).bind (fun r_8 => if (p4 : Int32) = 0 then (some ((r_8 &&& 255), r_7)) else (some ((r_8 >>> (8 &&& 31)), r_7))))))))))
abbrev rm_X11_ray : Room := { frames := 2, cells := 0, slots := 0, locals := 89 }
set_option maxHeartbeats 4000000 in
set_option maxRecDepth 100000 in
theorem k_X11_ray {l : Launch} {D : va_G} {cI cJ cZ cY : ClassId} {tX tY : Nat} {sz : Nat} (a0 a0_tape a0_firstTakes r0_saved r0_flyer r0_parser a1 a1_codes r1_eye r1_reads r1_flight a2 a2_view a2_rays a3 a3_own a3_bodyX a3_bodyY a3_bodyWayX a3_bodyWayY a3_bodyMark : Nat) (v0 : BX11) (v1 : BX8) (v2 : BX7) (v3 : BX10) (p0 : Int32) (p1 : Int32) (p2 : Int32) (p3 : Int32) (p4 : Int32) (res : Int32 × BX7) (hg : f_X11_ray v0 v1 v2 v3 p0 p1 p2 p3 p4 = some res) : Met l yX11_ray (Cond.code yX11_ray cX11_ray 7 (some .int) :: TB) rm_X11_ray (PC D cI cJ cZ cY tX tY [.ref a0, .int p0, .int p1, .int p2, .int p3, .int p4] (WS_X11_ray cI cJ cZ cY a0 a0_tape a0_firstTakes r0_saved r0_flyer r0_parser a1 a1_codes r1_eye r1_reads r1_flight a2 a2_view a2_rays a3 a3_own a3_bodyX a3_bodyY a3_bodyWayX a3_bodyWayY a3_bodyMark v0 v1 v2 v3) sz) (va_Qi (fun (r : Int32) (u : BX7) => r = res.1 ∧ u = res.2) (BC D (fun u : BX7 => WS_X11_ray cI cJ cZ cY a0 a0_tape a0_firstTakes r0_saved r0_flyer r0_parser a1 a1_codes r1_eye r1_reads r1_flight a2 a2_view a2_rays a3 a3_own a3_bodyX a3_bodyY a3_bodyWayX a3_bodyWayY a3_bodyMark v0 v1 u v3) (va_A (WS_X11_ray cI cJ cZ cY a0 a0_tape a0_firstTakes r0_saved r0_flyer r0_parser a1 a1_codes r1_eye r1_reads r1_flight a2 a2_view a2_rays a3 a3_own a3_bodyX a3_bodyY a3_bodyWayX a3_bodyWayY a3_bodyMark v0 v1 v2 v3) sz)) (va_A (WS_X11_ray cI cJ cZ cY a0 a0_tape a0_firstTakes r0_saved r0_flyer r0_parser a1 a1_codes r1_eye r1_reads r1_flight a2 a2_view a2_rays a3 a3_own a3_bodyX a3_bodyY a3_bodyWayX a3_bodyWayY a3_bodyMark v0 v1 v2 v3) sz)) 0 0 (va_A (WS_X11_ray cI cJ cZ cY a0 a0_tape a0_firstTakes r0_saved r0_flyer r0_parser a1 a1_codes r1_eye r1_reads r1_flight a2 a2_view a2_rays a3 a3_own a3_bodyX a3_bodyY a3_bodyWayX a3_bodyWayY a3_bodyMark v0 v1 v2 v3) sz) := by
  refine Met.ofW (cc := cX11_ray) (maxL := 7) (ret := (some .int)) (by decide) rfl ?_
  intro p e s m args below meth c s₁ B hml hv
  obtain ⟨hargs, hsz, hP, hK, hD0, hT⟩ := hv
  have hx := B.exec
  have hb := B.bytes
  have hr := B.returns
  have htb : ∀ w ∈ TB, w.before args s = true := fun w h => atoms_spec (ws := Cond.code yX11_ray cX11_ray 7 (some .int) :: TB) B.pre w (List.mem_cons_of_mem _ h)
  have hown : s.vm.findClass "ManyEyes" = some m.cls := findClass_of_methodNamed B.named
  have hlocks := B.notSynchronized
  subst hsz
  have hD := hD0.self (sz := s.heap.size)
  generalize hAe : va_A (WS_X11_ray cI cJ cZ cY a0 a0_tape a0_firstTakes r0_saved r0_flyer r0_parser a1 a1_codes r1_eye r1_reads r1_flight a2 a2_view a2_rays a3 a3_own a3_bodyX a3_bodyY a3_bodyWayX a3_bodyWayY a3_bodyMark v0 v1 v2 v3) s.heap.size = A at hD hT ⊢
  have hA : ∀ q : Nat, s.heap.size ≤ q → A q := fun q h => by rw [← hAe]; exact Or.inr h
  have hS : va_S A s.heap s.heap [] := va_S.rf
  have hl := lv_entry ([.ref a0, .int p0, .int p1, .int p2, .int p3, .int p4]) (n := 7) (Nat.le_of_ble_eq_true rfl)
  have he : entryFrame m args 7 = F0 m 0 (lg_sl ([.ref a0, .int p0, .int p1, .int p2, .int p3, .int p4]) ++ List.replicate (7 - (lg_sl ([.ref a0, .int p0, .int p1, .int p2, .int p3, .int p4])).length) Slot.unset).toArray [] := by rw [hargs, lg_entry_eq]
  rw [he]
  generalize (lg_sl ([.ref a0, .int p0, .int p1, .int p2, .int p3, .int p4]) ++ List.replicate (7 - (lg_sl ([.ref a0, .int p0, .int p1, .int p2, .int p3, .int p4])).length) Slot.unset).toArray = ls at hl ⊢
  have hl : lv_has ls 7 [(0, .ref a0), (1, .int p0), (2, .int p1), (3, .int p2), (4, .int p3), (5, .int p4)] := hl
  show W p l e rm_X11_ray s m args below meth c s.heap [] 0 0 _ _
  refine W.genQ (fun Q hQ => ?_)
  generalize hHe : s.heap = H at hP ⊢
  have hS : va_S A s.heap H [] := by rw [← hHe]; exact va_S.rf
  generalize ([] : List Loc) = locs at hS ⊢
  unfold f_X11_ray at hg
  refine lv_aload_n hx hb dX11_ray_0 rfl (lv_at hl 0 rfl) ?_
  refine va_get (ci := 10) (v := .ref a1) (C := RX11) (T := TX11) (N := 9) hx hb htb uX11 hown hK.1 hP 0 rfl rfl 0 (by decide) (htb _ tg_412) (fun _ h9 => h9) rfl dX11_ray_1 ?_
  refine va_get (ci := 7) (v := .ref a3) (C := RX8) (T := TX8) (N := 6) hx hb htb uX8 hown hK.1 hP 1 rfl rfl 0 (by decide) (htb _ tg_233) (fun _ h9 => h9) rfl dX11_ray_4 ?_
  refine lv_iload_n hx hb dX11_ray_7 rfl (lv_at hl 1 rfl) ?_
  refine lv_iload_n hx hb dX11_ray_8 rfl (lv_at hl 2 rfl) ?_
  obtain ⟨r_1, hr_1, hg⟩ := g_bd hg
  refine cc_i (va_runV (C := RX10) (As := [.int p0, .int p1]) (rest := []) ⟨hx, hb, hml, hown, htb⟩ (k_X10_isPlace a3 a3_own a3_bodyX a3_bodyY a3_bodyWayX a3_bodyWayY a3_bodyMark v3 p0 p1 r_1 hr_1) (cw_V 2 htb tg_499 tg_3 tg_496 tg_497 tg_498 rfl rfl (by decide +kernel) ⟨Nat.le_of_ble_eq_true rfl, Nat.le_of_ble_eq_true rfl⟩) ⟨PC.blind, va_recv hK.1 hP (ci := 9) (q0 := 6) rfl rfl, PC.pre hK hT hP hD hS hA [6, 7, 8, 9, 10, 11, 12] rfl (by decide)⟩ rfl rfl hl.1 rfl (lv_room (Nat.le_of_ble_eq_true rfl)) dX11_ray_9 ⟨Nat.le_of_ble_eq_true rfl, Nat.le_of_ble_eq_true rfl⟩) hP hD hS hA [6, 7, 8, 9, 10, 11, 12] [0, 1, 2, 3, 4, 5] rfl rfl (by decide) (by decide) (fun r9 u9 H locs hw hP hD hS => ?_)
  have hw := hw.symm
  subst hw
  have hP : va_P D vwCl (WS_X11_ray cI cJ cZ cY a0 a0_tape a0_firstTakes r0_saved r0_flyer r0_parser a1 a1_codes r1_eye r1_reads r1_flight a2 a2_view a2_rays a3 a3_own a3_bodyX a3_bodyY a3_bodyWayX a3_bodyWayY a3_bodyMark v0 v1 v2 v3) H := hP.sub [0, 1, 2, 3, 4, 5, 6, 7, 8, 9, 10, 11, 12] rfl
  have hD : va_D A (WS_X11_ray cI cJ cZ cY a0 a0_tape a0_firstTakes r0_saved r0_flyer r0_parser a1 a1_codes r1_eye r1_reads r1_flight a2 a2_view a2_rays a3 a3_own a3_bodyX a3_bodyY a3_bodyWayX a3_bodyWayY a3_bodyMark v0 v1 v2 v3) := hD.sub [0, 1, 2, 3, 4, 5, 6, 7, 8, 9, 10, 11, 12] (by decide) rfl
  refine lv_if_eq (tgt := 30) hx hb dX11_ray_12 (by decide) (fun c_2 => ?_) (fun c_2 => ?_)
  · have hg := g_it hg c_2
    refine lv_iconst (v := (-1)) hx hb dX11_ray_30 (by decide) ?_
    have hg := Option.some.inj hg
    rw [hQ]
    exact W.iret (v := (-1)) hx hb hr (fun t ht hW => ⟨⟨(-1), (v2), rfl, ⟨by rw [← hg], by rw [← hg]⟩, by rw [ht]; exact hP, hD⟩, hS.F ht⟩) hS.2.2 dX11_ray_31
  · have hg := g_if hg c_2
    refine lv_iload_n hx hb dX11_ray_15 rfl (lv_at hl 3 rfl) ?_
    obtain ⟨r_3, hr_3, hg⟩ := g_bd hg
    refine cc_i (va_runS (As := [.int p2]) (rest := []) ⟨hx, hb, hml, hown, htb⟩ (k_X11_isSide p2 r_3 hr_3) (cw_S 1 htb tg_482 tg_1 tg_480 tg_481 rfl rfl (by decide +kernel) ⟨Nat.le_of_ble_eq_true rfl, Nat.le_of_ble_eq_true rfl⟩) ⟨PC.blind, PC.pre hK hT hP hD hS hA [] rfl (by decide)⟩ rfl rfl hl.1 rfl (lv_room (Nat.le_of_ble_eq_true rfl)) dX11_ray_16 ⟨Nat.le_of_ble_eq_true rfl, Nat.le_of_ble_eq_true rfl⟩) hP hD hS hA [] [0, 1, 2, 3, 4, 5, 6, 7, 8, 9, 10, 11, 12] rfl rfl (by decide) (by decide) (fun r9 u9 H locs hw hP hD hS => ?_)
    have hw := hw.symm
    subst hw
    have hP : va_P D vwCl (WS_X11_ray cI cJ cZ cY a0 a0_tape a0_firstTakes r0_saved r0_flyer r0_parser a1 a1_codes r1_eye r1_reads r1_flight a2 a2_view a2_rays a3 a3_own a3_bodyX a3_bodyY a3_bodyWayX a3_bodyWayY a3_bodyMark v0 v1 v2 v3) H := hP.sub [0, 1, 2, 3, 4, 5, 6, 7, 8, 9, 10, 11, 12] rfl
    have hD : va_D A (WS_X11_ray cI cJ cZ cY a0 a0_tape a0_firstTakes r0_saved r0_flyer r0_parser a1 a1_codes r1_eye r1_reads r1_flight a2 a2_view a2_rays a3 a3_own a3_bodyX a3_bodyY a3_bodyWayX a3_bodyWayY a3_bodyMark v0 v1 v2 v3) := hD.sub [0, 1, 2, 3, 4, 5, 6, 7, 8, 9, 10, 11, 12] (by decide) rfl
    refine lv_if_eq (tgt := 30) hx hb dX11_ray_19 (by decide) (fun c_4 => ?_) (fun c_4 => ?_)
    · have hg := g_it hg c_4
      refine lv_iconst (v := (-1)) hx hb dX11_ray_30 (by decide) ?_
      have hg := Option.some.inj hg
      rw [hQ]
      exact W.iret (v := (-1)) hx hb hr (fun t ht hW => ⟨⟨(-1), (v2), rfl, ⟨by rw [← hg], by rw [← hg]⟩, by rw [ht]; exact hP, hD⟩, hS.F ht⟩) hS.2.2 dX11_ray_31
    · have hg := g_if hg c_4
      refine lv_iload hx hb dX11_ray_22 (lv_at hl 4 rfl) ?_
      obtain ⟨r_5, hr_5, hg⟩ := g_bd hg
      refine cc_i (va_runS (As := [.int p3]) (rest := []) ⟨hx, hb, hml, hown, htb⟩ (k_X11_isTick p3 r_5 hr_5) (cw_S 1 htb tg_466 tg_1 tg_464 tg_465 rfl rfl (by decide +kernel) ⟨Nat.le_of_ble_eq_true rfl, Nat.le_of_ble_eq_true rfl⟩) ⟨PC.blind, PC.pre hK hT hP hD hS hA [] rfl (by decide)⟩ rfl rfl hl.1 rfl (lv_room (Nat.le_of_ble_eq_true rfl)) dX11_ray_24 ⟨Nat.le_of_ble_eq_true rfl, Nat.le_of_ble_eq_true rfl⟩) hP hD hS hA [] [0, 1, 2, 3, 4, 5, 6, 7, 8, 9, 10, 11, 12] rfl rfl (by decide) (by decide) (fun r9 u9 H locs hw hP hD hS => ?_)
      have hw := hw.symm
      subst hw
      have hP : va_P D vwCl (WS_X11_ray cI cJ cZ cY a0 a0_tape a0_firstTakes r0_saved r0_flyer r0_parser a1 a1_codes r1_eye r1_reads r1_flight a2 a2_view a2_rays a3 a3_own a3_bodyX a3_bodyY a3_bodyWayX a3_bodyWayY a3_bodyMark v0 v1 v2 v3) H := hP.sub [0, 1, 2, 3, 4, 5, 6, 7, 8, 9, 10, 11, 12] rfl
      have hD : va_D A (WS_X11_ray cI cJ cZ cY a0 a0_tape a0_firstTakes r0_saved r0_flyer r0_parser a1 a1_codes r1_eye r1_reads r1_flight a2 a2_view a2_rays a3 a3_own a3_bodyX a3_bodyY a3_bodyWayX a3_bodyWayY a3_bodyMark v0 v1 v2 v3) := hD.sub [0, 1, 2, 3, 4, 5, 6, 7, 8, 9, 10, 11, 12] (by decide) rfl
      refine lv_if_ne (tgt := 32) hx hb dX11_ray_27 (by decide) (fun c_6 => ?_) (fun c_6 => ?_)
      · have hg := g_if hg c_6
        refine lv_aload_n hx hb dX11_ray_32 rfl (lv_at hl 0 rfl) ?_
        refine va_get (ci := 10) (v := .ref a2) (C := RX11) (T := TX11) (N := 9) hx hb htb uX11 hown hK.1 hP 0 rfl rfl 2 (by decide) (htb _ tg_414) (fun _ h9 => h9) rfl dX11_ray_33 ?_
        refine lv_iload_n hx hb dX11_ray_36 rfl (lv_at hl 1 rfl) ?_
        refine lv_iload_n hx hb dX11_ray_37 rfl (lv_at hl 2 rfl) ?_
        refine lv_iload hx hb dX11_ray_38 (lv_at hl 4 rfl) ?_
        obtain ⟨r_7, hr_7, hg⟩ := g_bd hg
        refine cc_v (va_runV (C := RX7) (As := [.int p0, .int p1, .int p3]) (rest := []) ⟨hx, hb, hml, hown, htb⟩ (k_X7_look a2 a2_view a2_rays a3 a3_own a3_bodyX a3_bodyY a3_bodyWayX a3_bodyWayY a3_bodyMark v2 v3 p0 p1 p3 r_7 hr_7) (cw_V 3 htb tg_503 tg_8 tg_500 tg_501 tg_502 rfl rfl (by decide +kernel) ⟨Nat.le_of_ble_eq_true rfl, Nat.le_of_ble_eq_true rfl⟩) ⟨PC.blind, va_recv hK.1 hP (ci := 6) (q0 := 3) rfl rfl, PC.pre hK hT hP hD hS hA [3, 4, 5, 6, 7, 8, 9, 10, 11, 12] rfl (by decide)⟩ rfl rfl hl.1 rfl (lv_room (Nat.le_of_ble_eq_true rfl)) dX11_ray_40 ⟨Nat.le_of_ble_eq_true rfl, Nat.le_of_ble_eq_true rfl⟩) hP hD hS hA [3, 4, 5, 6, 7, 8, 9, 10, 11, 12] [0, 1, 2] rfl rfl (by decide) (by decide) (fun u9 H locs hw hP hD hS => ?_)
        have hw := hw.symm
        subst hw
        have hP : va_P D vwCl (WS_X11_ray cI cJ cZ cY a0 a0_tape a0_firstTakes r0_saved r0_flyer r0_parser a1 a1_codes r1_eye r1_reads r1_flight a2 a2_view a2_rays a3 a3_own a3_bodyX a3_bodyY a3_bodyWayX a3_bodyWayY a3_bodyMark v0 v1 r_7 v3) H := hP.sub [0, 1, 2, 3, 4, 5, 6, 7, 8, 9, 10, 11, 12] rfl
        have hD : va_D A (WS_X11_ray cI cJ cZ cY a0 a0_tape a0_firstTakes r0_saved r0_flyer r0_parser a1 a1_codes r1_eye r1_reads r1_flight a2 a2_view a2_rays a3 a3_own a3_bodyX a3_bodyY a3_bodyWayX a3_bodyWayY a3_bodyMark v0 v1 r_7 v3) := hD.sub [0, 1, 2, 3, 4, 5, 6, 7, 8, 9, 10, 11, 12] (by decide) rfl
        refine lv_aload_n hx hb dX11_ray_43 rfl (lv_at hl 0 rfl) ?_
        refine va_get (ci := 10) (v := .ref a2) (C := RX11) (T := TX11) (N := 9) hx hb htb uX11 hown hK.1 hP 0 rfl rfl 2 (by decide) (htb _ tg_414) (fun _ h9 => h9) rfl dX11_ray_44 ?_
        refine lv_iload_n hx hb dX11_ray_47 rfl (lv_at hl 3 rfl) ?_
        obtain ⟨r_8, hr_8, hg⟩ := g_bd hg
        refine cc_i (va_runV (C := RX7) (As := [.int p2]) (rest := []) ⟨hx, hb, hml, hown, htb⟩ (k_X7_trace a2 a2_view a2_rays a3 a3_own a3_bodyX a3_bodyY a3_bodyWayX a3_bodyWayY a3_bodyMark r_7 v3 p2 r_8 hr_8) (cw_V 1 htb tg_514 tg_8 tg_511 tg_512 tg_513 rfl rfl (by decide +kernel) ⟨Nat.le_of_ble_eq_true rfl, Nat.le_of_ble_eq_true rfl⟩) ⟨PC.blind, va_recv hK.1 hP (ci := 6) (q0 := 3) rfl rfl, PC.pre hK hT hP hD hS hA [3, 4, 5, 6, 7, 8, 9, 10, 11, 12] rfl (by decide)⟩ rfl rfl hl.1 rfl (lv_room (Nat.le_of_ble_eq_true rfl)) dX11_ray_48 ⟨Nat.le_of_ble_eq_true rfl, Nat.le_of_ble_eq_true rfl⟩) hP hD hS hA [3, 4, 5, 6, 7, 8, 9, 10, 11, 12] [0, 1, 2] rfl rfl (by decide) (by decide) (fun r9 u9 H locs hw hP hD hS => ?_)
        have hw := hw.symm
        subst hw
        have hP : va_P D vwCl (WS_X11_ray cI cJ cZ cY a0 a0_tape a0_firstTakes r0_saved r0_flyer r0_parser a1 a1_codes r1_eye r1_reads r1_flight a2 a2_view a2_rays a3 a3_own a3_bodyX a3_bodyY a3_bodyWayX a3_bodyWayY a3_bodyMark v0 v1 r_7 v3) H := hP.sub [0, 1, 2, 3, 4, 5, 6, 7, 8, 9, 10, 11, 12] rfl
        have hD : va_D A (WS_X11_ray cI cJ cZ cY a0 a0_tape a0_firstTakes r0_saved r0_flyer r0_parser a1 a1_codes r1_eye r1_reads r1_flight a2 a2_view a2_rays a3 a3_own a3_bodyX a3_bodyY a3_bodyWayX a3_bodyWayY a3_bodyMark v0 v1 r_7 v3) := hD.sub [0, 1, 2, 3, 4, 5, 6, 7, 8, 9, 10, 11, 12] (by decide) rfl
        refine lv_istore (lv' := [(6, .int r_8), (0, .ref a0), (1, .int p0), (2, .int p1), (3, .int p2), (4, .int p3), (5, .int p4)]) hx hb dX11_ray_51 hl (by decide) rfl (fun ls hl => ?_)
        refine lv_iload hx hb dX11_ray_53 (lv_at hl 6 rfl) ?_
        refine lv_if_eq (tgt := 66) hx hb dX11_ray_55 (by decide) (fun c_9 => ?_) (fun c_9 => ?_)
        · have hg := g_it hg c_9
          refine lv_iload hx hb dX11_ray_66 (lv_at hl 0 rfl) ?_
          refine lv_sipush (v := 255) hx hb dX11_ray_68 (by decide) ?_
          refine lv_iand hx hb dX11_ray_71 ?_
          have hg := Option.some.inj hg
          rw [hQ]
          exact W.iret (v := (r_8 &&& 255)) hx hb hr (fun t ht hW => ⟨⟨(r_8 &&& 255), (r_7), rfl, ⟨by rw [← hg], by rw [← hg]⟩, by rw [ht]; exact hP, hD⟩, hS.F ht⟩) hS.2.2 dX11_ray_72
        · have hg := g_if hg c_9
          refine lv_iload hx hb dX11_ray_58 (lv_at hl 0 rfl) ?_
          refine lv_bipush (v := 8) hx hb dX11_ray_60 (by decide) ?_
          refine lv_ishr hx hb dX11_ray_62 ?_
          refine lv_goto (tgt := 72) hx hb dX11_ray_63 (by decide) ?_
          have hg := Option.some.inj hg
          rw [hQ]
          exact W.iret (v := (r_8 >>> (8 &&& 31))) hx hb hr (fun t ht hW => ⟨⟨(r_8 >>> (8 &&& 31)), (r_7), rfl, ⟨by rw [← hg], by rw [← hg]⟩, by rw [ht]; exact hP, hD⟩, hS.F ht⟩) hS.2.2 dX11_ray_72
      · have hg := g_it hg c_6
        refine lv_iconst (v := (-1)) hx hb dX11_ray_30 (by decide) ?_
        have hg := Option.some.inj hg
        rw [hQ]
        exact W.iret (v := (-1)) hx hb hr (fun t ht hW => ⟨⟨(-1), (v2), rfl, ⟨by rw [← hg], by rw [← hg]⟩, by rw [ht]; exact hP, hD⟩, hS.F ht⟩) hS.2.2 dX11_ray_31
