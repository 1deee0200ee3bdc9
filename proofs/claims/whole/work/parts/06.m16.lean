/-! ManyEyes$Eye.copyFrom(LManyEyes$Eye;)V -/
def WS_X1_copyFrom (cI cJ cZ cY : ClassId) (a0 a0_lensSide a0_lensWidth a0_pairA a0_pairB a0_pairDelay a1 a1_lensSide a1_lensWidth a1_pairA a1_pairB a1_pairDelay : Nat) (v0 : BX1) (v1 : BX1) : va_W := (GX1 cI cJ cZ cY a0 a0_lensSide a0_lensWidth a0_pairA a0_pairB a0_pairDelay v0) ++ ((GX1 cI cJ cZ cY a1 a1_lensSide a1_lensWidth a1_pairA a1_pairB a1_pairDelay v1))
def f_X1_copyFrom (v0 : BX1) (v1 : BX1) : Option (BX1) := (f_X11_copyRow 16 16 (pX1_lensSide v0) (pX1_lensSide v1)).bind (fun r_1 => (f_X11_copyRow 16 16 (pX1_lensWidth v0) (pX1_lensWidth (sX1_lensSide v1 r_1))).bind (fun r_2 => (f_X11_copyRow 16 16 (pX1_pairA v0) (pX1_pairA (sX1_lensWidth (sX1_lensSide v1 r_1) r_2))).bind (fun r_3 => (f_X11_copyRow 16 16 (pX1_pairB v0) (pX1_pairB (sX1_pairA (sX1_lensWidth (sX1_lensSide v1 r_1) r_2) r_3))).bind (fun r_4 => (f_X11_copyRow 16 16 (pX1_pairDelay v0) (pX1_pairDelay (sX1_pairB (sX1_pairA (sX1_lensWidth (sX1_lensSide v1 r_1) r_2) r_3) r_4))).bind (fun r_5 => g_lt ((pX1_lenses v0) : Int32) (fun x_6 => g_lt (sX1_lenses (sX1_pairDelay (sX1_pairB (sX1_pairA (sX1_lensWidth (sX1_lensSide v1 r_1) r_2) r_3) r_4) r_5) x_6) (fun v1_7 => g_lt ((pX1_pairs v0) : Int32) (fun x_8 => g_lt (sX1_pairs v1_7 x_8) (fun v1_9 => some (v1_9))))))))))
abbrev rm_X1_copyFrom : Room := { frames := 2, cells := 0, slots := 0, locals := 85 }
set_option maxHeartbeats 4000000 in
set_option maxRecDepth 100000 in
theorem k_X1_copyFrom {l : Launch} {D : va_G} {cI cJ cZ cY : ClassId} {tX tY : Nat} {sz : Nat} (a0 a0_lensSide a0_lensWidth a0_pairA a0_pairB a0_pairDelay a1 a1_lensSide a1_lensWidth a1_pairA a1_pairB a1_pairDelay : Nat) (v0 : BX1) (v1 : BX1) (res : BX1) (hg : f_X1_copyFrom v0 v1 = some res) : Met l yX1_copyFrom (Cond.code yX1_copyFrom cX1_copyFrom 2 none :: TB) rm_X1_copyFrom (PC D cI cJ cZ cY tX tY [.ref a1, .ref a0] (WS_X1_copyFrom cI cJ cZ cY a0 a0_lensSide a0_lensWidth a0_pairA a0_pairB a0_pairDelay a1 a1_lensSide a1_lensWidth a1_pairA a1_pairB a1_pairDelay v0 v1) sz) (va_Qv (fun (u : BX1) => u = res) (BC D (fun u : BX1 => WS_X1_copyFrom cI cJ cZ cY a0 a0_lensSide a0_lensWidth a0_pairA a0_pairB a0_pairDelay a1 a1_lensSide a1_lensWidth a1_pairA a1_pairB a1_pairDelay v0 u) (va_A (WS_X1_copyFrom cI cJ cZ cY a0 a0_lensSide a0_lensWidth a0_pairA a0_pairB a0_pairDelay a1 a1_lensSide a1_lensWidth a1_pairA a1_pairB a1_pairDelay v0 v1) sz)) (va_A (WS_X1_copyFrom cI cJ cZ cY a0 a0_lensSide a0_lensWidth a0_pairA a0_pairB a0_pairDelay a1 a1_lensSide a1_lensWidth a1_pairA a1_pairB a1_pairDelay v0 v1) sz)) 0 0 (va_A (WS_X1_copyFrom cI cJ cZ cY a0 a0_lensSide a0_lensWidth a0_pairA a0_pairB a0_pairDelay a1 a1_lensSide a1_lensWidth a1_pairA a1_pairB a1_pairDelay v0 v1) sz) := by
  refine Met.ofW (cc := cX1_copyFrom) (maxL := 2) (ret := none) (by decide) rfl ?_
  intro p e s m args below meth c s₁ B hml hv
  obtain ⟨hargs, hsz, hP, hK, hD0, hT⟩ := hv
  have hx := B.exec
  have hb := B.bytes
  have hr := B.returns
  have htb : ∀ w ∈ TB, w.before args s = true := fun w h => atoms_spec (ws := Cond.code yX1_copyFrom cX1_copyFrom 2 none :: TB) B.pre w (List.mem_cons_of_mem _ h)
  have hown : s.vm.findClass "ManyEyes$Eye" = some m.cls := findClass_of_methodNamed B.named
  have hlocks := B.notSynchronized
  subst hsz
  have hD := hD0.self (sz := s.heap.size)
  generalize hAe : va_A (WS_X1_copyFrom cI cJ cZ cY a0 a0_lensSide a0_lensWidth a0_pairA a0_pairB a0_pairDelay a1 a1_lensSide a1_lensWidth a1_pairA a1_pairB a1_pairDelay v0 v1) s.heap.size = A at hD hT ⊢
  have hA : ∀ q : Nat, s.heap.size ≤ q → A q := fun q h => by rw [← hAe]; exact Or.inr h
  have hS : va_S A s.heap s.heap [] := va_S.rf
  have hl := lv_entry ([.ref a1, .ref a0]) (n := 2) (Nat.le_of_ble_eq_true rfl)
  have he : entryFrame m args 2 = F0 m 0 (lg_sl ([.ref a1, .ref a0]) ++ List.replicate (2 - (lg_sl ([.ref a1, .ref a0])).length) Slot.unset).toArray [] := by rw [hargs, lg_entry_eq]
  rw [he]
  generalize (lg_sl ([.ref a1, .ref a0]) ++ List.replicate (2 - (lg_sl ([.ref a1, .ref a0])).length) Slot.unset).toArray = ls at hl ⊢
  have hl : lv_has ls 2 [(0, .ref a1), (1, .ref a0)] := hl
  show W p l e rm_X1_copyFrom s m args below meth c s.heap [] 0 0 _ _
  refine W.genQ (fun Q hQ => ?_)
  generalize hHe : s.heap = H at hP ⊢
  have hS : va_S A s.heap H [] := by rw [← hHe]; exact va_S.rf
  generalize ([] : List Loc) = locs at hS ⊢
  unfold f_X1_copyFrom at hg
  refine lv_aload_n hx hb dX1_copyFrom_0 rfl (lv_at hl 1 rfl) ?_
  refine va_get (ci := 0) (v := .ref a0_lensSide) (C := RX1) (T := TX1) (N := 7) hx hb htb uX1 hown hK.1 hP 0 rfl rfl 0 (by decide) (htb _ tg_92) (fun _ h9 => h9) rfl dX1_copyFrom_1 ?_
  refine lv_aload_n hx hb dX1_copyFrom_4 rfl (lv_at hl 0 rfl) ?_
  refine va_get (ci := 0) (v := .ref a1_lensSide) (C := RX1) (T := TX1) (N := 7) hx hb htb uX1 hown hK.1 hP 6 rfl rfl 0 (by decide) (htb _ tg_92) (fun _ h9 => h9) rfl dX1_copyFrom_5 ?_
  obtain ⟨r_1, hr_1, hg⟩ := g_bd hg
  refine cc_v (va_runSN (As := [.ref a0_lensSide, .ref a1_lensSide]) (rest := []) ⟨hx, hb, hml, hown, htb⟩ (k_X11_copyRow a0_lensSide a1_lensSide 16 16 (pX1_lensSide v0) (pX1_lensSide v1) r_1 hr_1) (cw_SN 2 htb tg_895 tg_1 (hK.2.1 _ nw_901) tg_894 rfl rfl (by decide +kernel) ⟨Nat.le_of_ble_eq_true rfl, Nat.le_of_ble_eq_true rfl⟩) ⟨PC.blind, PC.pre hK hT hP hD hS hA [1, 7] rfl (by decide)⟩ rfl rfl hl.1 rfl (lv_room (Nat.le_of_ble_eq_true rfl)) dX1_copyFrom_8 ⟨Nat.le_of_ble_eq_true rfl, Nat.le_of_ble_eq_true rfl⟩) hP hD hS hA [1, 7] [0, 2, 3, 4, 5, 6, 8, 9, 10, 11] rfl rfl (by decide) (by decide) (fun u9 H locs hw hP hD hS => ?_)
  have hw := hw.symm
  subst hw
  have hP : va_P D vwCl (WS_X1_copyFrom cI cJ cZ cY a0 a0_lensSide a0_lensWidth a0_pairA a0_pairB a0_pairDelay a1 a1_lensSide a1_lensWidth a1_pairA a1_pairB a1_pairDelay v0 (sX1_lensSide v1 r_1)) H := hP.sub [0, 10, 1, 2, 3, 4, 5, 11, 6, 7, 8, 9] rfl
  have hD : va_D A (WS_X1_copyFrom cI cJ cZ cY a0 a0_lensSide a0_lensWidth a0_pairA a0_pairB a0_pairDelay a1 a1_lensSide a1_lensWidth a1_pairA a1_pairB a1_pairDelay v0 (sX1_lensSide v1 r_1)) := hD.sub [0, 10, 1, 2, 3, 4, 5, 11, 6, 7, 8, 9] (by decide) rfl
  refine lv_aload_n hx hb dX1_copyFrom_11 rfl (lv_at hl 1 rfl) ?_
  refine va_get (ci := 0) (v := .ref a0_lensWidth) (C := RX1) (T := TX1) (N := 7) hx hb htb uX1 hown hK.1 hP 0 rfl rfl 1 (by decide) (htb _ tg_95) (fun _ h9 => h9) rfl dX1_copyFrom_12 ?_
  refine lv_aload_n hx hb dX1_copyFrom_15 rfl (lv_at hl 0 rfl) ?_
  refine va_get (ci := 0) (v := .ref a1_lensWidth) (C := RX1) (T := TX1) (N := 7) hx hb htb uX1 hown hK.1 hP 6 rfl rfl 1 (by decide) (htb _ tg_95) (fun _ h9 => h9) rfl dX1_copyFrom_16 ?_
  obtain ⟨r_2, hr_2, hg⟩ := g_bd hg
  refine cc_v (va_runSN (As := [.ref a0_lensWidth, .ref a1_lensWidth]) (rest := []) ⟨hx, hb, hml, hown, htb⟩ (k_X11_copyRow a0_lensWidth a1_lensWidth 16 16 (pX1_lensWidth v0) (pX1_lensWidth (sX1_lensSide v1 r_1)) r_2 hr_2) (cw_SN 2 htb tg_895 tg_1 (hK.2.1 _ nw_901) tg_894 rfl rfl (by decide +kernel) ⟨Nat.le_of_ble_eq_true rfl, Nat.le_of_ble_eq_true rfl⟩) ⟨PC.blind, PC.pre hK hT hP hD hS hA [2, 8] rfl (by decide)⟩ rfl rfl hl.1 rfl (lv_room (Nat.le_of_ble_eq_true rfl)) dX1_copyFrom_19 ⟨Nat.le_of_ble_eq_true rfl, Nat.le_of_ble_eq_true rfl⟩) hP hD hS hA [2, 8] [0, 1, 3, 4, 5, 6, 7, 9, 10, 11] rfl rfl (by decide) (by decide) (fun u9 H locs hw hP hD hS => ?_)
  have hw := hw.symm
  subst hw
  have hP : va_P D vwCl (WS_X1_copyFrom cI cJ cZ cY a0 a0_lensSide a0_lensWidth a0_pairA a0_pairB a0_pairDelay a1 a1_lensSide a1_lensWidth a1_pairA a1_pairB a1_pairDelay v0 (sX1_lensWidth (sX1_lensSide v1 r_1) r_2)) H := hP.sub [0, 1, 10, 2, 3, 4, 5, 6, 11, 7, 8, 9] rfl
  have hD : va_D A (WS_X1_copyFrom cI cJ cZ cY a0 a0_lensSide a0_lensWidth a0_pairA a0_pairB a0_pairDelay a1 a1_lensSide a1_lensWidth a1_pairA a1_pairB a1_pairDelay v0 (sX1_lensWidth (sX1_lensSide v1 r_1) r_2)) := hD.sub [0, 1, 10, 2, 3, 4, 5, 6, 11, 7, 8, 9] (by decide) rfl
  refine lv_aload_n hx hb dX1_copyFrom_22 rfl (lv_at hl 1 rfl) ?_
  refine va_get (ci := 0) (v := .ref a0_pairA) (C := RX1) (T := TX1) (N := 7) hx hb htb uX1 hown hK.1 hP 0 rfl rfl 2 (by decide) (htb _ tg_98) (fun _ h9 => h9) rfl dX1_copyFrom_23 ?_
  refine lv_aload_n hx hb dX1_copyFrom_26 rfl (lv_at hl 0 rfl) ?_
  refine va_get (ci := 0) (v := .ref a1_pairA) (C := RX1) (T := TX1) (N := 7) hx hb htb uX1 hown hK.1 hP 6 rfl rfl 2 (by decide) (htb _ tg_98) (fun _ h9 => h9) rfl dX1_copyFrom_27 ?_
  obtain ⟨r_3, hr_3, hg⟩ := g_bd hg
  refine cc_v (va_runSN (As := [.ref a0_pairA, .ref a1_pairA]) (rest := []) ⟨hx, hb, hml, hown, htb⟩ (k_X11_copyRow a0_pairA a1_pairA 16 16 (pX1_pairA v0) (pX1_pairA (sX1_lensWidth (sX1_lensSide v1 r_1) r_2)) r_3 hr_3) (cw_SN 2 htb tg_895 tg_1 (hK.2.1 _ nw_901) tg_894 rfl rfl (by decide +kernel) ⟨Nat.le_of_ble_eq_true rfl, Nat.le_of_ble_eq_true rfl⟩) ⟨PC.blind, PC.pre hK hT hP hD hS hA [3, 9] rfl (by decide)⟩ rfl rfl hl.1 rfl (lv_room (Nat.le_of_ble_eq_true rfl)) dX1_copyFrom_30 ⟨Nat.le_of_ble_eq_true rfl, Nat.le_of_ble_eq_true rfl⟩) hP hD hS hA [3, 9] [0, 1, 2, 4, 5, 6, 7, 8, 10, 11] rfl rfl (by decide) (by decide) (fun u9 H locs hw hP hD hS => ?_)
  have hw := hw.symm
  subst hw
  have hP : va_P D vwCl (WS_X1_copyFrom cI cJ cZ cY a0 a0_lensSide a0_lensWidth a0_pairA a0_pairB a0_pairDelay a1 a1_lensSide a1_lensWidth a1_pairA a1_pairB a1_pairDelay v0 (sX1_pairA (sX1_lensWidth (sX1_lensSide v1 r_1) r_2) r_3)) H := hP.sub [0, 1, 2, 10, 3, 4, 5, 6, 7, 11, 8, 9] rfl
  have hD : va_D A (WS_X1_copyFrom cI cJ cZ cY a0 a0_lensSide a0_lensWidth a0_pairA a0_pairB a0_pairDelay a1 a1_lensSide a1_lensWidth a1_pairA a1_pairB a1_pairDelay v0 (sX1_pairA (sX1_lensWidth (sX1_lensSide v1 r_1) r_2) r_3)) := hD.sub [0, 1, 2, 10, 3, 4, 5, 6, 7, 11, 8, 9] (by decide) rfl
  refine lv_aload_n hx hb dX1_copyFrom_33 rfl (lv_at hl 1 rfl) ?_
  refine va_get (ci := 0) (v := .ref a0_pairB) (C := RX1) (T := TX1) (N := 7) hx hb htb uX1 hown hK.1 hP 0 rfl rfl 3 (by decide) (htb _ tg_101) (fun _ h9 => h9) rfl dX1_copyFrom_34 ?_
  refine lv_aload_n hx hb dX1_copyFrom_37 rfl (lv_at hl 0 rfl) ?_
  refine va_get (ci := 0) (v := .ref a1_pairB) (C := RX1) (T := TX1) (N := 7) hx hb htb uX1 hown hK.1 hP 6 rfl rfl 3 (by decide) (htb _ tg_101) (fun _ h9 => h9) rfl dX1_copyFrom_38 ?_
  obtain ⟨r_4, hr_4, hg⟩ := g_bd hg
  refine cc_v (va_runSN (As := [.ref a0_pairB, .ref a1_pairB]) (rest := []) ⟨hx, hb, hml, hown, htb⟩ (k_X11_copyRow a0_pairB a1_pairB 16 16 (pX1_pairB v0) (pX1_pairB (sX1_pairA (sX1_lensWidth (sX1_lensSide v1 r_1) r_2) r_3)) r_4 hr_4) (cw_SN 2 htb tg_895 tg_1 (hK.2.1 _ nw_901) tg_894 rfl rfl (by decide +kernel) ⟨Nat.le_of_ble_eq_true rfl, Nat.le_of_ble_eq_true rfl⟩) ⟨PC.blind, PC.pre hK hT hP hD hS hA [4, 10] rfl (by decide)⟩ rfl rfl hl.1 rfl (lv_room (Nat.le_of_ble_eq_true rfl)) dX1_copyFrom_41 ⟨Nat.le_of_ble_eq_true rfl, Nat.le_of_ble_eq_true rfl⟩) hP hD hS hA [4, 10] [0, 1, 2, 3, 5, 6, 7, 8, 9, 11] rfl rfl (by decide) (by decide) (fun u9 H locs hw hP hD hS => ?_)
  have hw := hw.symm
  subst hw
  have hP : va_P D vwCl (WS_X1_copyFrom cI cJ cZ cY a0 a0_lensSide a0_lensWidth a0_pairA a0_pairB a0_pairDelay a1 a1_lensSide a1_lensWidth a1_pairA a1_pairB a1_pairDelay v0 (sX1_pairB (sX1_pairA (sX1_lensWidth (sX1_lensSide v1 r_1) r_2) r_3) r_4)) H := hP.sub [0, 1, 2, 3, 10, 4, 5, 6, 7, 8, 11, 9] rfl
  have hD : va_D A (WS_X1_copyFrom cI cJ cZ cY a0 a0_lensSide a0_lensWidth a0_pairA a0_pairB a0_pairDelay a1 a1_lensSide a1_lensWidth a1_pairA a1_pairB a1_pairDelay v0 (sX1_pairB (sX1_pairA (sX1_lensWidth (sX1_lensSide v1 r_1) r_2) r_3) r_4)) := hD.sub [0, 1, 2, 3, 10, 4, 5, 6, 7, 8, 11, 9] (by decide) rfl
  refine lv_aload_n hx hb dX1_copyFrom_44 rfl (lv_at hl 1 rfl) ?_
  refine va_get (ci := 0) (v := .ref a0_pairDelay) (C := RX1) (T := TX1) (N := 7) hx hb htb uX1 hown hK.1 hP 0 rfl rfl 4 (by decide) (htb _ tg_104) (fun _ h9 => h9) rfl dX1_copyFrom_45 ?_
  refine lv_aload_n hx hb dX1_copyFrom_48 rfl (lv_at hl 0 rfl) ?_
  refine va_get (ci := 0) (v := .ref a1_pairDelay) (C := RX1) (T := TX1) (N := 7) hx hb htb uX1 hown hK.1 hP 6 rfl rfl 4 (by decide) (htb _ tg_104) (fun _ h9 => h9) rfl dX1_copyFrom_49 ?_
  obtain ⟨r_5, hr_5, hg⟩ := g_bd hg
  refine cc_v (va_runSN (As := [.ref a0_pairDelay, .ref a1_pairDelay]) (rest := []) ⟨hx, hb, hml, hown, htb⟩ (k_X11_copyRow a0_pairDelay a1_pairDelay 16 16 (pX1_pairDelay v0) (pX1_pairDelay (sX1_pairB (sX1_pairA (sX1_lensWidth (sX1_lensSide v1 r_1) r_2) r_3) r_4)) r_5 hr_5) (cw_SN 2 htb tg_895 tg_1 (hK.2.1 _ nw_901) tg_894 rfl rfl (by decide +kernel) ⟨Nat.le_of_ble_eq_true rfl, Nat.le_of_ble_eq_true rfl⟩) ⟨PC.blind, PC.pre hK hT hP hD hS hA [5, 11] rfl (by decide)⟩ rfl rfl hl.1 rfl (lv_room (Nat.le_of_ble_eq_true rfl)) dX1_copyFrom_52 ⟨Nat.le_of_ble_eq_true rfl, Nat.le_of_ble_eq_true rfl⟩) hP hD hS hA [5, 11] [0, 1, 2, 3, 4, 6, 7, 8, 9, 10] rfl rfl (by decide) (by decide) (fun u9 H locs hw hP hD hS => ?_)
  have hw := hw.symm
  subst hw
  have hP : va_P D vwCl (WS_X1_copyFrom cI cJ cZ cY a0 a0_lensSide a0_lensWidth a0_pairA a0_pairB a0_pairDelay a1 a1_lensSide a1_lensWidth a1_pairA a1_pairB a1_pairDelay v0 (sX1_pairDelay (sX1_pairB (sX1_pairA (sX1_lensWidth (sX1_lensSide v1 r_1) r_2) r_3) r_4) r_5)) H := hP.sub [0, 1, 2, 3, 4, 10, 5, 6, 7, 8, 9, 11] rfl
  have hD : va_D A (WS_X1_copyFrom cI cJ cZ cY a0 a0_lensSide a0_lensWidth a0_pairA a0_pairB a0_pairDelay a1 a1_lensSide a1_lensWidth a1_pairA a1_pairB a1_pairDelay v0 (sX1_pairDelay (sX1_pairB (sX1_pairA (sX1_lensWidth (sX1_lensSide v1 r_1) r_2) r_3) r_4) r_5)) := hD.sub [0, 1, 2, 3, 4, 10, 5, 6, 7, 8, 9, 11] (by decide) rfl
  refine lv_aload_n hx hb dX1_copyFrom_55 rfl (lv_at hl 0 rfl) ?_
  refine lv_aload_n hx hb dX1_copyFrom_56 rfl (lv_at hl 1 rfl) ?_
  refine va_get (ci := 0) (v := .int (pX1_lenses v0)) (C := RX1) (T := TX1) (N := 7) hx hb htb uX1 hown hK.1 hP 0 rfl rfl 5 (by decide) (htb _ tg_107) (fun _ h9 => h9) rfl dX1_copyFrom_57 ?_
  refine lv_topi (fun x_6 ex_6 => ?_)
  have hg := g_lte hg x_6 ex_6
  refine va_put (ci := 0) (v := .int x_6) (ty := .int) (C := RX1) (T := TX1) (N := 7) hx hb htb uX1 tyX1 tyX1_ok nmX1 hown hK.1 hP hD hS 6 rfl rfl 5 (by decide) (htb _ tg_107) (fun _ h9 => h9) rfl (by decide +kernel) rfl rfl (Nat.le_of_ble_eq_true rfl) dX1_copyFrom_60 (fun H locs hP hD hS => ?_)
  obtain ⟨v1_7, ev1_7⟩ : ∃ z, z = sX1_lenses (sX1_pairDelay (sX1_pairB (sX1_pairA (sX1_lensWidth (sX1_lensSide v1 r_1) r_2) r_3) r_4) r_5) x_6 := ⟨_, rfl⟩
  have hP : va_P D vwCl (WS_X1_copyFrom cI cJ cZ cY a0 a0_lensSide a0_lensWidth a0_pairA a0_pairB a0_pairDelay a1 a1_lensSide a1_lensWidth a1_pairA a1_pairB a1_pairDelay v0 v1_7) H := by rw [ev1_7]; exact hP
  have hD : va_D A (WS_X1_copyFrom cI cJ cZ cY a0 a0_lensSide a0_lensWidth a0_pairA a0_pairB a0_pairDelay a1 a1_lensSide a1_lensWidth a1_pairA a1_pairB a1_pairDelay v0 v1_7) := by rw [ev1_7]; exact hD
  have hg := g_lte hg v1_7 ev1_7
  refine lv_aload_n hx hb dX1_copyFrom_63 rfl (lv_at hl 0 rfl) ?_
  refine lv_aload_n hx hb dX1_copyFrom_64 rfl (lv_at hl 1 rfl) ?_
  refine va_get (ci := 0) (v := .int (pX1_pairs v0)) (C := RX1) (T := TX1) (N := 7) hx hb htb uX1 hown hK.1 hP 0 rfl rfl 6 (by decide) (htb _ tg_112) (fun _ h9 => h9) rfl dX1_copyFrom_65 ?_
  refine lv_topi (fun x_8 ex_8 => ?_)
  have hg := g_lte hg x_8 ex_8
  refine va_put (ci := 0) (v := .int x_8) (ty := .int) (C := RX1) (T := TX1) (N := 7) hx hb htb uX1 tyX1 tyX1_ok nmX1 hown hK.1 hP hD hS 6 rfl rfl 6 (by decide) (htb _ tg_112) (fun _ h9 => h9) rfl (by decide +kernel) rfl rfl (Nat.le_of_ble_eq_true rfl) dX1_copyFrom_68 (fun H locs hP hD hS => ?_)
  obtain ⟨v1_9, ev1_9⟩ : ∃ z, z = sX1_pairs v1_7 x_8 := ⟨_, rfl⟩
  have hP : va_P D vwCl (WS_X1_copyFrom cI cJ cZ cY a0 a0_lensSide a0_lensWidth a0_pairA a0_pairB a0_pairDelay a1 a1_lensSide a1_lensWidth a1_pairA a1_pairB a1_pairDelay v0 v1_9) H := by rw [ev1_9]; exact hP
  have hD : va_D A (WS_X1_copyFrom cI cJ cZ cY a0 a0_lensSide a0_lensWidth a0_pairA a0_pairB a0_pairDelay a1 a1_lensSide a1_lensWidth a1_pairA a1_pairB a1_pairDelay v0 v1_9) := by rw [ev1_9]; exact hD
  have hg := g_lte hg v1_9 ev1_9
  have hg := Option.some.inj hg
  rw [hQ]
  exact W.vret hx hb hr (fun t ht hW => ⟨⟨(v1_9), rfl, hg, by rw [ht]; exact hP, hD⟩, hS.F ht⟩) hS.2.2 dX1_copyFrom_71

/-! ManyEyes$Flight.comparedBy(LManyEyes$Eye;II)I -/
def WS_X2_comparedBy (cI cJ cZ cY : ClassId) (a0 a0_lensSide a0_lensWidth a0_pairA a0_pairB a0_pairDelay a1 a1_rows a1_takes : Nat) (v0 : BX1) (v1 : BX2) : va_W := (GX1 cI cJ cZ cY a0 a0_lensSide a0_lensWidth a0_pairA a0_pairB a0_pairDelay v0) ++ ((GX2 cI cJ cZ cY a1 a1_rows a1_takes v1))
def f_X2_comparedBy (v0 : BX1) (v1 : BX2) (p1 : Int32) (p2 : Int32) : Option (Int32) := (f_X11_isWithin p1 0 ((pX2_pairs v1) - 1)).bind (fun r_1 => if (r_1 : Int32) = 0 then (some 0) else (g_gd (inB p1 16) (if (((pX1_pairDelay v0) (p1 : Int32).toNatClampNeg) : Int32) ≤ p2 then (g_gd (inB p1 16) (g_lt ((p2 - ((pX1_pairDelay v0) (p1 : Int32).toNatClampNeg)) : Int32) (fun x4_6 => g_gd (inB p1 16) (g_lt (((pX1_pairA v0) (p1 : Int32).toNatClampNeg) : Int32) (fun x5_8 => g_gd (inB p1 16) (g_lt (((pX1_pairB v0) (p1 : Int32).toNatClampNeg) : Int32) (fun x6_10 => (f_X2_takenBy v1 x5_8 x4_6).bind (fun r_11 => (f_X2_takenBy v1 x6_10 p2).bind (fun r_12 => (f_X2_takenBy v1 x5_8 p2).bind (fun r_13 => (f_X2_takenBy v1 x6_10 x4_6).bind (fun r_14 => some ((r_11 * r_12) - (r_13 * r_14))))))))))))) else (some 0))))
abbrev rm_X2_comparedBy : Room := { frames := 1, cells := 0, slots := 0, locals := 23 }
set_option maxHeartbeats 4000000 in
set_option maxRecDepth 100000 in
theorem k_X2_comparedBy {l : Launch} {D : va_G} {cI cJ cZ cY : ClassId} {tX tY : Nat} {sz : Nat} (a0 a0_lensSide a0_lensWidth a0_pairA a0_pairB a0_pairDelay a1 a1_rows a1_takes : Nat) (v0 : BX1) (v1 : BX2) (p1 : Int32) (p2 : Int32) (res : Int32) (hg : f_X2_comparedBy v0 v1 p1 p2 = some res) : Met l yX2_comparedBy (Cond.code yX2_comparedBy cX2_comparedBy 7 (some .int) :: TB) rm_X2_comparedBy (PC D cI cJ cZ cY tX tY [.ref a1, .ref a0, .int p1, .int p2] (WS_X2_comparedBy cI cJ cZ cY a0 a0_lensSide a0_lensWidth a0_pairA a0_pairB a0_pairDelay a1 a1_rows a1_takes v0 v1) sz) (va_Qi (fun (r : Int32) (_ : Unit) => r = res) (BC D (fun _ : Unit => WS_X2_comparedBy cI cJ cZ cY a0 a0_lensSide a0_lensWidth a0_pairA a0_pairB a0_pairDelay a1 a1_rows a1_takes v0 v1) (va_A (WS_X2_comparedBy cI cJ cZ cY a0 a0_lensSide a0_lensWidth a0_pairA a0_pairB a0_pairDelay a1 a1_rows a1_takes v0 v1) sz)) (va_A (WS_X2_comparedBy cI cJ cZ cY a0 a0_lensSide a0_lensWidth a0_pairA a0_pairB a0_pairDelay a1 a1_rows a1_takes v0 v1) sz)) 0 0 (va_A (WS_X2_comparedBy cI cJ cZ cY a0 a0_lensSide a0_lensWidth a0_pairA a0_pairB a0_pairDelay a1 a1_rows a1_takes v0 v1) sz) := by
  refine Met.ofW (cc := cX2_comparedBy) (maxL := 7) (ret := (some .int)) (by decide) rfl ?_
  intro p e s m args below meth c s₁ B hml hv
  obtain ⟨hargs, hsz, hP, hK, hD0, hT⟩ := hv
  have hx := B.exec
  have hb := B.bytes
  have hr := B.returns
  have htb : ∀ w ∈ TB, w.before args s = true := fun w h => atoms_spec (ws := Cond.code yX2_comparedBy cX2_comparedBy 7 (some .int) :: TB) B.pre w (List.mem_cons_of_mem _ h)
  have hown : s.vm.findClass "ManyEyes$Flight" = some m.cls := findClass_of_methodNamed B.named
  have hlocks := B.notSynchronized
  subst hsz
  have hD := hD0.self (sz := s.heap.size)
  generalize hAe : va_A (WS_X2_comparedBy cI cJ cZ cY a0 a0_lensSide a0_lensWidth a0_pairA a0_pairB a0_pairDelay a1 a1_rows a1_takes v0 v1) s.heap.size = A at hD hT ⊢
  have hA : ∀ q : Nat, s.heap.size ≤ q → A q := fun q h => by rw [← hAe]; exact Or.inr h
  have hS : va_S A s.heap s.heap [] := va_S.rf
  have hl := lv_entry ([.ref a1, .ref a0, .int p1, .int p2]) (n := 7) (Nat.le_of_ble_eq_true rfl)
  have he : entryFrame m args 7 = F0 m 0 (lg_sl ([.ref a1, .ref a0, .int p1, .int p2]) ++ List.replicate (7 - (lg_sl ([.ref a1, .ref a0, .int p1, .int p2])).length) Slot.unset).toArray [] := by rw [hargs, lg_entry_eq]
  rw [he]
  generalize (lg_sl ([.ref a1, .ref a0, .int p1, .int p2]) ++ List.replicate (7 - (lg_sl ([.ref a1, .ref a0, .int p1, .int p2])).length) Slot.unset).toArray = ls at hl ⊢
  have hl : lv_has ls 7 [(0, .ref a1), (1, .ref a0), (2, .int p1), (3, .int p2)] := hl
  show W p l e rm_X2_comparedBy s m args below meth c s.heap [] 0 0 _ _
  refine W.genQ (fun Q hQ => ?_)
  generalize hHe : s.heap = H at hP ⊢
  have hS : va_S A s.heap H [] := by rw [← hHe]; exact va_S.rf
  generalize ([] : List Loc) = locs at hS ⊢
  unfold f_X2_comparedBy at hg
  refine lv_iload_n hx hb dX2_comparedBy_0 rfl (lv_at hl 2 rfl) ?_
  refine lv_iconst (v := 0) hx hb dX2_comparedBy_1 (by decide) ?_
  refine lv_aload_n hx hb dX2_comparedBy_2 rfl (lv_at hl 0 rfl) ?_
  refine va_get (ci := 1) (v := .int (pX2_pairs v1)) (C := RX2) (T := TX2) (N := 12) hx hb htb uX2 hown hK.1 hP 6 rfl rfl 11 (by decide) (htb _ tg_203) (fun _ h9 => h9) rfl dX2_comparedBy_3 ?_
  refine lv_iconst (v := 1) hx hb dX2_comparedBy_6 (by decide) ?_
  refine lv_isub hx hb dX2_comparedBy_7 ?_
  obtain ⟨r_1, hr_1, hg⟩ := g_bd hg
  refine cc_i (va_runSN (As := [.int p1, .int 0, .int ((pX2_pairs v1) - 1)]) (rest := []) ⟨hx, hb, hml, hown, htb⟩ (k_X11_isWithin p1 0 ((pX2_pairs v1) - 1) r_1 hr_1) (cw_SN 3 htb tg_450 tg_1 (hK.2.1 _ nw_784) tg_449 rfl rfl (by decide +kernel) ⟨Nat.le_of_ble_eq_true rfl, Nat.le_of_ble_eq_true rfl⟩) ⟨PC.blind, PC.pre hK hT hP hD hS hA [] rfl (by decide)⟩ rfl rfl hl.1 rfl (lv_room (Nat.le_of_ble_eq_true rfl)) dX2_comparedBy_8 ⟨Nat.le_of_ble_eq_true rfl, Nat.le_of_ble_eq_true rfl⟩) hP hD hS hA [] [0, 1, 2, 3, 4, 5, 6, 7, 8] rfl rfl (by decide) (by decide) (fun r9 u9 H locs hw hP hD hS => ?_)
  have hw := hw.symm
  subst hw
  have hP : va_P D vwCl (WS_X2_comparedBy cI cJ cZ cY a0 a0_lensSide a0_lensWidth a0_pairA a0_pairB a0_pairDelay a1 a1_rows a1_takes v0 v1) H := hP.sub [0, 1, 2, 3, 4, 5, 6, 7, 8] rfl
  have hD : va_D A (WS_X2_comparedBy cI cJ cZ cY a0 a0_lensSide a0_lensWidth a0_pairA a0_pairB a0_pairDelay a1 a1_rows a1_takes v0 v1) := hD.sub [0, 1, 2, 3, 4, 5, 6, 7, 8] (by decide) rfl
  refine lv_if_eq (tgt := 24) hx hb dX2_comparedBy_11 (by decide) (fun c_2 => ?_) (fun c_2 => ?_)
  · have hg := g_it hg c_2
    refine lv_iconst (v := 0) hx hb dX2_comparedBy_24 (by decide) ?_
    have hg := Option.some.inj hg
    rw [hQ]
    exact W.iret (v := 0) hx hb hr (fun t ht hW => ⟨⟨0, (), rfl, hg, by rw [ht]; exact hP, hD⟩, hS.F ht⟩) hS.2.2 dX2_comparedBy_25
  · have hg := g_if hg c_2
    refine lv_iload_n hx hb dX2_comparedBy_14 rfl (lv_at hl 3 rfl) ?_
    refine lv_aload_n hx hb dX2_comparedBy_15 rfl (lv_at hl 1 rfl) ?_
    refine va_get (ci := 0) (v := .ref a0_pairDelay) (C := RX1) (T := TX1) (N := 7) hx hb htb uX1 hown hK.1 hP 0 rfl rfl 4 (by decide) (htb _ tg_105) (fun _ h9 => h9) rfl dX2_comparedBy_16 ?_
    refine lv_iload_n hx hb dX2_comparedBy_19 rfl (lv_at hl 2 rfl) ?_
    obtain ⟨h_3, hg⟩ := g_gde hg
    refine va_iald hx hb hK.1 hP 5 0 rfl rfl (inB_vp h_3) dX2_comparedBy_20 ?_
    refine lv_icmp_ge (tgt := 26) hx hb dX2_comparedBy_21 (by decide) (fun c_4 => ?_) (fun c_4 => ?_)
    · have hg := g_it hg c_4
      refine lv_iload_n hx hb dX2_comparedBy_26 rfl (lv_at hl 3 rfl) ?_
      refine lv_aload_n hx hb dX2_comparedBy_27 rfl (lv_at hl 1 rfl) ?_
      refine va_get (ci := 0) (v := .ref a0_pairDelay) (C := RX1) (T := TX1) (N := 7) hx hb htb uX1 hown hK.1 hP 0 rfl rfl 4 (by decide) (htb _ tg_105) (fun _ h9 => h9) rfl dX2_comparedBy_28 ?_
      refine lv_iload_n hx hb dX2_comparedBy_31 rfl (lv_at hl 2 rfl) ?_
      obtain ⟨h_5, hg⟩ := g_gde hg
      refine va_iald hx hb hK.1 hP 5 0 rfl rfl (inB_vp h_5) dX2_comparedBy_32 ?_
      refine lv_isub hx hb dX2_comparedBy_33 ?_
      refine lv_topi (fun x4_6 ex4_6 => ?_)
      have hg := g_lte hg x4_6 ex4_6
      refine lv_istore (lv' := [(4, .int x4_6), (0, .ref a1), (1, .ref a0), (2, .int p1), (3, .int p2)]) hx hb dX2_comparedBy_34 hl (by decide) rfl (fun ls hl => ?_)
      refine lv_aload_n hx hb dX2_comparedBy_36 rfl (lv_at hl 2 rfl) ?_
      refine va_get (ci := 0) (v := .ref a0_pairA) (C := RX1) (T := TX1) (N := 7) hx hb htb uX1 hown hK.1 hP 0 rfl rfl 2 (by decide) (htb _ tg_99) (fun _ h9 => h9) rfl dX2_comparedBy_37 ?_
      refine lv_iload_n hx hb dX2_comparedBy_40 rfl (lv_at hl 3 rfl) ?_
      obtain ⟨h_7, hg⟩ := g_gde hg
      refine va_iald hx hb hK.1 hP 3 0 rfl rfl (inB_vp h_7) dX2_comparedBy_41 ?_
      refine lv_topi (fun x5_8 ex5_8 => ?_)
      have hg := g_lte hg x5_8 ex5_8
      refine lv_istore (lv' := [(5, .int x5_8), (4, .int x4_6), (0, .ref a1), (1, .ref a0), (2, .int p1), (3, .int p2)]) hx hb dX2_comparedBy_42 hl (by decide) rfl (fun ls hl => ?_)
      refine lv_aload_n hx hb dX2_comparedBy_44 rfl (lv_at hl 3 rfl) ?_
      refine va_get (ci := 0) (v := .ref a0_pairB) (C := RX1) (T := TX1) (N := 7) hx hb htb uX1 hown hK.1 hP 0 rfl rfl 3 (by decide) (htb _ tg_102) (fun _ h9 => h9) rfl dX2_comparedBy_45 ?_
      refine lv_iload_n hx hb dX2_comparedBy_48 rfl (lv_at hl 4 rfl) ?_
      obtain ⟨h_9, hg⟩ := g_gde hg
      refine va_iald hx hb hK.1 hP 4 0 rfl rfl (inB_vp h_9) dX2_comparedBy_49 ?_
      refine lv_topi (fun x6_10 ex6_10 => ?_)
      have hg := g_lte hg x6_10 ex6_10
      refine lv_istore (lv' := [(6, .int x6_10), (5, .int x5_8), (4, .int x4_6), (0, .ref a1), (1, .ref a0), (2, .int p1), (3, .int p2)]) hx hb dX2_comparedBy_50 hl (by decide) rfl (fun ls hl => ?_)
      refine lv_aload_n hx hb dX2_comparedBy_52 rfl (lv_at hl 3 rfl) ?_
      refine lv_iload hx hb dX2_comparedBy_53 (lv_at hl 1 rfl) ?_
      refine lv_iload hx hb dX2_comparedBy_55 (lv_at hl 2 rfl) ?_
      obtain ⟨r_11, hr_11, hg⟩ := g_bd hg
      refine cc_i (va_runV (C := RX2) (As := [.int x5_8, .int x4_6]) (rest := []) ⟨hx, hb, hml, hown, htb⟩ (k_X2_takenBy a1 a1_rows a1_takes v1 x5_8 x4_6 r_11 hr_11) (cw_V 2 htb tg_779 tg_7 tg_785 tg_777 tg_778 rfl rfl (by decide +kernel) ⟨Nat.le_of_ble_eq_true rfl, Nat.le_of_ble_eq_true rfl⟩) ⟨PC.blind, va_recv hK.1 hP (ci := 1) (q0 := 6) rfl rfl, PC.pre hK hT hP hD hS hA [6, 7, 8] rfl (by decide)⟩ rfl rfl hl.1 rfl (lv_room (Nat.le_of_ble_eq_true rfl)) dX2_comparedBy_57 ⟨Nat.le_of_ble_eq_true rfl, Nat.le_of_ble_eq_true rfl⟩) hP hD hS hA [6, 7, 8] [0, 1, 2, 3, 4, 5] rfl rfl (by decide) (by decide) (fun r9 u9 H locs hw hP hD hS => ?_)
      have hw := hw.symm
      subst hw
      have hP : va_P D vwCl (WS_X2_comparedBy cI cJ cZ cY a0 a0_lensSide a0_lensWidth a0_pairA a0_pairB a0_pairDelay a1 a1_rows a1_takes v0 v1) H := hP.sub [0, 1, 2, 3, 4, 5, 6, 7, 8] rfl
      have hD : va_D A (WS_X2_comparedBy cI cJ cZ cY a0 a0_lensSide a0_lensWidth a0_pairA a0_pairB a0_pairDelay a1 a1_rows a1_takes v0 v1) := hD.sub [0, 1, 2, 3, 4, 5, 6, 7, 8] (by decide) rfl
      refine lv_aload_n hx hb dX2_comparedBy_60 rfl (lv_at hl 3 rfl) ?_
      refine lv_iload hx hb dX2_comparedBy_61 (lv_at hl 0 rfl) ?_
      refine lv_iload_n hx hb dX2_comparedBy_63 rfl (lv_at hl 6 rfl) ?_
      obtain ⟨r_12, hr_12, hg⟩ := g_bd hg
      refine cc_i (va_runV (C := RX2) (As := [.int x6_10, .int p2]) (rest := [.int r_11]) ⟨hx, hb, hml, hown, htb⟩ (k_X2_takenBy a1 a1_rows a1_takes v1 x6_10 p2 r_12 hr_12) (cw_V 2 htb tg_779 tg_7 tg_785 tg_777 tg_778 rfl rfl (by decide +kernel) ⟨Nat.le_of_ble_eq_true rfl, Nat.le_of_ble_eq_true rfl⟩) ⟨PC.blind, va_recv hK.1 hP (ci := 1) (q0 := 6) rfl rfl, PC.pre hK hT hP hD hS hA [6, 7, 8] rfl (by decide)⟩ rfl rfl hl.1 rfl (lv_room (Nat.le_of_ble_eq_true rfl)) dX2_comparedBy_64 ⟨Nat.le_of_ble_eq_true rfl, Nat.le_of_ble_eq_true rfl⟩) hP hD hS hA [6, 7, 8] [0, 1, 2, 3, 4, 5] rfl rfl (by decide) (by decide) (fun r9 u9 H locs hw hP hD hS => ?_)
      have hw := hw.symm
      subst hw
      have hP : va_P D vwCl (WS_X2_comparedBy cI cJ cZ cY a0 a0_lensSide a0_lensWidth a0_pairA a0_pairB a0_pairDelay a1 a1_rows a1_takes v0 v1) H := hP.sub [0, 1, 2, 3, 4, 5, 6, 7, 8] rfl
      have hD : va_D A (WS_X2_comparedBy cI cJ cZ cY a0 a0_lensSide a0_lensWidth a0_pairA a0_pairB a0_pairDelay a1 a1_rows a1_takes v0 v1) := hD.sub [0, 1, 2, 3, 4, 5, 6, 7, 8] (by decide) rfl
      refine lv_imul hx hb dX2_comparedBy_67 ?_
      refine lv_aload_n hx hb dX2_comparedBy_68 rfl (lv_at hl 3 rfl) ?_
      refine lv_iload hx hb dX2_comparedBy_69 (lv_at hl 1 rfl) ?_
      refine lv_iload_n hx hb dX2_comparedBy_71 rfl (lv_at hl 6 rfl) ?_
      obtain ⟨r_13, hr_13, hg⟩ := g_bd hg
      refine cc_i (va_runV (C := RX2) (As := [.int x5_8, .int p2]) (rest := [.int (r_11 * r_12)]) ⟨hx, hb, hml, hown, htb⟩ (k_X2_takenBy a1 a1_rows a1_takes v1 x5_8 p2 r_13 hr_13) (cw_V 2 htb tg_779 tg_7 tg_785 tg_777 tg_778 rfl rfl (by decide +kernel) ⟨Nat.le_of_ble_eq_true rfl, Nat.le_of_ble_eq_true rfl⟩) ⟨PC.blind, va_recv hK.1 hP (ci := 1) (q0 := 6) rfl rfl, PC.pre hK hT hP hD hS hA [6, 7, 8] rfl (by decide)⟩ rfl rfl hl.1 rfl (lv_room (Nat.le_of_ble_eq_true rfl)) dX2_comparedBy_72 ⟨Nat.le_of_ble_eq_true rfl, Nat.le_of_ble_eq_true rfl⟩) hP hD hS hA [6, 7, 8] [0, 1, 2, 3, 4, 5] rfl rfl (by decide) (by decide) (fun r9 u9 H locs hw hP hD hS => ?_)
      have hw := hw.symm
      subst hw
      have hP : va_P D vwCl (WS_X2_comparedBy cI cJ cZ cY a0 a0_lensSide a0_lensWidth a0_pairA a0_pairB a0_pairDelay a1 a1_rows a1_takes v0 v1) H := hP.sub [0, 1, 2, 3, 4, 5, 6, 7, 8] rfl
      have hD : va_D A (WS_X2_comparedBy cI cJ cZ cY a0 a0_lensSide a0_lensWidth a0_pairA a0_pairB a0_pairDelay a1 a1_rows a1_takes v0 v1) := hD.sub [0, 1, 2, 3, 4, 5, 6, 7, 8] (by decide) rfl
      refine lv_aload_n hx hb dX2_comparedBy_75 rfl (lv_at hl 3 rfl) ?_
      refine lv_iload hx hb dX2_comparedBy_76 (lv_at hl 0 rfl) ?_
      refine lv_iload hx hb dX2_comparedBy_78 (lv_at hl 2 rfl) ?_
      obtain ⟨r_14, hr_14, hg⟩ := g_bd hg
      refine cc_i (va_runV (C := RX2) (As := [.int x6_10, .int x4_6]) (rest := [.int r_13, .int (r_11 * r_12)]) ⟨hx, hb, hml, hown, htb⟩ (k_X2_takenBy a1 a1_rows a1_takes v1 x6_10 x4_6 r_14 hr_14) (cw_V 2 htb tg_779 tg_7 tg_785 tg_777 tg_778 rfl rfl (by decide +kernel) ⟨Nat.le_of_ble_eq_true rfl, Nat.le_of_ble_eq_true rfl⟩) ⟨PC.blind, va_recv hK.1 hP (ci := 1) (q0 := 6) rfl rfl, PC.pre hK hT hP hD hS hA [6, 7, 8] rfl (by decide)⟩ rfl rfl hl.1 rfl (lv_room (Nat.le_of_ble_eq_true rfl)) dX2_comparedBy_80 ⟨Nat.le_of_ble_eq_true rfl, Nat.le_of_ble_eq_true rfl⟩) hP hD hS hA [6, 7, 8] [0, 1, 2, 3, 4, 5] rfl rfl (by decide) (by decide) (fun r9 u9 H locs hw hP hD hS => ?_)
      have hw := hw.symm
      subst hw
      have hP : va_P D vwCl (WS_X2_comparedBy cI cJ cZ cY a0 a0_lensSide a0_lensWidth a0_pairA a0_pairB a0_pairDelay a1 a1_rows a1_takes v0 v1) H := hP.sub [0, 1, 2, 3, 4, 5, 6, 7, 8] rfl
      have hD : va_D A (WS_X2_comparedBy cI cJ cZ cY a0 a0_lensSide a0_lensWidth a0_pairA a0_pairB a0_pairDelay a1 a1_rows a1_takes v0 v1) := hD.sub [0, 1, 2, 3, 4, 5, 6, 7, 8] (by decide) rfl
      refine lv_imul hx hb dX2_comparedBy_83 ?_
      refine lv_isub hx hb dX2_comparedBy_84 ?_
      have hg := Option.some.inj hg
      rw [hQ]
      exact W.iret (v := ((r_11 * r_12) - (r_13 * r_14))) hx hb hr (fun t ht hW => ⟨⟨((r_11 * r_12) - (r_13 * r_14)), (), rfl, hg, by rw [ht]; exact hP, hD⟩, hS.F ht⟩) hS.2.2 dX2_comparedBy_85
    · have hg := g_if hg c_4
      refine lv_iconst (v := 0) hx hb dX2_comparedBy_24 (by decide) ?_
      have hg := Option.some.inj hg
      rw [hQ]
      exact W.iret (v := 0) hx hb hr (fun t ht hW => ⟨⟨0, (), rfl, hg, by rw [ht]; exact hP, hD⟩, hS.F ht⟩) hS.2.2 dX2_comparedBy_25

/-! ManyEyes$Flight.copyFrom(LManyEyes$Flight;)V -/
def WS_X2_copyFrom (cI cJ cZ cY : ClassId) (a0 a0_rows a0_takes a1 a1_rows a1_takes : Nat) (v0 : BX2) (v1 : BX2) : va_W := (GX2 cI cJ cZ cY a0 a0_rows a0_takes v0) ++ ((GX2 cI cJ cZ cY a1 a1_rows a1_takes v1))
def f_X2_copyFrom (v0 : BX2) (v1 : BX2) : Option (BX2) := (f_X11_copyRow 300 300 (pX2_rows v0) (pX2_rows v1)).bind (fun r_1 => (f_X11_copyRow 960 960 (pX2_takes v0) (pX2_takes (sX2_rows v1 r_1))).bind (fun r_2 => g_lt ((pX2_begun v0) : Int32) (fun x_3 => g_gd (x_3 = 0 ∨ x_3 = 1) (g_lt (sX2_begun (sX2_takes (sX2_rows v1 r_1) r_2) x_3) (fun v1_5 => g_lt ((pX2_hit v0) : Int32) (fun x_6 => g_gd (x_6 = 0 ∨ x_6 = 1) (g_lt (sX2_hit v1_5 x_6) (fun v1_8 => g_lt ((pX2_rested v0) : Int32) (fun x_9 => g_gd (x_9 = 0 ∨ x_9 = 1) (g_lt (sX2_rested v1_8 x_9) (fun v1_11 => g_lt ((pX2_count v0) : Int32) (fun x_12 => g_lt (sX2_count v1_11 x_12) (fun v1_13 => g_lt ((pX2_over v0) : Int32) (fun x_14 => g_lt (sX2_over v1_13 x_14) (fun v1_15 => g_lt ((pX2_x v0) : Int32) (fun x_16 => g_lt (sX2_x v1_15 x_16) (fun v1_17 => g_lt ((pX2_y v0) : Int32) (fun x_18 => g_lt (sX2_y v1_17 x_18) (fun v1_19 => g_lt ((pX2_head v0) : Int32) (fun x_20 => g_lt (sX2_head v1_19 x_20) (fun v1_21 => g_lt ((pX2_lenses v0) : Int32) (fun x_22 => g_lt (sX2_lenses v1_21 x_22) (fun v1_23 => g_lt ((pX2_pairs v0) : Int32) (fun x_24 => g_lt (sX2_pairs v1_23 x_24) (fun v1_25 => some (v1_25))))))))))))))))))))))))))
abbrev rm_X2_copyFrom : Room := { frames := 2, cells := 0, slots := 0, locals := 85 }
set_option maxHeartbeats 4000000 in
set_option maxRecDepth 100000 in
theorem k_X2_copyFrom {l : Launch} {D : va_G} {cI cJ cZ cY : ClassId} {tX tY : Nat} {sz : Nat} (a0 a0_rows a0_takes a1 a1_rows a1_takes : Nat) (v0 : BX2) (v1 : BX2) (res : BX2) (hg : f_X2_copyFrom v0 v1 = some res) : Met l yX2_copyFrom (Cond.code yX2_copyFrom cX2_copyFrom 2 none :: TB) rm_X2_copyFrom (PC D cI cJ cZ cY tX tY [.ref a1, .ref a0] (WS_X2_copyFrom cI cJ cZ cY a0 a0_rows a0_takes a1 a1_rows a1_takes v0 v1) sz) (va_Qv (fun (u : BX2) => u = res) (BC D (fun u : BX2 => WS_X2_copyFrom cI cJ cZ cY a0 a0_rows a0_takes a1 a1_rows a1_takes v0 u) (va_A (WS_X2_copyFrom cI cJ cZ cY a0 a0_rows a0_takes a1 a1_rows a1_takes v0 v1) sz)) (va_A (WS_X2_copyFrom cI cJ cZ cY a0 a0_rows a0_takes a1 a1_rows a1_takes v0 v1) sz)) 0 0 (va_A (WS_X2_copyFrom cI cJ cZ cY a0 a0_rows a0_takes a1 a1_rows a1_takes v0 v1) sz) := by
  refine Met.ofW (cc := cX2_copyFrom) (maxL := 2) (ret := none) (by decide) rfl ?_
  intro p e s m args below meth c s₁ B hml hv
  obtain ⟨hargs, hsz, hP, hK, hD0, hT⟩ := hv
  have hx := B.exec
  have hb := B.bytes
  have hr := B.returns
  have htb : ∀ w ∈ TB, w.before args s = true := fun w h => atoms_spec (ws := Cond.code yX2_copyFrom cX2_copyFrom 2 none :: TB) B.pre w (List.mem_cons_of_mem _ h)
  have hown : s.vm.findClass "ManyEyes$Flight" = some m.cls := findClass_of_methodNamed B.named
  have hlocks := B.notSynchronized
  subst hsz
  have hD := hD0.self (sz := s.heap.size)
  generalize hAe : va_A (WS_X2_copyFrom cI cJ cZ cY a0 a0_rows a0_takes a1 a1_rows a1_takes v0 v1) s.heap.size = A at hD hT ⊢
  have hA : ∀ q : Nat, s.heap.size ≤ q → A q := fun q h => by rw [← hAe]; exact Or.inr h
  have hS : va_S A s.heap s.heap [] := va_S.rf
  have hl := lv_entry ([.ref a1, .ref a0]) (n := 2) (Nat.le_of_ble_eq_true rfl)
  have he : entryFrame m args 2 = F0 m 0 (lg_sl ([.ref a1, .ref a0]) ++ List.replicate (2 - (lg_sl ([.ref a1, .ref a0])).length) Slot.unset).toArray [] := by rw [hargs, lg_entry_eq]
  rw [he]
  generalize (lg_sl ([.ref a1, .ref a0]) ++ List.replicate (2 - (lg_sl ([.ref a1, .ref a0])).length) Slot.unset).toArray = ls at hl ⊢
  have hl : lv_has ls 2 [(0, .ref a1), (1, .ref a0)] := hl
  show W p l e rm_X2_copyFrom s m args below meth c s.heap [] 0 0 _ _
  refine W.genQ (fun Q hQ => ?_)
  generalize hHe : s.heap = H at hP ⊢
  have hS : va_S A s.heap H [] := by rw [← hHe]; exact va_S.rf
  generalize ([] : List Loc) = locs at hS ⊢
  unfold f_X2_copyFrom at hg
  refine lv_aload_n hx hb dX2_copyFrom_0 rfl (lv_at hl 1 rfl) ?_
  refine va_get (ci := 1) (v := .ref a0_rows) (C := RX2) (T := TX2) (N := 12) hx hb htb uX2 hown hK.1 hP 0 rfl rfl 0 (by decide) (htb _ tg_171) (fun _ h9 => h9) rfl dX2_copyFrom_1 ?_
  refine lv_aload_n hx hb dX2_copyFrom_4 rfl (lv_at hl 0 rfl) ?_
  refine va_get (ci := 1) (v := .ref a1_rows) (C := RX2) (T := TX2) (N := 12) hx hb htb uX2 hown hK.1 hP 3 rfl rfl 0 (by decide) (htb _ tg_171) (fun _ h9 => h9) rfl dX2_copyFrom_5 ?_
  obtain ⟨r_1, hr_1, hg⟩ := g_bd hg
  refine cc_v (va_runSN (As := [.ref a0_rows, .ref a1_rows]) (rest := []) ⟨hx, hb, hml, hown, htb⟩ (k_X11_copyRow a0_rows a1_rows 300 300 (pX2_rows v0) (pX2_rows v1) r_1 hr_1) (cw_SN 2 htb tg_895 tg_1 (hK.2.1 _ nw_911) tg_894 rfl rfl (by decide +kernel) ⟨Nat.le_of_ble_eq_true rfl, Nat.le_of_ble_eq_true rfl⟩) ⟨PC.blind, PC.pre hK hT hP hD hS hA [1, 4] rfl (by decide)⟩ rfl rfl hl.1 rfl (lv_room (Nat.le_of_ble_eq_true rfl)) dX2_copyFrom_8 ⟨Nat.le_of_ble_eq_true rfl, Nat.le_of_ble_eq_true rfl⟩) hP hD hS hA [1, 4] [0, 2, 3, 5] rfl rfl (by decide) (by decide) (fun u9 H locs hw hP hD hS => ?_)
  have hw := hw.symm
  subst hw
  have hP : va_P D vwCl (WS_X2_copyFrom cI cJ cZ cY a0 a0_rows a0_takes a1 a1_rows a1_takes v0 (sX2_rows v1 r_1)) H := hP.sub [0, 4, 1, 2, 5, 3] rfl
  have hD : va_D A (WS_X2_copyFrom cI cJ cZ cY a0 a0_rows a0_takes a1 a1_rows a1_takes v0 (sX2_rows v1 r_1)) := hD.sub [0, 4, 1, 2, 5, 3] (by decide) rfl
  refine lv_aload_n hx hb dX2_copyFrom_11 rfl (lv_at hl 1 rfl) ?_
  refine va_get (ci := 1) (v := .ref a0_takes) (C := RX2) (T := TX2) (N := 12) hx hb htb uX2 hown hK.1 hP 0 rfl rfl 1 (by decide) (htb _ tg_172) (fun _ h9 => h9) rfl dX2_copyFrom_12 ?_
  refine lv_aload_n hx hb dX2_copyFrom_15 rfl (lv_at hl 0 rfl) ?_
  refine va_get (ci := 1) (v := .ref a1_takes) (C := RX2) (T := TX2) (N := 12) hx hb htb uX2 hown hK.1 hP 3 rfl rfl 1 (by decide) (htb _ tg_172) (fun _ h9 => h9) rfl dX2_copyFrom_16 ?_
  obtain ⟨r_2, hr_2, hg⟩ := g_bd hg
  refine cc_v (va_runSN (As := [.ref a0_takes, .ref a1_takes]) (rest := []) ⟨hx, hb, hml, hown, htb⟩ (k_X11_copyRow a0_takes a1_takes 960 960 (pX2_takes v0) (pX2_takes (sX2_rows v1 r_1)) r_2 hr_2) (cw_SN 2 htb tg_895 tg_1 (hK.2.1 _ nw_911) tg_894 rfl rfl (by decide +kernel) ⟨Nat.le_of_ble_eq_true rfl, Nat.le_of_ble_eq_true rfl⟩) ⟨PC.blind, PC.pre hK hT hP hD hS hA [2, 5] rfl (by decide)⟩ rfl rfl hl.1 rfl (lv_room (Nat.le_of_ble_eq_true rfl)) dX2_copyFrom_19 ⟨Nat.le_of_ble_eq_true rfl, Nat.le_of_ble_eq_true rfl⟩) hP hD hS hA [2, 5] [0, 1, 3, 4] rfl rfl (by decide) (by decide) (fun u9 H locs hw hP hD hS => ?_)
  have hw := hw.symm
  subst hw
  have hP : va_P D vwCl (WS_X2_copyFrom cI cJ cZ cY a0 a0_rows a0_takes a1 a1_rows a1_takes v0 (sX2_takes (sX2_rows v1 r_1) r_2)) H := hP.sub [0, 1, 4, 2, 3, 5] rfl
  have hD : va_D A (WS_X2_copyFrom cI cJ cZ cY a0 a0_rows a0_takes a1 a1_rows a1_takes v0 (sX2_takes (sX2_rows v1 r_1) r_2)) := hD.sub [0, 1, 4, 2, 3, 5] (by decide) rfl
  refine lv_aload_n hx hb dX2_copyFrom_22 rfl (lv_at hl 0 rfl) ?_
  refine lv_aload_n hx hb dX2_copyFrom_23 rfl (lv_at hl 1 rfl) ?_
  refine va_get (ci := 1) (v := .int (pX2_begun v0)) (C := RX2) (T := TX2) (N := 12) hx hb htb uX2 hown hK.1 hP 0 rfl rfl 2 (by decide) (htb _ tg_175) (fun _ h9 => h9) rfl dX2_copyFrom_24 ?_
  refine lv_topi (fun x_3 ex_3 => ?_)
  have hg := g_lte hg x_3 ex_3
  obtain ⟨h_4, hg⟩ := g_gde hg
  refine va_put (ci := 1) (v := .int x_3) (ty := .boolean) (C := RX2) (T := TX2) (N := 12) hx hb htb uX2 tyX2 tyX2_ok nmX2 hown hK.1 hP hD hS 3 rfl rfl 2 (by decide) (htb _ tg_175) (fun _ h9 => h9) rfl (by decide +kernel) (bool_nar h_4) (bool_fit h_4) (Nat.le_of_ble_eq_true rfl) dX2_copyFrom_27 (fun H locs hP hD hS => ?_)
  obtain ⟨v1_5, ev1_5⟩ : ∃ z, z = sX2_begun (sX2_takes (sX2_rows v1 r_1) r_2) x_3 := ⟨_, rfl⟩
  have hP : va_P D vwCl (WS_X2_copyFrom cI cJ cZ cY a0 a0_rows a0_takes a1 a1_rows a1_takes v0 v1_5) H := by rw [ev1_5]; exact hP
  have hD : va_D A (WS_X2_copyFrom cI cJ cZ cY a0 a0_rows a0_takes a1 a1_rows a1_takes v0 v1_5) := by rw [ev1_5]; exact hD
  have hg := g_lte hg v1_5 ev1_5
  refine lv_aload_n hx hb dX2_copyFrom_30 rfl (lv_at hl 0 rfl) ?_
  refine lv_aload_n hx hb dX2_copyFrom_31 rfl (lv_at hl 1 rfl) ?_
  refine va_get (ci := 1) (v := .int (pX2_hit v0)) (C := RX2) (T := TX2) (N := 12) hx hb htb uX2 hown hK.1 hP 0 rfl rfl 3 (by decide) (htb _ tg_178) (fun _ h9 => h9) rfl dX2_copyFrom_32 ?_
  refine lv_topi (fun x_6 ex_6 => ?_)
  have hg := g_lte hg x_6 ex_6
  obtain ⟨h_7, hg⟩ := g_gde hg
  refine va_put (ci := 1) (v := .int x_6) (ty := .boolean) (C := RX2) (T := TX2) (N := 12) hx hb htb uX2 tyX2 tyX2_ok nmX2 hown hK.1 hP hD hS 3 rfl rfl 3 (by decide) (htb _ tg_178) (fun _ h9 => h9) rfl (by decide +kernel) (bool_nar h_7) (bool_fit h_7) (Nat.le_of_ble_eq_true rfl) dX2_copyFrom_35 (fun H locs hP hD hS => ?_)
  obtain ⟨v1_8, ev1_8⟩ : ∃ z, z = sX2_hit v1_5 x_6 := ⟨_, rfl⟩
  have hP : va_P D vwCl (WS_X2_copyFrom cI cJ cZ cY a0 a0_rows a0_takes a1 a1_rows a1_takes v0 v1_8) H := by rw [ev1_8]; exact hP
  have hD : va_D A (WS_X2_copyFrom cI cJ cZ cY a0 a0_rows a0_takes a1 a1_rows a1_takes v0 v1_8) := by rw [ev1_8]; exact hD
  have hg := g_lte hg v1_8 ev1_8
  refine lv_aload_n hx hb dX2_copyFrom_38 rfl (lv_at hl 0 rfl) ?_
  refine lv_aload_n hx hb dX2_copyFrom_39 rfl (lv_at hl 1 rfl) ?_
  refine va_get (ci := 1) (v := .int (pX2_rested v0)) (C := RX2) (T := TX2) (N := 12) hx hb htb uX2 hown hK.1 hP 0 rfl rfl 4 (by decide) (htb _ tg_181) (fun _ h9 => h9) rfl dX2_copyFrom_40 ?_
  refine lv_topi (fun x_9 ex_9 => ?_)
  have hg := g_lte hg x_9 ex_9
  obtain ⟨h_10, hg⟩ := g_gde hg
  refine va_put (ci := 1) (v := .int x_9) (ty := .boolean) (C := RX2) (T := TX2) (N := 12) hx hb htb uX2 tyX2 tyX2_ok nmX2 hown hK.1 hP hD hS 3 rfl rfl 4 (by decide) (htb _ tg_181) (fun _ h9 => h9) rfl (by decide +kernel) (bool_nar h_10) (bool_fit h_10) (Nat.le_of_ble_eq_true rfl) dX2_copyFrom_43 (fun H locs hP hD hS => ?_)
  obtain ⟨v1_11, ev1_11⟩ : ∃ z, z = sX2_rested v1_8 x_9 := ⟨_, rfl⟩
  have hP : va_P D vwCl (WS_X2_copyFrom cI cJ cZ cY a0 a0_rows a0_takes a1 a1_rows a1_takes v0 v1_11) H := by rw [ev1_11]; exact hP
  have hD : va_D A (WS_X2_copyFrom cI cJ cZ cY a0 a0_rows a0_takes a1 a1_rows a1_takes v0 v1_11) := by rw [ev1_11]; exact hD
  have hg := g_lte hg v1_11 ev1_11
  refine lv_aload_n hx hb dX2_copyFrom_46 rfl (lv_at hl 0 rfl) ?_
  refine lv_aload_n hx hb dX2_copyFrom_47 rfl (lv_at hl 1 rfl) ?_
  refine va_get (ci := 1) (v := .int (pX2_count v0)) (C := RX2) (T := TX2) (N := 12) hx hb htb uX2 hown hK.1 hP 0 rfl rfl 5 (by decide) (htb _ tg_183) (fun _ h9 => h9) rfl dX2_copyFrom_48 ?_
  refine lv_topi (fun x_12 ex_12 => ?_)
  have hg := g_lte hg x_12 ex_12
  refine va_put (ci := 1) (v := .int x_12) (ty := .int) (C := RX2) (T := TX2) (N := 12) hx hb htb uX2 tyX2 tyX2_ok nmX2 hown hK.1 hP hD hS 3 rfl rfl 5 (by decide) (htb _ tg_183) (fun _ h9 => h9) rfl (by decide +kernel) rfl rfl (Nat.le_of_ble_eq_true rfl) dX2_copyFrom_51 (fun H locs hP hD hS => ?_)
  obtain ⟨v1_13, ev1_13⟩ : ∃ z, z = sX2_count v1_11 x_12 := ⟨_, rfl⟩
  have hP : va_P D vwCl (WS_X2_copyFrom cI cJ cZ cY a0 a0_rows a0_takes a1 a1_rows a1_takes v0 v1_13) H := by rw [ev1_13]; exact hP
  have hD : va_D A (WS_X2_copyFrom cI cJ cZ cY a0 a0_rows a0_takes a1 a1_rows a1_takes v0 v1_13) := by rw [ev1_13]; exact hD
  have hg := g_lte hg v1_13 ev1_13
  refine lv_aload_n hx hb dX2_copyFrom_54 rfl (lv_at hl 0 rfl) ?_
  refine lv_aload_n hx hb dX2_copyFrom_55 rfl (lv_at hl 1 rfl) ?_
  refine va_get (ci := 1) (v := .int (pX2_over v0)) (C := RX2) (T := TX2) (N := 12) hx hb htb uX2 hown hK.1 hP 0 rfl rfl 6 (by decide) (htb _ tg_188) (fun _ h9 => h9) rfl dX2_copyFrom_56 ?_
  refine lv_topi (fun x_14 ex_14 => ?_)
  have hg := g_lte hg x_14 ex_14
  refine va_put (ci := 1) (v := .int x_14) (ty := .int) (C := RX2) (T := TX2) (N := 12) hx hb htb uX2 tyX2 tyX2_ok nmX2 hown hK.1 hP hD hS 3 rfl rfl 6 (by decide) (htb _ tg_188) (fun _ h9 => h9) rfl (by decide +kernel) rfl rfl (Nat.le_of_ble_eq_true rfl) dX2_copyFrom_59 (fun H locs hP hD hS => ?_)
  obtain ⟨v1_15, ev1_15⟩ : ∃ z, z = sX2_over v1_13 x_14 := ⟨_, rfl⟩
  have hP : va_P D vwCl (WS_X2_copyFrom cI cJ cZ cY a0 a0_rows a0_takes a1 a1_rows a1_takes v0 v1_15) H := by rw [ev1_15]; exact hP
  have hD : va_D A (WS_X2_copyFrom cI cJ cZ cY a0 a0_rows a0_takes a1 a1_rows a1_takes v0 v1_15) := by rw [ev1_15]; exact hD
  have hg := g_lte hg v1_15 ev1_15
  refine lv_aload_n hx hb dX2_copyFrom_62 rfl (lv_at hl 0 rfl) ?_
  refine lv_aload_n hx hb dX2_copyFrom_63 rfl (lv_at hl 1 rfl) ?_
  refine va_get (ci := 1) (v := .int (pX2_x v0)) (C := RX2) (T := TX2) (N := 12) hx hb htb uX2 hown hK.1 hP 0 rfl rfl 7 (by decide) (htb _ tg_190) (fun _ h9 => h9) rfl dX2_copyFrom_64 ?_
  refine lv_topi (fun x_16 ex_16 => ?_)
  have hg := g_lte hg x_16 ex_16
  refine va_put (ci := 1) (v := .int x_16) (ty := .int) (C := RX2) (T := TX2) (N := 12) hx hb htb uX2 tyX2 tyX2_ok nmX2 hown hK.1 hP hD hS 3 rfl rfl 7 (by decide) (htb _ tg_190) (fun _ h9 => h9) rfl (by decide +kernel) rfl rfl (Nat.le_of_ble_eq_true rfl) dX2_copyFrom_67 (fun H locs hP hD hS => ?_)
  obtain ⟨v1_17, ev1_17⟩ : ∃ z, z = sX2_x v1_15 x_16 := ⟨_, rfl⟩
  have hP : va_P D vwCl (WS_X2_copyFrom cI cJ cZ cY a0 a0_rows a0_takes a1 a1_rows a1_takes v0 v1_17) H := by rw [ev1_17]; exact hP
  have hD : va_D A (WS_X2_copyFrom cI cJ cZ cY a0 a0_rows a0_takes a1 a1_rows a1_takes v0 v1_17) := by rw [ev1_17]; exact hD
  have hg := g_lte hg v1_17 ev1_17
  refine lv_aload_n hx hb dX2_copyFrom_70 rfl (lv_at hl 0 rfl) ?_
  refine lv_aload_n hx hb dX2_copyFrom_71 rfl (lv_at hl 1 rfl) ?_
  refine va_get (ci := 1) (v := .int (pX2_y v0)) (C := RX2) (T := TX2) (N := 12) hx hb htb uX2 hown hK.1 hP 0 rfl rfl 8 (by decide) (htb _ tg_193) (fun _ h9 => h9) rfl dX2_copyFrom_72 ?_
  refine lv_topi (fun x_18 ex_18 => ?_)
  have hg := g_lte hg x_18 ex_18
  refine va_put (ci := 1) (v := .int x_18) (ty := .int) (C := RX2) (T := TX2) (N := 12) hx hb htb uX2 tyX2 tyX2_ok nmX2 hown hK.1 hP hD hS 3 rfl rfl 8 (by decide) (htb _ tg_193) (fun _ h9 => h9) rfl (by decide +kernel) rfl rfl (Nat.le_of_ble_eq_true rfl) dX2_copyFrom_75 (fun H locs hP hD hS => ?_)
  obtain ⟨v1_19, ev1_19⟩ : ∃ z, z = sX2_y v1_17 x_18 := ⟨_, rfl⟩
  have hP : va_P D vwCl (WS_X2_copyFrom cI cJ cZ cY a0 a0_rows a0_takes a1 a1_rows a1_takes v0 v1_19) H := by rw [ev1_19]; exact hP
  have hD : va_D A (WS_X2_copyFrom cI cJ cZ cY a0 a0_rows a0_takes a1 a1_rows a1_takes v0 v1_19) := by rw [ev1_19]; exact hD
  have hg := g_lte hg v1_19 ev1_19
  refine lv_aload_n hx hb dX2_copyFrom_78 rfl (lv_at hl 0 rfl) ?_
  refine lv_aload_n hx hb dX2_copyFrom_79 rfl (lv_at hl 1 rfl) ?_
  refine va_get (ci := 1) (v := .int (pX2_head v0)) (C := RX2) (T := TX2) (N := 12) hx hb htb uX2 hown hK.1 hP 0 rfl rfl 9 (by decide) (htb _ tg_196) (fun _ h9 => h9) rfl dX2_copyFrom_80 ?_
  refine lv_topi (fun x_20 ex_20 => ?_)
  have hg := g_lte hg x_20 ex_20
  refine va_put (ci := 1) (v := .int x_20) (ty := .int) (C := RX2) (T := TX2) (N := 12) hx hb htb uX2 tyX2 tyX2_ok nmX2 hown hK.1 hP hD hS 3 rfl rfl 9 (by decide) (htb _ tg_196) (fun _ h9 => h9) rfl (by decide +kernel) rfl rfl (Nat.le_of_ble_eq_true rfl) dX2_copyFrom_83 (fun H locs hP hD hS => ?_)
  obtain ⟨v1_21, ev1_21⟩ : ∃ z, z = sX2_head v1_19 x_20 := ⟨_, rfl⟩
  have hP : va_P D vwCl (WS_X2_copyFrom cI cJ cZ cY a0 a0_rows a0_takes a1 a1_rows a1_takes v0 v1_21) H := by rw [ev1_21]; exact hP
  have hD : va_D A (WS_X2_copyFrom cI cJ cZ cY a0 a0_rows a0_takes a1 a1_rows a1_takes v0 v1_21) := by rw [ev1_21]; exact hD
  have hg := g_lte hg v1_21 ev1_21
  refine lv_aload_n hx hb dX2_copyFrom_86 rfl (lv_at hl 0 rfl) ?_
  refine lv_aload_n hx hb dX2_copyFrom_87 rfl (lv_at hl 1 rfl) ?_
  refine va_get (ci := 1) (v := .int (pX2_lenses v0)) (C := RX2) (T := TX2) (N := 12) hx hb htb uX2 hown hK.1 hP 0 rfl rfl 10 (by decide) (htb _ tg_200) (fun _ h9 => h9) rfl dX2_copyFrom_88 ?_
  refine lv_topi (fun x_22 ex_22 => ?_)
  have hg := g_lte hg x_22 ex_22
  refine va_put (ci := 1) (v := .int x_22) (ty := .int) (C := RX2) (T := TX2) (N := 12) hx hb htb uX2 tyX2 tyX2_ok nmX2 hown hK.1 hP hD hS 3 rfl rfl 10 (by decide) (htb _ tg_200) (fun _ h9 => h9) rfl (by decide +kernel) rfl rfl (Nat.le_of_ble_eq_true rfl) dX2_copyFrom_91 (fun H locs hP hD hS => ?_)
  obtain ⟨v1_23, ev1_23⟩ : ∃ z, z = sX2_lenses v1_21 x_22 := ⟨_, rfl⟩
  have hP : va_P D vwCl (WS_X2_copyFrom cI cJ cZ cY a0 a0_rows a0_takes a1 a1_rows a1_takes v0 v1_23) H := by rw [ev1_23]; exact hP
  have hD : va_D A (WS_X2_copyFrom cI cJ cZ cY a0 a0_rows a0_takes a1 a1_rows a1_takes v0 v1_23) := by rw [ev1_23]; exact hD
  have hg := g_lte hg v1_23 ev1_23
  refine lv_aload_n hx hb dX2_copyFrom_94 rfl (lv_at hl 0 rfl) ?_
  refine lv_aload_n hx hb dX2_copyFrom_95 rfl (lv_at hl 1 rfl) ?_
  refine va_get (ci := 1) (v := .int (pX2_pairs v0)) (C := RX2) (T := TX2) (N := 12) hx hb htb uX2 hown hK.1 hP 0 rfl rfl 11 (by decide) (htb _ tg_203) (fun _ h9 => h9) rfl dX2_copyFrom_96 ?_
  refine lv_topi (fun x_24 ex_24 => ?_)
  have hg := g_lte hg x_24 ex_24
  refine va_put (ci := 1) (v := .int x_24) (ty := .int) (C := RX2) (T := TX2) (N := 12) hx hb htb uX2 tyX2 tyX2_ok nmX2 hown hK.1 hP hD hS 3 rfl rfl 11 (by decide) (htb _ tg_203) (fun _ h9 => h9) rfl (by decide +kernel) rfl rfl (Nat.le_of_ble_eq_true rfl) dX2_copyFrom_99 (fun H locs hP hD hS => ?_)
  obtain ⟨v1_25, ev1_25⟩ : ∃ z, z = sX2_pairs v1_23 x_24 := ⟨_, rfl⟩
  have hP : va_P D vwCl (WS_X2_copyFrom cI cJ cZ cY a0 a0_rows a0_takes a1 a1_rows a1_takes v0 v1_25) H := by rw [ev1_25]; exact hP
  have hD : va_D A (WS_X2_copyFrom cI cJ cZ cY a0 a0_rows a0_takes a1 a1_rows a1_takes v0 v1_25) := by rw [ev1_25]; exact hD
  have hg := g_lte hg v1_25 ev1_25
  have hg := Option.some.inj hg
  rw [hQ]
  exact W.vret hx hb hr (fun t ht hW => ⟨⟨(v1_25), rfl, hg, by rw [ht]; exact hP, hD⟩, hS.F ht⟩) hS.2.2 dX2_copyFrom_102

/-! ManyEyes$Parser.number(II)Z -/
def WS_X4_number (cI cJ cZ cY : ClassId) (a0 a0_code a1 a1_kinds a1_starts a1_values : Nat) (v0 : BX4) (v1 : BX9) : va_W := (GX4 cI cJ cZ cY a0 a0_code a1 v0) ++ ((GX9 cI cJ cZ cY a1 a1_kinds a1_starts a1_values v1))
def f_X4_number (v0 : BX4) (v1 : BX9) (p0 : Int32) (p1 : Int32) : Option (Int32 × BX4 × BX9) := if ((pX9_kind v1) : Int32) = (-3) then (if ((pX9_value v1) : Int32) ≤ p1 then ((f_X4_emit v0 p0 (pX9_value v1)).bind (fun r_3 => (f_X9_advance v1).bind (fun r_4 => some (1, r_3, r_4)))) else ((f_X4_refuse v0 v1 2).bind (fun r_5 => g_gd (r_5.1 = 0 ∨ r_5.1 = 1) (some (r_5.1, r_5.2, v1))))) else ((f_X4_refuse v0 v1 1).bind (fun r_7 => g_gd (r_7.1 = 0 ∨ r_7.1 = 1) (some (r_7.1, r_7.2, v1))))
abbrev rm_X4_number : Room := { frames := 1, cells := 0, slots := 0, locals := 22 }
set_option maxHeartbeats 4000000 in
set_option maxRecDepth 100000 in
theorem k_X4_number {l : Launch} {D : va_G} {cI cJ cZ cY : ClassId} {tX tY : Nat} {sz : Nat} (a0 a0_code a1 a1_kinds a1_starts a1_values : Nat) (v0 : BX4) (v1 : BX9) (p0 : Int32) (p1 : Int32) (res : Int32 × BX4 × BX9) (hg : f_X4_number v0 v1 p0 p1 = some res) : Met l yX4_number (Cond.code yX4_number cX4_number 3 (some .boolean) :: TB) rm_X4_number (PC D cI cJ cZ cY tX tY [.ref a0, .int p0, .int p1] (WS_X4_number cI cJ cZ cY a0 a0_code a1 a1_kinds a1_starts a1_values v0 v1) sz) (va_Qi (fun (r : Int32) (u : BX4 × BX9) => r = res.1 ∧ u = res.2) (BC D (fun u : BX4 × BX9 => WS_X4_number cI cJ cZ cY a0 a0_code a1 a1_kinds a1_starts a1_values u.1 u.2) (va_A (WS_X4_number cI cJ cZ cY a0 a0_code a1 a1_kinds a1_starts a1_values v0 v1) sz)) (va_A (WS_X4_number cI cJ cZ cY a0 a0_code a1 a1_kinds a1_starts a1_values v0 v1) sz)) 0 0 (va_A (WS_X4_number cI cJ cZ cY a0 a0_code a1 a1_kinds a1_starts a1_values v0 v1) sz) := by
  refine Met.ofW (cc := cX4_number) (maxL := 3) (ret := (some .boolean)) (by decide) rfl ?_
  intro p e s m args below meth c s₁ B hml hv
  obtain ⟨hargs, hsz, hP, hK, hD0, hT⟩ := hv
  have hx := B.exec
  have hb := B.bytes
  have hr := B.returns
  have htb : ∀ w ∈ TB, w.before args s = true := fun w h => atoms_spec (ws := Cond.code yX4_number cX4_number 3 (some .boolean) :: TB) B.pre w (List.mem_cons_of_mem _ h)
  have hown : s.vm.findClass "ManyEyes$Parser" = some m.cls := findClass_of_methodNamed B.named
  have hlocks := B.notSynchronized
  subst hsz
  have hD := hD0.self (sz := s.heap.size)
  generalize hAe : va_A (WS_X4_number cI cJ cZ cY a0 a0_code a1 a1_kinds a1_starts a1_values v0 v1) s.heap.size = A at hD hT ⊢
  have hA : ∀ q : Nat, s.heap.size ≤ q → A q := fun q h => by rw [← hAe]; exact Or.inr h
  have hS : va_S A s.heap s.heap [] := va_S.rf
  have hl := lv_entry ([.ref a0, .int p0, .int p1]) (n := 3) (Nat.le_of_ble_eq_true rfl)
  have he : entryFrame m args 3 = F0 m 0 (lg_sl ([.ref a0, .int p0, .int p1]) ++ List.replicate (3 - (lg_sl ([.ref a0, .int p0, .int p1])).length) Slot.unset).toArray [] := by rw [hargs, lg_entry_eq]
  rw [he]
  generalize (lg_sl ([.ref a0, .int p0, .int p1]) ++ List.replicate (3 - (lg_sl ([.ref a0, .int p0, .int p1])).length) Slot.unset).toArray = ls at hl ⊢
  have hl : lv_has ls 3 [(0, .ref a0), (1, .int p0), (2, .int p1)] := hl
  show W p l e rm_X4_number s m args below meth c s.heap [] 0 0 _ _
  refine W.genQ (fun Q hQ => ?_)
  generalize hHe : s.heap = H at hP ⊢
  have hS : va_S A s.heap H [] := by rw [← hHe]; exact va_S.rf
  generalize ([] : List Loc) = locs at hS ⊢
  unfold f_X4_number at hg
  refine lv_aload_n hx hb dX4_number_0 rfl (lv_at hl 0 rfl) ?_
  refine va_get (ci := 3) (v := .ref a1) (C := RX4) (T := TX4) (N := 8) hx hb htb uX4 hown hK.1 hP 0 rfl rfl 0 (by decide) (htb _ tg_385) (fun _ h9 => h9) rfl dX4_number_1 ?_
  refine va_get (ci := 8) (v := .int (pX9_kind v1)) (C := RX9) (T := TX9) (N := 8) hx hb htb uX9 hown hK.1 hP 2 rfl rfl 5 (by decide) (htb _ tg_362) (fun _ h9 => h9) rfl dX4_number_4 ?_
  refine lv_bipush (v := (-3)) hx hb dX4_number_7 (by decide) ?_
  refine lv_icmp_eq (tgt := 18) hx hb dX4_number_9 (by decide) (fun c_1 => ?_) (fun c_1 => ?_)
  · have hg := g_it hg c_1
    refine lv_aload_n hx hb dX4_number_18 rfl (lv_at hl 0 rfl) ?_
    refine va_get (ci := 3) (v := .ref a1) (C := RX4) (T := TX4) (N := 8) hx hb htb uX4 hown hK.1 hP 0 rfl rfl 0 (by decide) (htb _ tg_385) (fun _ h9 => h9) rfl dX4_number_19 ?_
    refine va_get (ci := 8) (v := .int (pX9_value v1)) (C := RX9) (T := TX9) (N := 8) hx hb htb uX9 hown hK.1 hP 2 rfl rfl 7 (by decide) (htb _ tg_367) (fun _ h9 => h9) rfl dX4_number_22 ?_
    refine lv_iload_n hx hb dX4_number_25 rfl (lv_at hl 2 rfl) ?_
    refine lv_icmp_le (tgt := 35) hx hb dX4_number_26 (by decide) (fun c_2 => ?_) (fun c_2 => ?_)
    · have hg := g_it hg c_2
      refine lv_aload_n hx hb dX4_number_35 rfl (lv_at hl 0 rfl) ?_
      refine lv_iload_n hx hb dX4_number_36 rfl (lv_at hl 1 rfl) ?_
      refine lv_aload_n hx hb dX4_number_37 rfl (lv_at hl 0 rfl) ?_
      refine va_get (ci := 3) (v := .ref a1) (C := RX4) (T := TX4) (N := 8) hx hb htb uX4 hown hK.1 hP 0 rfl rfl 0 (by decide) (htb _ tg_385) (fun _ h9 => h9) rfl dX4_number_38 ?_
      refine va_get (ci := 8) (v := .int (pX9_value v1)) (C := RX9) (T := TX9) (N := 8) hx hb htb uX9 hown hK.1 hP 2 rfl rfl 7 (by decide) (htb _ tg_367) (fun _ h9 => h9) rfl dX4_number_41 ?_
      obtain ⟨r_3, hr_3, hg⟩ := g_bd hg
      refine cc_v (va_runV (C := RX4) (As := [.int p0, .int (pX9_value v1)]) (rest := []) ⟨hx, hb, hml, hown, htb⟩ (k_X4_emit a0 a0_code a1 v0 p0 (pX9_value v1) r_3 hr_3) (cw_V 2 htb tg_665 tg_11 tg_662 tg_664 ts_12 rfl rfl (by decide +kernel) ⟨Nat.le_of_ble_eq_true rfl, Nat.le_of_ble_eq_true rfl⟩) ⟨PC.blind, va_recv hK.1 hP (ci := 3) (q0 := 0) rfl rfl, PC.pre hK hT hP hD hS hA [0, 1] rfl (by decide)⟩ rfl rfl hl.1 rfl (lv_room (Nat.le_of_ble_eq_true rfl)) dX4_number_44 ⟨Nat.le_of_ble_eq_true rfl, Nat.le_of_ble_eq_true rfl⟩) hP hD hS hA [0, 1] [2, 3, 4, 5] rfl rfl (by decide) (by decide) (fun u9 H locs hw hP hD hS => ?_)
      have hw := hw.symm
      subst hw
      have hP : va_P D vwCl (WS_X4_number cI cJ cZ cY a0 a0_code a1 a1_kinds a1_starts a1_values r_3 v1) H := hP.sub [4, 5, 0, 1, 2, 3] rfl
      have hD : va_D A (WS_X4_number cI cJ cZ cY a0 a0_code a1 a1_kinds a1_starts a1_values r_3 v1) := hD.sub [4, 5, 0, 1, 2, 3] (by decide) rfl
      refine lv_aload_n hx hb dX4_number_47 rfl (lv_at hl 0 rfl) ?_
      refine va_get (ci := 3) (v := .ref a1) (C := RX4) (T := TX4) (N := 8) hx hb htb uX4 hown hK.1 hP 0 rfl rfl 0 (by decide) (htb _ tg_385) (fun _ h9 => h9) rfl dX4_number_48 ?_
      obtain ⟨r_4, hr_4, hg⟩ := g_bd hg
      refine cc_v (va_runV (C := RX9) (As := []) (rest := []) ⟨hx, hb, hml, hown, htb⟩ (k_X9_advance a1 a1_kinds a1_starts a1_values v1 r_4 hr_4) (cw_V 0 htb tg_633 tg_12 tg_645 tg_631 tg_632 rfl rfl (by decide +kernel) ⟨Nat.le_of_ble_eq_true rfl, Nat.le_of_ble_eq_true rfl⟩) ⟨PC.blind, va_recv hK.1 hP (ci := 8) (q0 := 2) rfl rfl, PC.pre hK hT hP hD hS hA [2, 3, 4, 5] rfl (by decide)⟩ rfl rfl hl.1 rfl (lv_room (Nat.le_of_ble_eq_true rfl)) dX4_number_51 ⟨Nat.le_of_ble_eq_true rfl, Nat.le_of_ble_eq_true rfl⟩) hP hD hS hA [2, 3, 4, 5] [0, 1] rfl rfl (by decide) (by decide) (fun u9 H locs hw hP hD hS => ?_)
      have hw := hw.symm
      subst hw
      have hP : va_P D vwCl (WS_X4_number cI cJ cZ cY a0 a0_code a1 a1_kinds a1_starts a1_values r_3 r_4) H := hP.sub [0, 1, 2, 3, 4, 5] rfl
      have hD : va_D A (WS_X4_number cI cJ cZ cY a0 a0_code a1 a1_kinds a1_starts a1_values r_3 r_4) := hD.sub [0, 1, 2, 3, 4, 5] (by decide) rfl
      refine lv_iconst (v := 1) hx hb dX4_number_54 (by decide) ?_
      have hg := Option.some.inj hg
      rw [hQ]
      exact W.zret (v := 1) (ty := .boolean) hx hb hr rfl (fun t ht hW => ⟨⟨1, (r_3, r_4), rfl, ⟨by rw [← hg], by rw [← hg]⟩, by rw [ht]; exact hP, hD⟩, hS.F ht⟩) hS.2.2 dX4_number_55
    · have hg := g_if hg c_2
      refine lv_aload_n hx hb dX4_number_29 rfl (lv_at hl 0 rfl) ?_
      refine lv_iconst (v := 2) hx hb dX4_number_30 (by decide) ?_
      obtain ⟨r_5, hr_5, hg⟩ := g_bd hg
      refine cc_i (va_runV (C := RX4) (As := [.int 2]) (rest := []) ⟨hx, hb, hml, hown, htb⟩ (k_X4_refuse a0 a0_code a1 a1_kinds a1_starts a1_values v0 v1 2 r_5 hr_5) (cw_V 1 htb tg_644 tg_11 tg_641 tg_643 ts_7 rfl rfl (by decide +kernel) ⟨Nat.le_of_ble_eq_true rfl, Nat.le_of_ble_eq_true rfl⟩) ⟨PC.blind, va_recv hK.1 hP (ci := 3) (q0 := 0) rfl rfl, PC.pre hK hT hP hD hS hA [0, 1, 2, 3, 4, 5] rfl (by decide)⟩ rfl rfl hl.1 rfl (lv_room (Nat.le_of_ble_eq_true rfl)) dX4_number_31 ⟨Nat.le_of_ble_eq_true rfl, Nat.le_of_ble_eq_true rfl⟩) hP hD hS hA [0, 1, 2, 3, 4, 5] [] rfl rfl (by decide) (by decide) (fun r9 u9 H locs hw hP hD hS => ?_)
      obtain ⟨rfl, rfl⟩ := hw
      have hP : va_P D vwCl (WS_X4_number cI cJ cZ cY a0 a0_code a1 a1_kinds a1_starts a1_values r_5.2 v1) H := hP.sub [0, 1, 2, 3, 4, 5] rfl
      have hD : va_D A (WS_X4_number cI cJ cZ cY a0 a0_code a1 a1_kinds a1_starts a1_values r_5.2 v1) := hD.sub [0, 1, 2, 3, 4, 5] (by decide) rfl
      obtain ⟨h_6, hg⟩ := g_gde hg
      have hg := Option.some.inj hg
      rw [hQ]
      exact W.zret (v := r_5.1) (ty := .boolean) hx hb hr (bool_nar h_6) (fun t ht hW => ⟨⟨r_5.1, (r_5.2, v1), rfl, ⟨by rw [← hg], by rw [← hg]⟩, by rw [ht]; exact hP, hD⟩, hS.F ht⟩) hS.2.2 dX4_number_34
  · have hg := g_if hg c_1
    refine lv_aload_n hx hb dX4_number_12 rfl (lv_at hl 0 rfl) ?_
    refine lv_iconst (v := 1) hx hb dX4_number_13 (by decide) ?_
    obtain ⟨r_7, hr_7, hg⟩ := g_bd hg
    refine cc_i (va_runV (C := RX4) (As := [.int 1]) (rest := []) ⟨hx, hb, hml, hown, htb⟩ (k_X4_refuse a0 a0_code a1 a1_kinds a1_starts a1_values v0 v1 1 r_7 hr_7) (cw_V 1 htb tg_644 tg_11 tg_641 tg_643 ts_7 rfl rfl (by decide +kernel) ⟨Nat.le_of_ble_eq_true rfl, Nat.le_of_ble_eq_true rfl⟩) ⟨PC.blind, va_recv hK.1 hP (ci := 3) (q0 := 0) rfl rfl, PC.pre hK hT hP hD hS hA [0, 1, 2, 3, 4, 5] rfl (by decide)⟩ rfl rfl hl.1 rfl (lv_room (Nat.le_of_ble_eq_true rfl)) dX4_number_14 ⟨Nat.le_of_ble_eq_true rfl, Nat.le_of_ble_eq_true rfl⟩) hP hD hS hA [0, 1, 2, 3, 4, 5] [] rfl rfl (by decide) (by decide) (fun r9 u9 H locs hw hP hD hS => ?_)
    obtain ⟨rfl, rfl⟩ := hw
    have hP : va_P D vwCl (WS_X4_number cI cJ cZ cY a0 a0_code a1 a1_kinds a1_starts a1_values r_7.2 v1) H := hP.sub [0, 1, 2, 3, 4, 5] rfl
    have hD : va_D A (WS_X4_number cI cJ cZ cY a0 a0_code a1 a1_kinds a1_starts a1_values r_7.2 v1) := hD.sub [0, 1, 2, 3, 4, 5] (by decide) rfl
    obtain ⟨h_8, hg⟩ := g_gde hg
    have hg := Option.some.inj hg
    rw [hQ]
    exact W.zret (v := r_7.1) (ty := .boolean) hx hb hr (bool_nar h_8) (fun t ht hW => ⟨⟨r_7.1, (r_7.2, v1), rfl, ⟨by rw [← hg], by rw [← hg]⟩, by rw [ht]; exact hP, hD⟩, hS.F ht⟩) hS.2.2 dX4_number_17

/-! ManyEyes$Parser.toldLetter()Z -/
def WS_X4_toldLetter (cI cJ cZ cY : ClassId) (a0 a0_code a1 a1_kinds a1_starts a1_values : Nat) (v0 : BX4) (v1 : BX9) : va_W := (GX4 cI cJ cZ cY a0 a0_code a1 v0) ++ ((GX9 cI cJ cZ cY a1 a1_kinds a1_starts a1_values v1))
def f_X4_toldLetter (v0 : BX4) (v1 : BX9) : Option (Int32 × BX4 × BX9) := g_lt (((pX9_value v1) - 65) : Int32) (fun x1_1 => if ((((pX4_told v0) >>> (x1_1 &&& 31)) &&& 1) : Int32) = 0 then ((f_X4_refuse v0 v1 5).bind (fun r_5 => g_gd (r_5.1 = 0 ∨ r_5.1 = 1) (some (r_5.1, r_5.2, v1)))) else ((f_X4_emit v0 1 x1_1).bind (fun r_3 => (f_X9_advance v1).bind (fun r_4 => some (1, r_3, r_4)))))
abbrev rm_X4_toldLetter : Room := { frames := 1, cells := 0, slots := 0, locals := 22 }
set_option maxHeartbeats 4000000 in
set_option maxRecDepth 100000 in
theorem k_X4_toldLetter {l : Launch} {D : va_G} {cI cJ cZ cY : ClassId} {tX tY : Nat} {sz : Nat} (a0 a0_code a1 a1_kinds a1_starts a1_values : Nat) (v0 : BX4) (v1 : BX9) (res : Int32 × BX4 × BX9) (hg : f_X4_toldLetter v0 v1 = some res) : Met l yX4_toldLetter (Cond.code yX4_toldLetter cX4_toldLetter 2 (some .boolean) :: TB) rm_X4_toldLetter (PC D cI cJ cZ cY tX tY [.ref a0] (WS_X4_toldLetter cI cJ cZ cY a0 a0_code a1 a1_kinds a1_starts a1_values v0 v1) sz) (va_Qi (fun (r : Int32) (u : BX4 × BX9) => r = res.1 ∧ u = res.2) (BC D (fun u : BX4 × BX9 => WS_X4_toldLetter cI cJ cZ cY a0 a0_code a1 a1_kinds a1_starts a1_values u.1 u.2) (va_A (WS_X4_toldLetter cI cJ cZ cY a0 a0_code a1 a1_kinds a1_starts a1_values v0 v1) sz)) (va_A (WS_X4_toldLetter cI cJ cZ cY a0 a0_code a1 a1_kinds a1_starts a1_values v0 v1) sz)) 0 0 (va_A (WS_X4_toldLetter cI cJ cZ cY a0 a0_code a1 a1_kinds a1_starts a1_values v0 v1) sz) := by
  refine Met.ofW (cc := cX4_toldLetter) (maxL := 2) (ret := (some .boolean)) (by decide) rfl ?_
  intro p e s m args below meth c s₁ B hml hv
  obtain ⟨hargs, hsz, hP, hK, hD0, hT⟩ := hv
  have hx := B.exec
  have hb := B.bytes
  have hr := B.returns
  have htb : ∀ w ∈ TB, w.before args s = true := fun w h => atoms_spec (ws := Cond.code yX4_toldLetter cX4_toldLetter 2 (some .boolean) :: TB) B.pre w (List.mem_cons_of_mem _ h)
  have hown : s.vm.findClass "ManyEyes$Parser" = some m.cls := findClass_of_methodNamed B.named
  have hlocks := B.notSynchronized
  subst hsz
  have hD := hD0.self (sz := s.heap.size)
  generalize hAe : va_A (WS_X4_toldLetter cI cJ cZ cY a0 a0_code a1 a1_kinds a1_starts a1_values v0 v1) s.heap.size = A at hD hT ⊢
  have hA : ∀ q : Nat, s.heap.size ≤ q → A q := fun q h => by rw [← hAe]; exact Or.inr h
  have hS : va_S A s.heap s.heap [] := va_S.rf
  have hl := lv_entry ([.ref a0]) (n := 2) (Nat.le_of_ble_eq_true rfl)
  have he : entryFrame m args 2 = F0 m 0 (lg_sl ([.ref a0]) ++ List.replicate (2 - (lg_sl ([.ref a0])).length) Slot.unset).toArray [] := by rw [hargs, lg_entry_eq]
  rw [he]
  generalize (lg_sl ([.ref a0]) ++ List.replicate (2 - (lg_sl ([.ref a0])).length) Slot.unset).toArray = ls at hl ⊢
  have hl : lv_has ls 2 [(0, .ref a0)] := hl
  show W p l e rm_X4_toldLetter s m args below meth c s.heap [] 0 0 _ _
  refine W.genQ (fun Q hQ => ?_)
  generalize hHe : s.heap = H at hP ⊢
  have hS : va_S A s.heap H [] := by rw [← hHe]; exact va_S.rf
  generalize ([] : List Loc) = locs at hS ⊢
  unfold f_X4_toldLetter at hg
  refine lv_aload_n hx hb dX4_toldLetter_0 rfl (lv_at hl 0 rfl) ?_
  refine va_get (ci := 3) (v := .ref a1) (C := RX4) (T := TX4) (N := 8) hx hb htb uX4 hown hK.1 hP 0 rfl rfl 0 (by decide) (htb _ tg_385) (fun _ h9 => h9) rfl dX4_toldLetter_1 ?_
  refine va_get (ci := 8) (v := .int (pX9_value v1)) (C := RX9) (T := TX9) (N := 8) hx hb htb uX9 hown hK.1 hP 2 rfl rfl 7 (by decide) (htb _ tg_367) (fun _ h9 => h9) rfl dX4_toldLetter_4 ?_
  refine lv_bipush (v := 65) hx hb dX4_toldLetter_7 (by decide) ?_
  refine lv_isub hx hb dX4_toldLetter_9 ?_
  refine lv_topi (fun x1_1 ex1_1 => ?_)
  have hg := g_lte hg x1_1 ex1_1
  refine lv_istore_n (lv' := [(1, .int x1_1), (0, .ref a0)]) hx hb dX4_toldLetter_10 rfl hl (by decide) rfl (fun ls hl => ?_)
  refine lv_aload_n hx hb dX4_toldLetter_11 rfl (lv_at hl 1 rfl) ?_
  refine va_get (ci := 3) (v := .int (pX4_told v0)) (C := RX4) (T := TX4) (N := 8) hx hb htb uX4 hown hK.1 hP 0 rfl rfl 4 (by decide) (htb _ tg_389) (fun _ h9 => h9) rfl dX4_toldLetter_12 ?_
  refine lv_iload_n hx hb dX4_toldLetter_15 rfl (lv_at hl 0 rfl) ?_
  refine lv_ishr hx hb dX4_toldLetter_16 ?_
  refine lv_iconst (v := 1) hx hb dX4_toldLetter_17 (by decide) ?_
  refine lv_iand hx hb dX4_toldLetter_18 ?_
  refine lv_if_ne (tgt := 28) hx hb dX4_toldLetter_19 (by decide) (fun c_2 => ?_) (fun c_2 => ?_)
  · have hg := g_if hg c_2
    refine lv_aload_n hx hb dX4_toldLetter_28 rfl (lv_at hl 1 rfl) ?_
    refine lv_iconst (v := 1) hx hb dX4_toldLetter_29 (by decide) ?_
    refine lv_iload_n hx hb dX4_toldLetter_30 rfl (lv_at hl 0 rfl) ?_
    obtain ⟨r_3, hr_3, hg⟩ := g_bd hg
    refine cc_v (va_runV (C := RX4) (As := [.int 1, .int x1_1]) (rest := []) ⟨hx, hb, hml, hown, htb⟩ (k_X4_emit a0 a0_code a1 v0 1 x1_1 r_3 hr_3) (cw_V 2 htb tg_665 tg_11 tg_662 tg_664 ts_12 rfl rfl (by decide +kernel) ⟨Nat.le_of_ble_eq_true rfl, Nat.le_of_ble_eq_true rfl⟩) ⟨PC.blind, va_recv hK.1 hP (ci := 3) (q0 := 0) rfl rfl, PC.pre hK hT hP hD hS hA [0, 1] rfl (by decide)⟩ rfl rfl hl.1 rfl (lv_room (Nat.le_of_ble_eq_true rfl)) dX4_toldLetter_31 ⟨Nat.le_of_ble_eq_true rfl, Nat.le_of_ble_eq_true rfl⟩) hP hD hS hA [0, 1] [2, 3, 4, 5] rfl rfl (by decide) (by decide) (fun u9 H locs hw hP hD hS => ?_)
    have hw := hw.symm
    subst hw
    have hP : va_P D vwCl (WS_X4_toldLetter cI cJ cZ cY a0 a0_code a1 a1_kinds a1_starts a1_values r_3 v1) H := hP.sub [4, 5, 0, 1, 2, 3] rfl
    have hD : va_D A (WS_X4_toldLetter cI cJ cZ cY a0 a0_code a1 a1_kinds a1_starts a1_values r_3 v1) := hD.sub [4, 5, 0, 1, 2, 3] (by decide) rfl
    refine lv_aload_n hx hb dX4_toldLetter_34 rfl (lv_at hl 1 rfl) ?_
    refine va_get (ci := 3) (v := .ref a1) (C := RX4) (T := TX4) (N := 8) hx hb htb uX4 hown hK.1 hP 0 rfl rfl 0 (by decide) (htb _ tg_385) (fun _ h9 => h9) rfl dX4_toldLetter_35 ?_
    obtain ⟨r_4, hr_4, hg⟩ := g_bd hg
    refine cc_v (va_runV (C := RX9) (As := []) (rest := []) ⟨hx, hb, hml, hown, htb⟩ (k_X9_advance a1 a1_kinds a1_starts a1_values v1 r_4 hr_4) (cw_V 0 htb tg_633 tg_12 tg_645 tg_631 tg_632 rfl rfl (by decide +kernel) ⟨Nat.le_of_ble_eq_true rfl, Nat.le_of_ble_eq_true rfl⟩) ⟨PC.blind, va_recv hK.1 hP (ci := 8) (q0 := 2) rfl rfl, PC.pre hK hT hP hD hS hA [2, 3, 4, 5] rfl (by decide)⟩ rfl rfl hl.1 rfl (lv_room (Nat.le_of_ble_eq_true rfl)) dX4_toldLetter_38 ⟨Nat.le_of_ble_eq_true rfl, Nat.le_of_ble_eq_true rfl⟩) hP hD hS hA [2, 3, 4, 5] [0, 1] rfl rfl (by decide) (by decide) (fun u9 H locs hw hP hD hS => ?_)
    have hw := hw.symm
    subst hw
    have hP : va_P D vwCl (WS_X4_toldLetter cI cJ cZ cY a0 a0_code a1 a1_kinds a1_starts a1_values r_3 r_4) H := hP.sub [0, 1, 2, 3, 4, 5] rfl
    have hD : va_D A (WS_X4_toldLetter cI cJ cZ cY a0 a0_code a1 a1_kinds a1_starts a1_values r_3 r_4) := hD.sub [0, 1, 2, 3, 4, 5] (by decide) rfl
    refine lv_iconst (v := 1) hx hb dX4_toldLetter_41 (by decide) ?_
    have hg := Option.some.inj hg
    rw [hQ]
    exact W.zret (v := 1) (ty := .boolean) hx hb hr rfl (fun t ht hW => ⟨⟨1, (r_3, r_4), rfl, ⟨by rw [← hg], by rw [← hg]⟩, by rw [ht]; exact hP, hD⟩, hS.F ht⟩) hS.2.2 dX4_toldLetter_42
  · have hg := g_it hg c_2
    refine lv_aload_n hx hb dX4_toldLetter_22 rfl (lv_at hl 1 rfl) ?_
    refine lv_iconst (v := 5) hx hb dX4_toldLetter_23 (by decide) ?_
    obtain ⟨r_5, hr_5, hg⟩ := g_bd hg
    refine cc_i (va_runV (C := RX4) (As := [.int 5]) (rest := []) ⟨hx, hb, hml, hown, htb⟩ (k_X4_refuse a0 a0_code a1 a1_kinds a1_starts a1_values v0 v1 5 r_5 hr_5) (cw_V 1 htb tg_644 tg_11 tg_641 tg_643 ts_7 rfl rfl (by decide +kernel) ⟨Nat.le_of_ble_eq_true rfl, Nat.le_of_ble_eq_true rfl⟩) ⟨PC.blind, va_recv hK.1 hP (ci := 3) (q0 := 0) rfl rfl, PC.pre hK hT hP hD hS hA [0, 1, 2, 3, 4, 5] rfl (by decide)⟩ rfl rfl hl.1 rfl (lv_room (Nat.le_of_ble_eq_true rfl)) dX4_toldLetter_24 ⟨Nat.le_of_ble_eq_true rfl, Nat.le_of_ble_eq_true rfl⟩) hP hD hS hA [0, 1, 2, 3, 4, 5] [] rfl rfl (by decide) (by decide) (fun r9 u9 H locs hw hP hD hS => ?_)
    obtain ⟨rfl, rfl⟩ := hw
    have hP : va_P D vwCl (WS_X4_toldLetter cI cJ cZ cY a0 a0_code a1 a1_kinds a1_starts a1_values r_5.2 v1) H := hP.sub [0, 1, 2, 3, 4, 5] rfl
    have hD : va_D A (WS_X4_toldLetter cI cJ cZ cY a0 a0_code a1 a1_kinds a1_starts a1_values r_5.2 v1) := hD.sub [0, 1, 2, 3, 4, 5] (by decide) rfl
    obtain ⟨h_6, hg⟩ := g_gde hg
    have hg := Option.some.inj hg
    rw [hQ]
    exact W.zret (v := r_5.1) (ty := .boolean) hx hb hr (bool_nar h_6) (fun t ht hW => ⟨⟨r_5.1, (r_5.2, v1), rfl, ⟨by rw [← hg], by rw [← hg]⟩, by rw [ht]; exact hP, hD⟩, hS.F ht⟩) hS.2.2 dX4_toldLetter_27

/-! ManyEyes$Parser.enter()Z -/
def WS_X4_enter (cI cJ cZ cY : ClassId) (a0 a0_code a1 a1_kinds a1_starts a1_values : Nat) (v0 : BX4) (v1 : BX9) : va_W := (GX4 cI cJ cZ cY a0 a0_code a1 v0) ++ ((GX9 cI cJ cZ cY a1 a1_kinds a1_starts a1_values v1))
def f_X4_enter (v0 : BX4) (v1 : BX9) : Option (Int32 × BX4 × BX9) := if ((pX4_open v0) : Int32) < 8 then (g_lt (((pX4_open v0) + 1) : Int32) (fun x_2 => g_lt (sX4_open v0 x_2) (fun v0_3 => (f_X9_advance v1).bind (fun r_4 => some (1, v0_3, r_4))))) else ((f_X4_refuse v0 v1 3).bind (fun r_5 => g_gd (r_5.1 = 0 ∨ r_5.1 = 1) (some (r_5.1, r_5.2, v1))))
abbrev rm_X4_enter : Room := { frames := 1, cells := 0, slots := 0, locals := 21 }
set_option maxHeartbeats 4000000 in
set_option maxRecDepth 100000 in
theorem k_X4_enter {l : Launch} {D : va_G} {cI cJ cZ cY : ClassId} {tX tY : Nat} {sz : Nat} (a0 a0_code a1 a1_kinds a1_starts a1_values : Nat) (v0 : BX4) (v1 : BX9) (res : Int32 × BX4 × BX9) (hg : f_X4_enter v0 v1 = some res) : Met l yX4_enter (Cond.code yX4_enter cX4_enter 1 (some .boolean) :: TB) rm_X4_enter (PC D cI cJ cZ cY tX tY [.ref a0] (WS_X4_enter cI cJ cZ cY a0 a0_code a1 a1_kinds a1_starts a1_values v0 v1) sz) (va_Qi (fun (r : Int32) (u : BX4 × BX9) => r = res.1 ∧ u = res.2) (BC D (fun u : BX4 × BX9 => WS_X4_enter cI cJ cZ cY a0 a0_code a1 a1_kinds a1_starts a1_values u.1 u.2) (va_A (WS_X4_enter cI cJ cZ cY a0 a0_code a1 a1_kinds a1_starts a1_values v0 v1) sz)) (va_A (WS_X4_enter cI cJ cZ cY a0 a0_code a1 a1_kinds a1_starts a1_values v0 v1) sz)) 0 0 (va_A (WS_X4_enter cI cJ cZ cY a0 a0_code a1 a1_kinds a1_starts a1_values v0 v1) sz) := by
  refine Met.ofW (cc := cX4_enter) (maxL := 1) (ret := (some .boolean)) (by decide) rfl ?_
  intro p e s m args below meth c s₁ B hml hv
  obtain ⟨hargs, hsz, hP, hK, hD0, hT⟩ := hv
  have hx := B.exec
  have hb := B.bytes
  have hr := B.returns
  have htb : ∀ w ∈ TB, w.before args s = true := fun w h => atoms_spec (ws := Cond.code yX4_enter cX4_enter 1 (some .boolean) :: TB) B.pre w (List.mem_cons_of_mem _ h)
  have hown : s.vm.findClass "ManyEyes$Parser" = some m.cls := findClass_of_methodNamed B.named
  have hlocks := B.notSynchronized
  subst hsz
  have hD := hD0.self (sz := s.heap.size)
  generalize hAe : va_A (WS_X4_enter cI cJ cZ cY a0 a0_code a1 a1_kinds a1_starts a1_values v0 v1) s.heap.size = A at hD hT ⊢
  have hA : ∀ q : Nat, s.heap.size ≤ q → A q := fun q h => by rw [← hAe]; exact Or.inr h
  have hS : va_S A s.heap s.heap [] := va_S.rf
  have hl := lv_entry ([.ref a0]) (n := 1) (Nat.le_of_ble_eq_true rfl)
  have he : entryFrame m args 1 = F0 m 0 (lg_sl ([.ref a0]) ++ List.replicate (1 - (lg_sl ([.ref a0])).length) Slot.unset).toArray [] := by rw [hargs, lg_entry_eq]
  rw [he]
  generalize (lg_sl ([.ref a0]) ++ List.replicate (1 - (lg_sl ([.ref a0])).length) Slot.unset).toArray = ls at hl ⊢
  have hl : lv_has ls 1 [(0, .ref a0)] := hl
  show W p l e rm_X4_enter s m args below meth c s.heap [] 0 0 _ _
  refine W.genQ (fun Q hQ => ?_)
  generalize hHe : s.heap = H at hP ⊢
  have hS : va_S A s.heap H [] := by rw [← hHe]; exact va_S.rf
  generalize ([] : List Loc) = locs at hS ⊢
  unfold f_X4_enter at hg
  refine lv_aload_n hx hb dX4_enter_0 rfl (lv_at hl 0 rfl) ?_
  refine va_get (ci := 3) (v := .int (pX4_open v0)) (C := RX4) (T := TX4) (N := 8) hx hb htb uX4 hown hK.1 hP 0 rfl rfl 3 (by decide) (htb _ tg_388) (fun _ h9 => h9) rfl dX4_enter_1 ?_
  refine lv_bipush (v := 8) hx hb dX4_enter_4 (by decide) ?_
  refine lv_icmp_lt (tgt := 15) hx hb dX4_enter_6 (by decide) (fun c_1 => ?_) (fun c_1 => ?_)
  · have hg := g_it hg c_1
    refine lv_aload_n hx hb dX4_enter_15 rfl (lv_at hl 0 rfl) ?_
    refine lv_dup hx hb dX4_enter_16 rfl ?_
    refine va_get (ci := 3) (v := .int (pX4_open v0)) (C := RX4) (T := TX4) (N := 8) hx hb htb uX4 hown hK.1 hP 0 rfl rfl 3 (by decide) (htb _ tg_388) (fun _ h9 => h9) rfl dX4_enter_17 ?_
    refine lv_iconst (v := 1) hx hb dX4_enter_20 (by decide) ?_
    refine lv_iadd hx hb dX4_enter_21 ?_
    refine lv_topi (fun x_2 ex_2 => ?_)
    have hg := g_lte hg x_2 ex_2
    refine va_put (ci := 3) (v := .int x_2) (ty := .int) (C := RX4) (T := TX4) (N := 8) hx hb htb uX4 tyX4 tyX4_ok nmX4 hown hK.1 hP hD hS 0 rfl rfl 3 (by decide) (htb _ tg_388) (fun _ h9 => h9) rfl (by decide +kernel) rfl rfl (Nat.le_of_ble_eq_true rfl) dX4_enter_22 (fun H locs hP hD hS => ?_)
    obtain ⟨v0_3, ev0_3⟩ : ∃ z, z = sX4_open v0 x_2 := ⟨_, rfl⟩
    have hP : va_P D vwCl (WS_X4_enter cI cJ cZ cY a0 a0_code a1 a1_kinds a1_starts a1_values v0_3 v1) H := by rw [ev0_3]; exact hP
    have hD : va_D A (WS_X4_enter cI cJ cZ cY a0 a0_code a1 a1_kinds a1_starts a1_values v0_3 v1) := by rw [ev0_3]; exact hD
    have hg := g_lte hg v0_3 ev0_3
    refine lv_aload_n hx hb dX4_enter_25 rfl (lv_at hl 0 rfl) ?_
    refine va_get (ci := 3) (v := .ref a1) (C := RX4) (T := TX4) (N := 8) hx hb htb uX4 hown hK.1 hP 0 rfl rfl 0 (by decide) (htb _ tg_385) (fun _ h9 => h9) rfl dX4_enter_26 ?_
    obtain ⟨r_4, hr_4, hg⟩ := g_bd hg
    refine cc_v (va_runV (C := RX9) (As := []) (rest := []) ⟨hx, hb, hml, hown, htb⟩ (k_X9_advance a1 a1_kinds a1_starts a1_values v1 r_4 hr_4) (cw_V 0 htb tg_633 tg_12 tg_645 tg_631 tg_632 rfl rfl (by decide +kernel) ⟨Nat.le_of_ble_eq_true rfl, Nat.le_of_ble_eq_true rfl⟩) ⟨PC.blind, va_recv hK.1 hP (ci := 8) (q0 := 2) rfl rfl, PC.pre hK hT hP hD hS hA [2, 3, 4, 5] rfl (by decide)⟩ rfl rfl hl.1 rfl (lv_room (Nat.le_of_ble_eq_true rfl)) dX4_enter_29 ⟨Nat.le_of_ble_eq_true rfl, Nat.le_of_ble_eq_true rfl⟩) hP hD hS hA [2, 3, 4, 5] [0, 1] rfl rfl (by decide) (by decide) (fun u9 H locs hw hP hD hS => ?_)
    have hw := hw.symm
    subst hw
    have hP : va_P D vwCl (WS_X4_enter cI cJ cZ cY a0 a0_code a1 a1_kinds a1_starts a1_values v0_3 r_4) H := hP.sub [0, 1, 2, 3, 4, 5] rfl
    have hD : va_D A (WS_X4_enter cI cJ cZ cY a0 a0_code a1 a1_kinds a1_starts a1_values v0_3 r_4) := hD.sub [0, 1, 2, 3, 4, 5] (by decide) rfl
    refine lv_iconst (v := 1) hx hb dX4_enter_32 (by decide) ?_
    have hg := Option.some.inj hg
    rw [hQ]
    exact W.zret (v := 1) (ty := .boolean) hx hb hr rfl (fun t ht hW => ⟨⟨1, (v0_3, r_4), rfl, ⟨by rw [← hg], by rw [← hg]⟩, by rw [ht]; exact hP, hD⟩, hS.F ht⟩) hS.2.2 dX4_enter_33
  · have hg := g_if hg c_1
    refine lv_aload_n hx hb dX4_enter_9 rfl (lv_at hl 0 rfl) ?_
    refine lv_iconst (v := 3) hx hb dX4_enter_10 (by decide) ?_
    obtain ⟨r_5, hr_5, hg⟩ := g_bd hg
    refine cc_i (va_runV (C := RX4) (As := [.int 3]) (rest := []) ⟨hx, hb, hml, hown, htb⟩ (k_X4_refuse a0 a0_code a1 a1_kinds a1_starts a1_values v0 v1 3 r_5 hr_5) (cw_V 1 htb tg_644 tg_11 tg_641 tg_643 ts_7 rfl rfl (by decide +kernel) ⟨Nat.le_of_ble_eq_true rfl, Nat.le_of_ble_eq_true rfl⟩) ⟨PC.blind, va_recv hK.1 hP (ci := 3) (q0 := 0) rfl rfl, PC.pre hK hT hP hD hS hA [0, 1, 2, 3, 4, 5] rfl (by decide)⟩ rfl rfl hl.1 rfl (lv_room (Nat.le_of_ble_eq_true rfl)) dX4_enter_11 ⟨Nat.le_of_ble_eq_true rfl, Nat.le_of_ble_eq_true rfl⟩) hP hD hS hA [0, 1, 2, 3, 4, 5] [] rfl rfl (by decide) (by decide) (fun r9 u9 H locs hw hP hD hS => ?_)
    obtain ⟨rfl, rfl⟩ := hw
    have hP : va_P D vwCl (WS_X4_enter cI cJ cZ cY a0 a0_code a1 a1_kinds a1_starts a1_values r_5.2 v1) H := hP.sub [0, 1, 2, 3, 4, 5] rfl
    have hD : va_D A (WS_X4_enter cI cJ cZ cY a0 a0_code a1 a1_kinds a1_starts a1_values r_5.2 v1) := hD.sub [0, 1, 2, 3, 4, 5] (by decide) rfl
    obtain ⟨h_6, hg⟩ := g_gde hg
    have hg := Option.some.inj hg
    rw [hQ]
    exact W.zret (v := r_5.1) (ty := .boolean) hx hb hr (bool_nar h_6) (fun t ht hW => ⟨⟨r_5.1, (r_5.2, v1), rfl, ⟨by rw [← hg], by rw [← hg]⟩, by rw [ht]; exact hP, hD⟩, hS.F ht⟩) hS.2.2 dX4_enter_14

/-! ManyEyes$Parser.expect(I)Z -/
def WS_X4_expect (cI cJ cZ cY : ClassId) (a0 a0_code a1 a1_kinds a1_starts a1_values : Nat) (v0 : BX4) (v1 : BX9) : va_W := (GX4 cI cJ cZ cY a0 a0_code a1 v0) ++ ((GX9 cI cJ cZ cY a1 a1_kinds a1_starts a1_values v1))
def f_X4_expect (v0 : BX4) (v1 : BX9) (p0 : Int32) : Option (Int32 × BX4 × BX9) := if ((pX9_kind v1) : Int32) = p0 then ((f_X9_advance v1).bind (fun r_2 => some (1, v0, r_2))) else ((f_X4_refuse v0 v1 1).bind (fun r_3 => g_gd (r_3.1 = 0 ∨ r_3.1 = 1) (some (r_3.1, r_3.2, v1))))
abbrev rm_X4_expect : Room := { frames := 1, cells := 0, slots := 0, locals := 21 }
set_option maxHeartbeats 4000000 in
set_option maxRecDepth 100000 in
theorem k_X4_expect {l : Launch} {D : va_G} {cI cJ cZ cY : ClassId} {tX tY : Nat} {sz : Nat} (a0 a0_code a1 a1_kinds a1_starts a1_values : Nat) (v0 : BX4) (v1 : BX9) (p0 : Int32) (res : Int32 × BX4 × BX9) (hg : f_X4_expect v0 v1 p0 = some res) : Met l yX4_expect (Cond.code yX4_expect cX4_expect 2 (some .boolean) :: TB) rm_X4_expect (PC D cI cJ cZ cY tX tY [.ref a0, .int p0] (WS_X4_expect cI cJ cZ cY a0 a0_code a1 a1_kinds a1_starts a1_values v0 v1) sz) (va_Qi (fun (r : Int32) (u : BX4 × BX9) => r = res.1 ∧ u = res.2) (BC D (fun u : BX4 × BX9 => WS_X4_expect cI cJ cZ cY a0 a0_code a1 a1_kinds a1_starts a1_values u.1 u.2) (va_A (WS_X4_expect cI cJ cZ cY a0 a0_code a1 a1_kinds a1_starts a1_values v0 v1) sz)) (va_A (WS_X4_expect cI cJ cZ cY a0 a0_code a1 a1_kinds a1_starts a1_values v0 v1) sz)) 0 0 (va_A (WS_X4_expect cI cJ cZ cY a0 a0_code a1 a1_kinds a1_starts a1_values v0 v1) sz) := by
  refine Met.ofW (cc := cX4_expect) (maxL := 2) (ret := (some .boolean)) (by decide) rfl ?_
  intro p e s m args below meth c s₁ B hml hv
  obtain ⟨hargs, hsz, hP, hK, hD0, hT⟩ := hv
  have hx := B.exec
  have hb := B.bytes
  have hr := B.returns
  have htb : ∀ w ∈ TB, w.before args s = true := fun w h => atoms_spec (ws := Cond.code yX4_expect cX4_expect 2 (some .boolean) :: TB) B.pre w (List.mem_cons_of_mem _ h)
  have hown : s.vm.findClass "ManyEyes$Parser" = some m.cls := findClass_of_methodNamed B.named
  have hlocks := B.notSynchronized
  subst hsz
  have hD := hD0.self (sz := s.heap.size)
  generalize hAe : va_A (WS_X4_expect cI cJ cZ cY a0 a0_code a1 a1_kinds a1_starts a1_values v0 v1) s.heap.size = A at hD hT ⊢
  have hA : ∀ q : Nat, s.heap.size ≤ q → A q := fun q h => by rw [← hAe]; exact Or.inr h
  have hS : va_S A s.heap s.heap [] := va_S.rf
  have hl := lv_entry ([.ref a0, .int p0]) (n := 2) (Nat.le_of_ble_eq_true rfl)
  have he : entryFrame m args 2 = F0 m 0 (lg_sl ([.ref a0, .int p0]) ++ List.replicate (2 - (lg_sl ([.ref a0, .int p0])).length) Slot.unset).toArray [] := by rw [hargs, lg_entry_eq]
  rw [he]
  generalize (lg_sl ([.ref a0, .int p0]) ++ List.replicate (2 - (lg_sl ([.ref a0, .int p0])).length) Slot.unset).toArray = ls at hl ⊢
  have hl : lv_has ls 2 [(0, .ref a0), (1, .int p0)] := hl
  show W p l e rm_X4_expect s m args below meth c s.heap [] 0 0 _ _
  refine W.genQ (fun Q hQ => ?_)
  generalize hHe : s.heap = H at hP ⊢
  have hS : va_S A s.heap H [] := by rw [← hHe]; exact va_S.rf
  generalize ([] : List Loc) = locs at hS ⊢
  unfold f_X4_expect at hg
  refine lv_aload_n hx hb dX4_expect_0 rfl (lv_at hl 0 rfl) ?_
  refine va_get (ci := 3) (v := .ref a1) (C := RX4) (T := TX4) (N := 8) hx hb htb uX4 hown hK.1 hP 0 rfl rfl 0 (by decide) (htb _ tg_385) (fun _ h9 => h9) rfl dX4_expect_1 ?_
  refine va_get (ci := 8) (v := .int (pX9_kind v1)) (C := RX9) (T := TX9) (N := 8) hx hb htb uX9 hown hK.1 hP 2 rfl rfl 5 (by decide) (htb _ tg_362) (fun _ h9 => h9) rfl dX4_expect_4 ?_
  refine lv_iload_n hx hb dX4_expect_7 rfl (lv_at hl 1 rfl) ?_
  refine lv_icmp_eq (tgt := 17) hx hb dX4_expect_8 (by decide) (fun c_1 => ?_) (fun c_1 => ?_)
  · have hg := g_it hg c_1
    refine lv_aload_n hx hb dX4_expect_17 rfl (lv_at hl 0 rfl) ?_
    refine va_get (ci := 3) (v := .ref a1) (C := RX4) (T := TX4) (N := 8) hx hb htb uX4 hown hK.1 hP 0 rfl rfl 0 (by decide) (htb _ tg_385) (fun _ h9 => h9) rfl dX4_expect_18 ?_
    obtain ⟨r_2, hr_2, hg⟩ := g_bd hg
    refine cc_v (va_runV (C := RX9) (As := []) (rest := []) ⟨hx, hb, hml, hown, htb⟩ (k_X9_advance a1 a1_kinds a1_starts a1_values v1 r_2 hr_2) (cw_V 0 htb tg_633 tg_12 tg_645 tg_631 tg_632 rfl rfl (by decide +kernel) ⟨Nat.le_of_ble_eq_true rfl, Nat.le_of_ble_eq_true rfl⟩) ⟨PC.blind, va_recv hK.1 hP (ci := 8) (q0 := 2) rfl rfl, PC.pre hK hT hP hD hS hA [2, 3, 4, 5] rfl (by decide)⟩ rfl rfl hl.1 rfl (lv_room (Nat.le_of_ble_eq_true rfl)) dX4_expect_21 ⟨Nat.le_of_ble_eq_true rfl, Nat.le_of_ble_eq_true rfl⟩) hP hD hS hA [2, 3, 4, 5] [0, 1] rfl rfl (by decide) (by decide) (fun u9 H locs hw hP hD hS => ?_)
    have hw := hw.symm
    subst hw
    have hP : va_P D vwCl (WS_X4_expect cI cJ cZ cY a0 a0_code a1 a1_kinds a1_starts a1_values v0 r_2) H := hP.sub [0, 1, 2, 3, 4, 5] rfl
    have hD : va_D A (WS_X4_expect cI cJ cZ cY a0 a0_code a1 a1_kinds a1_starts a1_values v0 r_2) := hD.sub [0, 1, 2, 3, 4, 5] (by decide) rfl
    refine lv_iconst (v := 1) hx hb dX4_expect_24 (by decide) ?_
    have hg := Option.some.inj hg
    rw [hQ]
    exact W.zret (v := 1) (ty := .boolean) hx hb hr rfl (fun t ht hW => ⟨⟨1, (v0, r_2), rfl, ⟨by rw [← hg], by rw [← hg]⟩, by rw [ht]; exact hP, hD⟩, hS.F ht⟩) hS.2.2 dX4_expect_25
  · have hg := g_if hg c_1
    refine lv_aload_n hx hb dX4_expect_11 rfl (lv_at hl 0 rfl) ?_
    refine lv_iconst (v := 1) hx hb dX4_expect_12 (by decide) ?_
    obtain ⟨r_3, hr_3, hg⟩ := g_bd hg
    refine cc_i (va_runV (C := RX4) (As := [.int 1]) (rest := []) ⟨hx, hb, hml, hown, htb⟩ (k_X4_refuse a0 a0_code a1 a1_kinds a1_starts a1_values v0 v1 1 r_3 hr_3) (cw_V 1 htb tg_644 tg_11 tg_641 tg_643 ts_7 rfl rfl (by decide +kernel) ⟨Nat.le_of_ble_eq_true rfl, Nat.le_of_ble_eq_true rfl⟩) ⟨PC.blind, va_recv hK.1 hP (ci := 3) (q0 := 0) rfl rfl, PC.pre hK hT hP hD hS hA [0, 1, 2, 3, 4, 5] rfl (by decide)⟩ rfl rfl hl.1 rfl (lv_room (Nat.le_of_ble_eq_true rfl)) dX4_expect_13 ⟨Nat.le_of_ble_eq_true rfl, Nat.le_of_ble_eq_true rfl⟩) hP hD hS hA [0, 1, 2, 3, 4, 5] [] rfl rfl (by decide) (by decide) (fun r9 u9 H locs hw hP hD hS => ?_)
    obtain ⟨rfl, rfl⟩ := hw
    have hP : va_P D vwCl (WS_X4_expect cI cJ cZ cY a0 a0_code a1 a1_kinds a1_starts a1_values r_3.2 v1) H := hP.sub [0, 1, 2, 3, 4, 5] rfl
    have hD : va_D A (WS_X4_expect cI cJ cZ cY a0 a0_code a1 a1_kinds a1_starts a1_values r_3.2 v1) := hD.sub [0, 1, 2, 3, 4, 5] (by decide) rfl
    obtain ⟨h_4, hg⟩ := g_gde hg
    have hg := Option.some.inj hg
    rw [hQ]
    exact W.zret (v := r_3.1) (ty := .boolean) hx hb hr (bool_nar h_4) (fun t ht hW => ⟨⟨r_3.1, (r_3.2, v1), rfl, ⟨by rw [← hg], by rw [← hg]⟩, by rw [ht]; exact hP, hD⟩, hS.F ht⟩) hS.2.2 dX4_expect_16

/-! ManyEyes$Reads.copyFrom(LManyEyes$Reads;)V -/
def WS_X5_copyFrom (cI cJ cZ cY : ClassId) (a0 a0_x a0_y a0_head a0_size a0_turns a1 a1_x a1_y a1_head a1_size a1_turns : Nat) (v0 : BX5) (v1 : BX5) : va_W := (GX5 cI cJ cZ cY a0 a0_x a0_y a0_head a0_size a0_turns v0) ++ ((GX5 cI cJ cZ cY a1 a1_x a1_y a1_head a1_size a1_turns v1))
def f_X5_copyFrom (v0 : BX5) (v1 : BX5) : Option (BX5) := (f_X11_copyRow 6 6 (pX5_x v0) (pX5_x v1)).bind (fun r_1 => (f_X11_copyRow 6 6 (pX5_y v0) (pX5_y (sX5_x v1 r_1))).bind (fun r_2 => (f_X11_copyRow 6 6 (pX5_head v0) (pX5_head (sX5_y (sX5_x v1 r_1) r_2))).bind (fun r_3 => (f_X11_copyRow 6 6 (pX5_size v0) (pX5_size (sX5_head (sX5_y (sX5_x v1 r_1) r_2) r_3))).bind (fun r_4 => (f_X11_copyRow 120 120 (pX5_turns v0) (pX5_turns (sX5_size (sX5_head (sX5_y (sX5_x v1 r_1) r_2) r_3) r_4))).bind (fun r_5 => g_lt ((pX5_count v0) : Int32) (fun x_6 => g_lt (sX5_count (sX5_turns (sX5_size (sX5_head (sX5_y (sX5_x v1 r_1) r_2) r_3) r_4) r_5) x_6) (fun v1_7 => some (v1_7))))))))
abbrev rm_X5_copyFrom : Room := { frames := 2, cells := 0, slots := 0, locals := 85 }
set_option maxHeartbeats 4000000 in
set_option maxRecDepth 100000 in
theorem k_X5_copyFrom {l : Launch} {D : va_G} {cI cJ cZ cY : ClassId} {tX tY : Nat} {sz : Nat} (a0 a0_x a0_y a0_head a0_size a0_turns a1 a1_x a1_y a1_head a1_size a1_turns : Nat) (v0 : BX5) (v1 : BX5) (res : BX5) (hg : f_X5_copyFrom v0 v1 = some res) : Met l yX5_copyFrom (Cond.code yX5_copyFrom cX5_copyFrom 2 none :: TB) rm_X5_copyFrom (PC D cI cJ cZ cY tX tY [.ref a1, .ref a0] (WS_X5_copyFrom cI cJ cZ cY a0 a0_x a0_y a0_head a0_size a0_turns a1 a1_x a1_y a1_head a1_size a1_turns v0 v1) sz) (va_Qv (fun (u : BX5) => u = res) (BC D (fun u : BX5 => WS_X5_copyFrom cI cJ cZ cY a0 a0_x a0_y a0_head a0_size a0_turns a1 a1_x a1_y a1_head a1_size a1_turns v0 u) (va_A (WS_X5_copyFrom cI cJ cZ cY a0 a0_x a0_y a0_head a0_size a0_turns a1 a1_x a1_y a1_head a1_size a1_turns v0 v1) sz)) (va_A (WS_X5_copyFrom cI cJ cZ cY a0 a0_x a0_y a0_head a0_size a0_turns a1 a1_x a1_y a1_head a1_size a1_turns v0 v1) sz)) 0 0 (va_A (WS_X5_copyFrom cI cJ cZ cY a0 a0_x a0_y a0_head a0_size a0_turns a1 a1_x a1_y a1_head a1_size a1_turns v0 v1) sz) := by
  refine Met.ofW (cc := cX5_copyFrom) (maxL := 2) (ret := none) (by decide) rfl ?_
  intro p e s m args below meth c s₁ B hml hv
  obtain ⟨hargs, hsz, hP, hK, hD0, hT⟩ := hv
  have hx := B.exec
  have hb := B.bytes
  have hr := B.returns
  have htb : ∀ w ∈ TB, w.before args s = true := fun w h => atoms_spec (ws := Cond.code yX5_copyFrom cX5_copyFrom 2 none :: TB) B.pre w (List.mem_cons_of_mem _ h)
  have hown : s.vm.findClass "ManyEyes$Reads" = some m.cls := findClass_of_methodNamed B.named
  have hlocks := B.notSynchronized
  subst hsz
  have hD := hD0.self (sz := s.heap.size)
  generalize hAe : va_A (WS_X5_copyFrom cI cJ cZ cY a0 a0_x a0_y a0_head a0_size a0_turns a1 a1_x a1_y a1_head a1_size a1_turns v0 v1) s.heap.size = A at hD hT ⊢
  have hA : ∀ q : Nat, s.heap.size ≤ q → A q := fun q h => by rw [← hAe]; exact Or.inr h
  have hS : va_S A s.heap s.heap [] := va_S.rf
  have hl := lv_entry ([.ref a1, .ref a0]) (n := 2) (Nat.le_of_ble_eq_true rfl)
  have he : entryFrame m args 2 = F0 m 0 (lg_sl ([.ref a1, .ref a0]) ++ List.replicate (2 - (lg_sl ([.ref a1, .ref a0])).length) Slot.unset).toArray [] := by rw [hargs, lg_entry_eq]
  rw [he]
  generalize (lg_sl ([.ref a1, .ref a0]) ++ List.replicate (2 - (lg_sl ([.ref a1, .ref a0])).length) Slot.unset).toArray = ls at hl ⊢
  have hl : lv_has ls 2 [(0, .ref a1), (1, .ref a0)] := hl
  show W p l e rm_X5_copyFrom s m args below meth c s.heap [] 0 0 _ _
  refine W.genQ (fun Q hQ => ?_)
  generalize hHe : s.heap = H at hP ⊢
  have hS : va_S A s.heap H [] := by rw [← hHe]; exact va_S.rf
  generalize ([] : List Loc) = locs at hS ⊢
  unfold f_X5_copyFrom at hg
  refine lv_aload_n hx hb dX5_copyFrom_0 rfl (lv_at hl 1 rfl) ?_
  refine va_get (ci := 4) (v := .ref a0_x) (C := RX5) (T := TX5) (N := 6) hx hb htb uX5 hown hK.1 hP 0 rfl rfl 0 (by decide) (htb _ tg_134) (fun _ h9 => h9) rfl dX5_copyFrom_1 ?_
  refine lv_aload_n hx hb dX5_copyFrom_4 rfl (lv_at hl 0 rfl) ?_
  refine va_get (ci := 4) (v := .ref a1_x) (C := RX5) (T := TX5) (N := 6) hx hb htb uX5 hown hK.1 hP 6 rfl rfl 0 (by decide) (htb _ tg_134) (fun _ h9 => h9) rfl dX5_copyFrom_5 ?_
  obtain ⟨r_1, hr_1, hg⟩ := g_bd hg
  refine cc_v (va_runSN (As := [.ref a0_x, .ref a1_x]) (rest := []) ⟨hx, hb, hml, hown, htb⟩ (k_X11_copyRow a0_x a1_x 6 6 (pX5_x v0) (pX5_x v1) r_1 hr_1) (cw_SN 2 htb tg_895 tg_1 (hK.2.1 _ nw_906) tg_894 rfl rfl (by decide +kernel) ⟨Nat.le_of_ble_eq_true rfl, Nat.le_of_ble_eq_true rfl⟩) ⟨PC.blind, PC.pre hK hT hP hD hS hA [1, 7] rfl (by decide)⟩ rfl rfl hl.1 rfl (lv_room (Nat.le_of_ble_eq_true rfl)) dX5_copyFrom_8 ⟨Nat.le_of_ble_eq_true rfl, Nat.le_of_ble_eq_true rfl⟩) hP hD hS hA [1, 7] [0, 2, 3, 4, 5, 6, 8, 9, 10, 11] rfl rfl (by decide) (by decide) (fun u9 H locs hw hP hD hS => ?_)
  have hw := hw.symm
  subst hw
  have hP : va_P D vwCl (WS_X5_copyFrom cI cJ cZ cY a0 a0_x a0_y a0_head a0_size a0_turns a1 a1_x a1_y a1_head a1_size a1_turns v0 (sX5_x v1 r_1)) H := hP.sub [0, 10, 1, 2, 3, 4, 5, 11, 6, 7, 8, 9] rfl
  have hD : va_D A (WS_X5_copyFrom cI cJ cZ cY a0 a0_x a0_y a0_head a0_size a0_turns a1 a1_x a1_y a1_head a1_size a1_turns v0 (sX5_x v1 r_1)) := hD.sub [0, 10, 1, 2, 3, 4, 5, 11, 6, 7, 8, 9] (by decide) rfl
  refine lv_aload_n hx hb dX5_copyFrom_11 rfl (lv_at hl 1 rfl) ?_
  refine va_get (ci := 4) (v := .ref a0_y) (C := RX5) (T := TX5) (N := 6) hx hb htb uX5 hown hK.1 hP 0 rfl rfl 1 (by decide) (htb _ tg_137) (fun _ h9 => h9) rfl dX5_copyFrom_12 ?_
  refine lv_aload_n hx hb dX5_copyFrom_15 rfl (lv_at hl 0 rfl) ?_
  refine va_get (ci := 4) (v := .ref a1_y) (C := RX5) (T := TX5) (N := 6) hx hb htb uX5 hown hK.1 hP 6 rfl rfl 1 (by decide) (htb _ tg_137) (fun _ h9 => h9) rfl dX5_copyFrom_16 ?_
  obtain ⟨r_2, hr_2, hg⟩ := g_bd hg
  refine cc_v (va_runSN (As := [.ref a0_y, .ref a1_y]) (rest := []) ⟨hx, hb, hml, hown, htb⟩ (k_X11_copyRow a0_y a1_y 6 6 (pX5_y v0) (pX5_y (sX5_x v1 r_1)) r_2 hr_2) (cw_SN 2 htb tg_895 tg_1 (hK.2.1 _ nw_906) tg_894 rfl rfl (by decide +kernel) ⟨Nat.le_of_ble_eq_true rfl, Nat.le_of_ble_eq_true rfl⟩) ⟨PC.blind, PC.pre hK hT hP hD hS hA [2, 8] rfl (by decide)⟩ rfl rfl hl.1 rfl (lv_room (Nat.le_of_ble_eq_true rfl)) dX5_copyFrom_19 ⟨Nat.le_of_ble_eq_true rfl, Nat.le_of_ble_eq_true rfl⟩) hP hD hS hA [2, 8] [0, 1, 3, 4, 5, 6, 7, 9, 10, 11] rfl rfl (by decide) (by decide) (fun u9 H locs hw hP hD hS => ?_)
  have hw := hw.symm
  subst hw
  have hP : va_P D vwCl (WS_X5_copyFrom cI cJ cZ cY a0 a0_x a0_y a0_head a0_size a0_turns a1 a1_x a1_y a1_head a1_size a1_turns v0 (sX5_y (sX5_x v1 r_1) r_2)) H := hP.sub [0, 1, 10, 2, 3, 4, 5, 6, 11, 7, 8, 9] rfl
  have hD : va_D A (WS_X5_copyFrom cI cJ cZ cY a0 a0_x a0_y a0_head a0_size a0_turns a1 a1_x a1_y a1_head a1_size a1_turns v0 (sX5_y (sX5_x v1 r_1) r_2)) := hD.sub [0, 1, 10, 2, 3, 4, 5, 6, 11, 7, 8, 9] (by decide) rfl
  refine lv_aload_n hx hb dX5_copyFrom_22 rfl (lv_at hl 1 rfl) ?_
  refine va_get (ci := 4) (v := .ref a0_head) (C := RX5) (T := TX5) (N := 6) hx hb htb uX5 hown hK.1 hP 0 rfl rfl 2 (by decide) (htb _ tg_140) (fun _ h9 => h9) rfl dX5_copyFrom_23 ?_
  refine lv_aload_n hx hb dX5_copyFrom_26 rfl (lv_at hl 0 rfl) ?_
  refine va_get (ci := 4) (v := .ref a1_head) (C := RX5) (T := TX5) (N := 6) hx hb htb uX5 hown hK.1 hP 6 rfl rfl 2 (by decide) (htb _ tg_140) (fun _ h9 => h9) rfl dX5_copyFrom_27 ?_
  obtain ⟨r_3, hr_3, hg⟩ := g_bd hg
  refine cc_v (va_runSN (As := [.ref a0_head, .ref a1_head]) (rest := []) ⟨hx, hb, hml, hown, htb⟩ (k_X11_copyRow a0_head a1_head 6 6 (pX5_head v0) (pX5_head (sX5_y (sX5_x v1 r_1) r_2)) r_3 hr_3) (cw_SN 2 htb tg_895 tg_1 (hK.2.1 _ nw_906) tg_894 rfl rfl (by decide +kernel) ⟨Nat.le_of_ble_eq_true rfl, Nat.le_of_ble_eq_true rfl⟩) ⟨PC.blind, PC.pre hK hT hP hD hS hA [3, 9] rfl (by decide)⟩ rfl rfl hl.1 rfl (lv_room (Nat.le_of_ble_eq_true rfl)) dX5_copyFrom_30 ⟨Nat.le_of_ble_eq_true rfl, Nat.le_of_ble_eq_true rfl⟩) hP hD hS hA [3, 9] [0, 1, 2, 4, 5, 6, 7, 8, 10, 11] rfl rfl (by decide) (by decide) (fun u9 H locs hw hP hD hS => ?_)
  have hw := hw.symm
  subst hw
  have hP : va_P D vwCl (WS_X5_copyFrom cI cJ cZ cY a0 a0_x a0_y a0_head a0_size a0_turns a1 a1_x a1_y a1_head a1_size a1_turns v0 (sX5_head (sX5_y (sX5_x v1 r_1) r_2) r_3)) H := hP.sub [0, 1, 2, 10, 3, 4, 5, 6, 7, 11, 8, 9] rfl
  have hD : va_D A (WS_X5_copyFrom cI cJ cZ cY a0 a0_x a0_y a0_head a0_size a0_turns a1 a1_x a1_y a1_head a1_size a1_turns v0 (sX5_head (sX5_y (sX5_x v1 r_1) r_2) r_3)) := hD.sub [0, 1, 2, 10, 3, 4, 5, 6, 7, 11, 8, 9] (by decide) rfl
  refine lv_aload_n hx hb dX5_copyFrom_33 rfl (lv_at hl 1 rfl) ?_
  refine va_get (ci := 4) (v := .ref a0_size) (C := RX5) (T := TX5) (N := 6) hx hb htb uX5 hown hK.1 hP 0 rfl rfl 3 (by decide) (htb _ tg_143) (fun _ h9 => h9) rfl dX5_copyFrom_34 ?_
  refine lv_aload_n hx hb dX5_copyFrom_37 rfl (lv_at hl 0 rfl) ?_
  refine va_get (ci := 4) (v := .ref a1_size) (C := RX5) (T := TX5) (N := 6) hx hb htb uX5 hown hK.1 hP 6 rfl rfl 3 (by decide) (htb _ tg_143) (fun _ h9 => h9) rfl dX5_copyFrom_38 ?_
  obtain ⟨r_4, hr_4, hg⟩ := g_bd hg
  refine cc_v (va_runSN (As := [.ref a0_size, .ref a1_size]) (rest := []) ⟨hx, hb, hml, hown, htb⟩ (k_X11_copyRow a0_size a1_size 6 6 (pX5_size v0) (pX5_size (sX5_head (sX5_y (sX5_x v1 r_1) r_2) r_3)) r_4 hr_4) (cw_SN 2 htb tg_895 tg_1 (hK.2.1 _ nw_906) tg_894 rfl rfl (by decide +kernel) ⟨Nat.le_of_ble_eq_true rfl, Nat.le_of_ble_eq_true rfl⟩) ⟨PC.blind, PC.pre hK hT hP hD hS hA [4, 10] rfl (by decide)⟩ rfl rfl hl.1 rfl (lv_room (Nat.le_of_ble_eq_true rfl)) dX5_copyFrom_41 ⟨Nat.le_of_ble_eq_true rfl, Nat.le_of_ble_eq_true rfl⟩) hP hD hS hA [4, 10] [0, 1, 2, 3, 5, 6, 7, 8, 9, 11] rfl rfl (by decide) (by decide) (fun u9 H locs hw hP hD hS => ?_)
  have hw := hw.symm
  subst hw
  have hP : va_P D vwCl (WS_X5_copyFrom cI cJ cZ cY a0 a0_x a0_y a0_head a0_size a0_turns a1 a1_x a1_y a1_head a1_size a1_turns v0 (sX5_size (sX5_head (sX5_y (sX5_x v1 r_1) r_2) r_3) r_4)) H := hP.sub [0, 1, 2, 3, 10, 4, 5, 6, 7, 8, 11, 9] rfl
  have hD : va_D A (WS_X5_copyFrom cI cJ cZ cY a0 a0_x a0_y a0_head a0_size a0_turns a1 a1_x a1_y a1_head a1_size a1_turns v0 (sX5_size (sX5_head (sX5_y (sX5_x v1 r_1) r_2) r_3) r_4)) := hD.sub [0, 1, 2, 3, 10, 4, 5, 6, 7, 8, 11, 9] (by decide) rfl
  refine lv_aload_n hx hb dX5_copyFrom_44 rfl (lv_at hl 1 rfl) ?_
  refine va_get (ci := 4) (v := .ref a0_turns) (C := RX5) (T := TX5) (N := 6) hx hb htb uX5 hown hK.1 hP 0 rfl rfl 4 (by decide) (htb _ tg_146) (fun _ h9 => h9) rfl dX5_copyFrom_45 ?_
  refine lv_aload_n hx hb dX5_copyFrom_48 rfl (lv_at hl 0 rfl) ?_
  refine va_get (ci := 4) (v := .ref a1_turns) (C := RX5) (T := TX5) (N := 6) hx hb htb uX5 hown hK.1 hP 6 rfl rfl 4 (by decide) (htb _ tg_146) (fun _ h9 => h9) rfl dX5_copyFrom_49 ?_
  obtain ⟨r_5, hr_5, hg⟩ := g_bd hg
  refine cc_v (va_runSN (As := [.ref a0_turns, .ref a1_turns]) (rest := []) ⟨hx, hb, hml, hown, htb⟩ (k_X11_copyRow a0_turns a1_turns 120 120 (pX5_turns v0) (pX5_turns (sX5_size (sX5_head (sX5_y (sX5_x v1 r_1) r_2) r_3) r_4)) r_5 hr_5) (cw_SN 2 htb tg_895 tg_1 (hK.2.1 _ nw_906) tg_894 rfl rfl (by decide +kernel) ⟨Nat.le_of_ble_eq_true rfl, Nat.le_of_ble_eq_true rfl⟩) ⟨PC.blind, PC.pre hK hT hP hD hS hA [5, 11] rfl (by decide)⟩ rfl rfl hl.1 rfl (lv_room (Nat.le_of_ble_eq_true rfl)) dX5_copyFrom_52 ⟨Nat.le_of_ble_eq_true rfl, Nat.le_of_ble_eq_true rfl⟩) hP hD hS hA [5, 11] [0, 1, 2, 3, 4, 6, 7, 8, 9, 10] rfl rfl (by decide) (by decide) (fun u9 H locs hw hP hD hS => ?_)
  have hw := hw.symm
  subst hw
  have hP : va_P D vwCl (WS_X5_copyFrom cI cJ cZ cY a0 a0_x a0_y a0_head a0_size a0_turns a1 a1_x a1_y a1_head a1_size a1_turns v0 (sX5_turns (sX5_size (sX5_head (sX5_y (sX5_x v1 r_1) r_2) r_3) r_4) r_5)) H := hP.sub [0, 1, 2, 3, 4, 10, 5, 6, 7, 8, 9, 11] rfl
  have hD : va_D A (WS_X5_copyFrom cI cJ cZ cY a0 a0_x a0_y a0_head a0_size a0_turns a1 a1_x a1_y a1_head a1_size a1_turns v0 (sX5_turns (sX5_size (sX5_head (sX5_y (sX5_x v1 r_1) r_2) r_3) r_4) r_5)) := hD.sub [0, 1, 2, 3, 4, 10, 5, 6, 7, 8, 9, 11] (by decide) rfl
  refine lv_aload_n hx hb dX5_copyFrom_55 rfl (lv_at hl 0 rfl) ?_
  refine lv_aload_n hx hb dX5_copyFrom_56 rfl (lv_at hl 1 rfl) ?_
  refine va_get (ci := 4) (v := .int (pX5_count v0)) (C := RX5) (T := TX5) (N := 6) hx hb htb uX5 hown hK.1 hP 0 rfl rfl 5 (by decide) (htb _ tg_149) (fun _ h9 => h9) rfl dX5_copyFrom_57 ?_
  refine lv_topi (fun x_6 ex_6 => ?_)
  have hg := g_lte hg x_6 ex_6
  refine va_put (ci := 4) (v := .int x_6) (ty := .int) (C := RX5) (T := TX5) (N := 6) hx hb htb uX5 tyX5 tyX5_ok nmX5 hown hK.1 hP hD hS 6 rfl rfl 5 (by decide) (htb _ tg_149) (fun _ h9 => h9) rfl (by decide +kernel) rfl rfl (Nat.le_of_ble_eq_true rfl) dX5_copyFrom_60 (fun H locs hP hD hS => ?_)
  obtain ⟨v1_7, ev1_7⟩ : ∃ z, z = sX5_count (sX5_turns (sX5_size (sX5_head (sX5_y (sX5_x v1 r_1) r_2) r_3) r_4) r_5) x_6 := ⟨_, rfl⟩
  have hP : va_P D vwCl (WS_X5_copyFrom cI cJ cZ cY a0 a0_x a0_y a0_head a0_size a0_turns a1 a1_x a1_y a1_head a1_size a1_turns v0 v1_7) H := by rw [ev1_7]; exact hP
  have hD : va_D A (WS_X5_copyFrom cI cJ cZ cY a0 a0_x a0_y a0_head a0_size a0_turns a1 a1_x a1_y a1_head a1_size a1_turns v0 v1_7) := by rw [ev1_7]; exact hD
  have hg := g_lte hg v1_7 ev1_7
  have hg := Option.some.inj hg
  rw [hQ]
  exact W.vret hx hb hr (fun t ht hW => ⟨⟨(v1_7), rfl, hg, by rw [ht]; exact hP, hD⟩, hS.F ht⟩) hS.2.2 dX5_copyFrom_63

/-! ManyEyes$Runner.push(J)V -/
def WS_X6_push (cI cJ cZ cY : ClassId) (a0 a0_stack a0_letters r0_eye : Nat) (v0 : BX6) : va_W := (GX6 cI cJ cZ cY a0 a0_stack a0_letters r0_eye v0)
def f_X6_push (v0 : BX6) (p0 : Int64) : Option (BX6) := if (64 : Int32) ≤ (pX6_top v0) then (some (v0)) else ((f_X6_bounded v0 p0).bind (fun r_2 => g_gd (inB (pX6_top v0) 64) (g_lt (sX6_stack r_2.2 (upd (pX6_stack r_2.2) ((pX6_top v0) : Int32).toNatClampNeg r_2.1)) (fun v0_4 => g_lt (((pX6_top v0_4) + 1) : Int32) (fun x_5 => g_lt (sX6_top v0_4 x_5) (fun v0_6 => some (v0_6)))))))
abbrev rm_X6_push : Room := { frames := 1, cells := 0, slots := 0, locals := 22 }
set_option maxHeartbeats 4000000 in
set_option maxRecDepth 100000 in
theorem k_X6_push {l : Launch} {D : va_G} {cI cJ cZ cY : ClassId} {tX tY : Nat} {sz : Nat} (a0 a0_stack a0_letters r0_eye : Nat) (v0 : BX6) (p0 : Int64) (res : BX6) (hg : f_X6_push v0 p0 = some res) : Met l yX6_push (Cond.code yX6_push cX6_push 3 none :: TB) rm_X6_push (PC D cI cJ cZ cY tX tY [.ref a0, .long p0] (WS_X6_push cI cJ cZ cY a0 a0_stack a0_letters r0_eye v0) sz) (va_Qv (fun (u : BX6) => u = res) (BC D (fun u : BX6 => WS_X6_push cI cJ cZ cY a0 a0_stack a0_letters r0_eye u) (va_A (WS_X6_push cI cJ cZ cY a0 a0_stack a0_letters r0_eye v0) sz)) (va_A (WS_X6_push cI cJ cZ cY a0 a0_stack a0_letters r0_eye v0) sz)) 0 0 (va_A (WS_X6_push cI cJ cZ cY a0 a0_stack a0_letters r0_eye v0) sz) := by
  refine Met.ofW (cc := cX6_push) (maxL := 3) (ret := none) (by decide) rfl ?_
  intro p e s m args below meth c s₁ B hml hv
  obtain ⟨hargs, hsz, hP, hK, hD0, hT⟩ := hv
  have hx := B.exec
  have hb := B.bytes
  have hr := B.returns
  have htb : ∀ w ∈ TB, w.before args s = true := fun w h => atoms_spec (ws := Cond.code yX6_push cX6_push 3 none :: TB) B.pre w (List.mem_cons_of_mem _ h)
  have hown : s.vm.findClass "ManyEyes$Runner" = some m.cls := findClass_of_methodNamed B.named
  have hlocks := B.notSynchronized
  subst hsz
  have hD := hD0.self (sz := s.heap.size)
  generalize hAe : va_A (WS_X6_push cI cJ cZ cY a0 a0_stack a0_letters r0_eye v0) s.heap.size = A at hD hT ⊢
  have hA : ∀ q : Nat, s.heap.size ≤ q → A q := fun q h => by rw [← hAe]; exact Or.inr h
  have hS : va_S A s.heap s.heap [] := va_S.rf
  have hl := lv_entry ([.ref a0, .long p0]) (n := 3) (Nat.le_of_ble_eq_true rfl)
  have he : entryFrame m args 3 = F0 m 0 (lg_sl ([.ref a0, .long p0]) ++ List.replicate (3 - (lg_sl ([.ref a0, .long p0])).length) Slot.unset).toArray [] := by rw [hargs, lg_entry_eq]
  rw [he]
  generalize (lg_sl ([.ref a0, .long p0]) ++ List.replicate (3 - (lg_sl ([.ref a0, .long p0])).length) Slot.unset).toArray = ls at hl ⊢
  have hl : lv_has ls 3 [(0, .ref a0), (1, .long p0)] := hl
  show W p l e rm_X6_push s m args below meth c s.heap [] 0 0 _ _
  refine W.genQ (fun Q hQ => ?_)
  generalize hHe : s.heap = H at hP ⊢
  have hS : va_S A s.heap H [] := by rw [← hHe]; exact va_S.rf
  generalize ([] : List Loc) = locs at hS ⊢
  unfold f_X6_push at hg
  refine lv_aload_n hx hb dX6_push_0 rfl (lv_at hl 0 rfl) ?_
  refine va_get (ci := 5) (v := .int (pX6_top v0)) (C := RX6) (T := TX6) (N := 9) hx hb htb uX6 hown hK.1 hP 0 rfl rfl 3 (by decide) (htb _ tg_300) (fun _ h9 => h9) rfl dX6_push_1 ?_
  refine lv_aload_n hx hb dX6_push_4 rfl (lv_at hl 0 rfl) ?_
  refine va_get (ci := 5) (v := .ref a0_stack) (C := RX6) (T := TX6) (N := 9) hx hb htb uX6 hown hK.1 hP 0 rfl rfl 1 (by decide) (htb _ tg_298) (fun _ h9 => h9) rfl dX6_push_5 ?_
  refine va_alen (v := 64) hx hb hK.1 hP 1 0 rfl rfl rfl dX6_push_8 ?_
  refine lv_icmp_ge (tgt := 36) hx hb dX6_push_9 (by decide) (fun c_1 => ?_) (fun c_1 => ?_)
  · have hg := g_it hg c_1
    have hg := Option.some.inj hg
    rw [hQ]
    exact W.vret hx hb hr (fun t ht hW => ⟨⟨(v0), rfl, hg, by rw [ht]; exact hP, hD⟩, hS.F ht⟩) hS.2.2 dX6_push_36
  · have hg := g_if hg c_1
    refine lv_aload_n hx hb dX6_push_12 rfl (lv_at hl 0 rfl) ?_
    refine va_get (ci := 5) (v := .ref a0_stack) (C := RX6) (T := TX6) (N := 9) hx hb htb uX6 hown hK.1 hP 0 rfl rfl 1 (by decide) (htb _ tg_298) (fun _ h9 => h9) rfl dX6_push_13 ?_
    refine lv_aload_n hx hb dX6_push_16 rfl (lv_at hl 0 rfl) ?_
    refine va_get (ci := 5) (v := .int (pX6_top v0)) (C := RX6) (T := TX6) (N := 9) hx hb htb uX6 hown hK.1 hP 0 rfl rfl 3 (by decide) (htb _ tg_300) (fun _ h9 => h9) rfl dX6_push_17 ?_
    refine lv_aload_n hx hb dX6_push_20 rfl (lv_at hl 0 rfl) ?_
    refine lv_lload_n hx hb dX6_push_21 rfl (lv_at hl 1 rfl) ?_
    obtain ⟨r_2, hr_2, hg⟩ := g_bd hg
    refine cc_i (va_runV (C := RX6) (As := [.long p0]) (rest := [.int (pX6_top v0), .ref a0_stack]) ⟨hx, hb, hml, hown, htb⟩ (k_X6_bounded a0 a0_stack a0_letters r0_eye v0 p0 r_2 hr_2) (cw_V 1 htb tg_793 tg_10 tg_790 tg_792 ts_25 rfl rfl (by decide +kernel) ⟨Nat.le_of_ble_eq_true rfl, Nat.le_of_ble_eq_true rfl⟩) ⟨PC.blind, va_recv hK.1 hP (ci := 5) (q0 := 0) rfl rfl, PC.pre hK hT hP hD hS hA [0, 1, 2] rfl (by decide)⟩ rfl rfl hl.1 rfl (lv_room (Nat.le_of_ble_eq_true rfl)) dX6_push_22 ⟨Nat.le_of_ble_eq_true rfl, Nat.le_of_ble_eq_true rfl⟩) hP hD hS hA [0, 1, 2] [] rfl rfl (by decide) (by decide) (fun r9 u9 H locs hw hP hD hS => ?_)
    obtain ⟨rfl, rfl⟩ := hw
    have hP : va_P D vwCl (WS_X6_push cI cJ cZ cY a0 a0_stack a0_letters r0_eye r_2.2) H := hP.sub [0, 1, 2] rfl
    have hD : va_D A (WS_X6_push cI cJ cZ cY a0 a0_stack a0_letters r0_eye r_2.2) := hD.sub [0, 1, 2] (by decide) rfl
    obtain ⟨h_3, hg⟩ := g_gde hg
    refine va_iast hx hb hK.1 hP hD hS 1 0 rfl rfl (inB_vp h_3) dX6_push_25 (fun H locs hP hD hS => ?_)
    obtain ⟨v0_4, ev0_4⟩ : ∃ z, z = sX6_stack r_2.2 (upd (pX6_stack r_2.2) ((pX6_top v0) : Int32).toNatClampNeg r_2.1) := ⟨_, rfl⟩
    have hP : va_P D vwCl (WS_X6_push cI cJ cZ cY a0 a0_stack a0_letters r0_eye v0_4) H := by rw [ev0_4]; exact hP
    have hD : va_D A (WS_X6_push cI cJ cZ cY a0 a0_stack a0_letters r0_eye v0_4) := by rw [ev0_4]; exact hD
    have hg := g_lte hg v0_4 ev0_4
    refine lv_aload_n hx hb dX6_push_26 rfl (lv_at hl 0 rfl) ?_
    refine lv_dup hx hb dX6_push_27 rfl ?_
    refine va_get (ci := 5) (v := .int (pX6_top v0_4)) (C := RX6) (T := TX6) (N := 9) hx hb htb uX6 hown hK.1 hP 0 rfl rfl 3 (by decide) (htb _ tg_300) (fun _ h9 => h9) rfl dX6_push_28 ?_
    refine lv_iconst (v := 1) hx hb dX6_push_31 (by decide) ?_
    refine lv_iadd hx hb dX6_push_32 ?_
    refine lv_topi (fun x_5 ex_5 => ?_)
    have hg := g_lte hg x_5 ex_5
    refine va_put (ci := 5) (v := .int x_5) (ty := .int) (C := RX6) (T := TX6) (N := 9) hx hb htb uX6 tyX6 tyX6_ok nmX6 hown hK.1 hP hD hS 0 rfl rfl 3 (by decide) (htb _ tg_300) (fun _ h9 => h9) rfl (by decide +kernel) rfl rfl (Nat.le_of_ble_eq_true rfl) dX6_push_33 (fun H locs hP hD hS => ?_)
    obtain ⟨v0_6, ev0_6⟩ : ∃ z, z = sX6_top v0_4 x_5 := ⟨_, rfl⟩
    have hP : va_P D vwCl (WS_X6_push cI cJ cZ cY a0 a0_stack a0_letters r0_eye v0_6) H := by rw [ev0_6]; exact hP
    have hD : va_D A (WS_X6_push cI cJ cZ cY a0 a0_stack a0_letters r0_eye v0_6) := by rw [ev0_6]; exact hD
    have hg := g_lte hg v0_6 ev0_6
    have hg := Option.some.inj hg
    rw [hQ]
    exact W.vret hx hb hr (fun t ht hW => ⟨⟨(v0_6), rfl, hg, by rw [ht]; exact hP, hD⟩, hS.F ht⟩) hS.2.2 dX6_push_36

/-! ManyEyes$Runner.brought(IILManyEyes$Flight;)I -/
def WS_X6_brought (cI cJ cZ cY : ClassId) (a0 a0_rows a0_takes a1 a1_stack a1_letters a2 a2_lensSide a2_lensWidth a2_pairA a2_pairB a2_pairDelay : Nat) (v0 : BX2) (v1 : BX6) (v2 : BX1) : va_W := (GX2 cI cJ cZ cY a0 a0_rows a0_takes v0) ++ ((GX6 cI cJ cZ cY a1 a1_stack a1_letters a2 v1) ++ ((GX1 cI cJ cZ cY a2 a2_lensSide a2_lensWidth a2_pairA a2_pairB a2_pairDelay v2)))
def f_X6_brought (v0 : BX2) (v1 : BX6) (v2 : BX1) (p0 : Int32) (p1 : Int32) : Option (Int32) := if p0 = 0 then (some p1) else (if p0 = 1 then ((f_X11_isWithin p1 0 7).bind (fun r_3 => if (r_3 : Int32) = 0 then (some 0) else (g_gd (inB p1 8) (some ((pX6_letters v1) (p1 : Int32).toNatClampNeg))))) else (if p0 = 2 then ((f_X2_takenBy v0 p1 (pX2_count v0)).bind (fun r_7 => some r_7)) else (if p0 = 3 then ((f_X2_comparedBy v2 v0 p1 (pX2_count v0)).bind (fun r_9 => some r_9)) else (some (pX2_count v0)))))
abbrev rm_X6_brought : Room := { frames := 2, cells := 0, slots := 0, locals := 49 }
set_option maxHeartbeats 4000000 in
set_option maxRecDepth 100000 in
theorem k_X6_brought {l : Launch} {D : va_G} {cI cJ cZ cY : ClassId} {tX tY : Nat} {sz : Nat} (a0 a0_rows a0_takes a1 a1_stack a1_letters a2 a2_lensSide a2_lensWidth a2_pairA a2_pairB a2_pairDelay : Nat) (v0 : BX2) (v1 : BX6) (v2 : BX1) (p0 : Int32) (p1 : Int32) (res : Int32) (hg : f_X6_brought v0 v1 v2 p0 p1 = some res) : Met l yX6_brought (Cond.code yX6_brought cX6_brought 4 (some .int) :: TB) rm_X6_brought (PC D cI cJ cZ cY tX tY [.ref a1, .int p0, .int p1, .ref a0] (WS_X6_brought cI cJ cZ cY a0 a0_rows a0_takes a1 a1_stack a1_letters a2 a2_lensSide a2_lensWidth a2_pairA a2_pairB a2_pairDelay v0 v1 v2) sz) (va_Qi (fun (r : Int32) (_ : Unit) => r = res) (BC D (fun _ : Unit => WS_X6_brought cI cJ cZ cY a0 a0_rows a0_takes a1 a1_stack a1_letters a2 a2_lensSide a2_lensWidth a2_pairA a2_pairB a2_pairDelay v0 v1 v2) (va_A (WS_X6_brought cI cJ cZ cY a0 a0_rows a0_takes a1 a1_stack a1_letters a2 a2_lensSide a2_lensWidth a2_pairA a2_pairB a2_pairDelay v0 v1 v2) sz)) (va_A (WS_X6_brought cI cJ cZ cY a0 a0_rows a0_takes a1 a1_stack a1_letters a2 a2_lensSide a2_lensWidth a2_pairA a2_pairB a2_pairDelay v0 v1 v2) sz)) 0 0 (va_A (WS_X6_brought cI cJ cZ cY a0 a0_rows a0_takes a1 a1_stack a1_letters a2 a2_lensSide a2_lensWidth a2_pairA a2_pairB a2_pairDelay v0 v1 v2) sz) := by
  refine Met.ofW (cc := cX6_brought) (maxL := 4) (ret := (some .int)) (by decide) rfl ?_
  intro p e s m args below meth c s₁ B hml hv
  obtain ⟨hargs, hsz, hP, hK, hD0, hT⟩ := hv
  have hx := B.exec
  have hb := B.bytes
  have hr := B.returns
  have htb : ∀ w ∈ TB, w.before args s = true := fun w h => atoms_spec (ws := Cond.code yX6_brought cX6_brought 4 (some .int) :: TB) B.pre w (List.mem_cons_of_mem _ h)
  have hown : s.vm.findClass "ManyEyes$Runner" = some m.cls := findClass_of_methodNamed B.named
  have hlocks := B.notSynchronized
  subst hsz
  have hD := hD0.self (sz := s.heap.size)
  generalize hAe : va_A (WS_X6_brought cI cJ cZ cY a0 a0_rows a0_takes a1 a1_stack a1_letters a2 a2_lensSide a2_lensWidth a2_pairA a2_pairB a2_pairDelay v0 v1 v2) s.heap.size = A at hD hT ⊢
  have hA : ∀ q : Nat, s.heap.size ≤ q → A q := fun q h => by rw [← hAe]; exact Or.inr h
  have hS : va_S A s.heap s.heap [] := va_S.rf
  have hl := lv_entry ([.ref a1, .int p0, .int p1, .ref a0]) (n := 4) (Nat.le_of_ble_eq_true rfl)
  have he : entryFrame m args 4 = F0 m 0 (lg_sl ([.ref a1, .int p0, .int p1, .ref a0]) ++ List.replicate (4 - (lg_sl ([.ref a1, .int p0, .int p1, .ref a0])).length) Slot.unset).toArray [] := by rw [hargs, lg_entry_eq]
  rw [he]
  generalize (lg_sl ([.ref a1, .int p0, .int p1, .ref a0]) ++ List.replicate (4 - (lg_sl ([.ref a1, .int p0, .int p1, .ref a0])).length) Slot.unset).toArray = ls at hl ⊢
  have hl : lv_has ls 4 [(0, .ref a1), (1, .int p0), (2, .int p1), (3, .ref a0)] := hl
  show W p l e rm_X6_brought s m args below meth c s.heap [] 0 0 _ _
  refine W.genQ (fun Q hQ => ?_)
  generalize hHe : s.heap = H at hP ⊢
  have hS : va_S A s.heap H [] := by rw [← hHe]; exact va_S.rf
  generalize ([] : List Loc) = locs at hS ⊢
  unfold f_X6_brought at hg
  refine lv_iload_n hx hb dX6_brought_0 rfl (lv_at hl 1 rfl) ?_
  by_cases c_1 : p0 = 0
  · have hg := g_it hg c_1
    refine lv_tableIn (tgt := 32) (off := 31) hx hb dX6_brought_1 (by rw [c_1]; decide) (by rw [c_1]; decide) (by rw [c_1]; decide +kernel) (by decide) ?_
    refine lv_iload_n hx hb dX6_brought_32 rfl (lv_at hl 2 rfl) ?_
    have hg := Option.some.inj hg
    rw [hQ]
    exact W.iret (v := p1) hx hb hr (fun t ht hW => ⟨⟨p1, (), rfl, hg, by rw [ht]; exact hP, hD⟩, hS.F ht⟩) hS.2.2 dX6_brought_33
  have hg := g_if hg c_1
  by_cases c_2 : p0 = 1
  · have hg := g_it hg c_2
    refine lv_tableIn (tgt := 34) (off := 33) hx hb dX6_brought_1 (by rw [c_2]; decide) (by rw [c_2]; decide) (by rw [c_2]; decide +kernel) (by decide) ?_
    refine lv_iload_n hx hb dX6_brought_34 rfl (lv_at hl 2 rfl) ?_
    refine lv_iconst (v := 0) hx hb dX6_brought_35 (by decide) ?_
    refine lv_bipush (v := 7) hx hb dX6_brought_36 (by decide) ?_
    obtain ⟨r_3, hr_3, hg⟩ := g_bd hg
    refine cc_i (va_runSN (As := [.int p1, .int 0, .int 7]) (rest := []) ⟨hx, hb, hml, hown, htb⟩ (k_X11_isWithin p1 0 7 r_3 hr_3) (cw_SN 3 htb tg_450 tg_1 (hK.2.1 _ nw_775) tg_449 rfl rfl (by decide +kernel) ⟨Nat.le_of_ble_eq_true rfl, Nat.le_of_ble_eq_true rfl⟩) ⟨PC.blind, PC.pre hK hT hP hD hS hA [] rfl (by decide)⟩ rfl rfl hl.1 rfl (lv_room (Nat.le_of_ble_eq_true rfl)) dX6_brought_38 ⟨Nat.le_of_ble_eq_true rfl, Nat.le_of_ble_eq_true rfl⟩) hP hD hS hA [] [0, 1, 2, 3, 4, 5, 6, 7, 8, 9, 10, 11] rfl rfl (by decide) (by decide) (fun r9 u9 H locs hw hP hD hS => ?_)
    have hw := hw.symm
    subst hw
    have hP : va_P D vwCl (WS_X6_brought cI cJ cZ cY a0 a0_rows a0_takes a1 a1_stack a1_letters a2 a2_lensSide a2_lensWidth a2_pairA a2_pairB a2_pairDelay v0 v1 v2) H := hP.sub [0, 1, 2, 3, 4, 5, 6, 7, 8, 9, 10, 11] rfl
    have hD : va_D A (WS_X6_brought cI cJ cZ cY a0 a0_rows a0_takes a1 a1_stack a1_letters a2 a2_lensSide a2_lensWidth a2_pairA a2_pairB a2_pairDelay v0 v1 v2) := hD.sub [0, 1, 2, 3, 4, 5, 6, 7, 8, 9, 10, 11] (by decide) rfl
    refine lv_if_eq (tgt := 53) hx hb dX6_brought_41 (by decide) (fun c_4 => ?_) (fun c_4 => ?_)
    · have hg := g_it hg c_4
      refine lv_iconst (v := 0) hx hb dX6_brought_53 (by decide) ?_
      have hg := Option.some.inj hg
      rw [hQ]
      exact W.iret (v := 0) hx hb hr (fun t ht hW => ⟨⟨0, (), rfl, hg, by rw [ht]; exact hP, hD⟩, hS.F ht⟩) hS.2.2 dX6_brought_54
    · have hg := g_if hg c_4
      refine lv_aload_n hx hb dX6_brought_44 rfl (lv_at hl 0 rfl) ?_
      refine va_get (ci := 5) (v := .ref a1_letters) (C := RX6) (T := TX6) (N := 9) hx hb htb uX6 hown hK.1 hP 3 rfl rfl 2 (by decide) (htb _ tg_299) (fun _ h9 => h9) rfl dX6_brought_45 ?_
      refine lv_iload_n hx hb dX6_brought_48 rfl (lv_at hl 2 rfl) ?_
      obtain ⟨h_5, hg⟩ := g_gde hg
      refine va_iald hx hb hK.1 hP 5 0 rfl rfl (inB_vp h_5) dX6_brought_49 ?_
      refine lv_goto (tgt := 54) hx hb dX6_brought_50 (by decide) ?_
      have hg := Option.some.inj hg
      rw [hQ]
      exact W.iret (v := ((pX6_letters v1) (p1 : Int32).toNatClampNeg)) hx hb hr (fun t ht hW => ⟨⟨((pX6_letters v1) (p1 : Int32).toNatClampNeg), (), rfl, hg, by rw [ht]; exact hP, hD⟩, hS.F ht⟩) hS.2.2 dX6_brought_54
  have hg := g_if hg c_2
  by_cases c_6 : p0 = 2
  · have hg := g_it hg c_6
    refine lv_tableIn (tgt := 55) (off := 54) hx hb dX6_brought_1 (by rw [c_6]; decide) (by rw [c_6]; decide) (by rw [c_6]; decide +kernel) (by decide) ?_
    refine lv_aload_n hx hb dX6_brought_55 rfl (lv_at hl 3 rfl) ?_
    refine lv_iload_n hx hb dX6_brought_56 rfl (lv_at hl 2 rfl) ?_
    refine lv_aload_n hx hb dX6_brought_57 rfl (lv_at hl 3 rfl) ?_
    refine va_get (ci := 1) (v := .int (pX2_count v0)) (C := RX2) (T := TX2) (N := 12) hx hb htb uX2 hown hK.1 hP 0 rfl rfl 5 (by decide) (htb _ tg_185) (fun _ h9 => h9) rfl dX6_brought_58 ?_
    obtain ⟨r_7, hr_7, hg⟩ := g_bd hg
    refine cc_i (va_runV (C := RX2) (As := [.int p1, .int (pX2_count v0)]) (rest := []) ⟨hx, hb, hml, hown, htb⟩ (k_X2_takenBy a0 a0_rows a0_takes v0 p1 (pX2_count v0) r_7 hr_7) (cw_V 2 htb tg_779 tg_7 tg_776 tg_777 tg_778 rfl rfl (by decide +kernel) ⟨Nat.le_of_ble_eq_true rfl, Nat.le_of_ble_eq_true rfl⟩) ⟨PC.blind, va_recv hK.1 hP (ci := 1) (q0 := 0) rfl rfl, PC.pre hK hT hP hD hS hA [0, 1, 2] rfl (by decide)⟩ rfl rfl hl.1 rfl (lv_room (Nat.le_of_ble_eq_true rfl)) dX6_brought_61 ⟨Nat.le_of_ble_eq_true rfl, Nat.le_of_ble_eq_true rfl⟩) hP hD hS hA [0, 1, 2] [3, 4, 5, 6, 7, 8, 9, 10, 11] rfl rfl (by decide) (by decide) (fun r9 u9 H locs hw hP hD hS => ?_)
    have hw := hw.symm
    subst hw
    have hP : va_P D vwCl (WS_X6_brought cI cJ cZ cY a0 a0_rows a0_takes a1 a1_stack a1_letters a2 a2_lensSide a2_lensWidth a2_pairA a2_pairB a2_pairDelay v0 v1 v2) H := hP.sub [9, 10, 11, 0, 1, 2, 3, 4, 5, 6, 7, 8] rfl
    have hD : va_D A (WS_X6_brought cI cJ cZ cY a0 a0_rows a0_takes a1 a1_stack a1_letters a2 a2_lensSide a2_lensWidth a2_pairA a2_pairB a2_pairDelay v0 v1 v2) := hD.sub [9, 10, 11, 0, 1, 2, 3, 4, 5, 6, 7, 8] (by decide) rfl
    have hg := Option.some.inj hg
    rw [hQ]
    exact W.iret (v := r_7) hx hb hr (fun t ht hW => ⟨⟨r_7, (), rfl, hg, by rw [ht]; exact hP, hD⟩, hS.F ht⟩) hS.2.2 dX6_brought_64
  have hg := g_if hg c_6
  by_cases c_8 : p0 = 3
  · have hg := g_it hg c_8
    refine lv_tableIn (tgt := 65) (off := 64) hx hb dX6_brought_1 (by rw [c_8]; decide) (by rw [c_8]; decide) (by rw [c_8]; decide +kernel) (by decide) ?_
    refine lv_aload_n hx hb dX6_brought_65 rfl (lv_at hl 3 rfl) ?_
    refine lv_aload_n hx hb dX6_brought_66 rfl (lv_at hl 0 rfl) ?_
    refine va_get (ci := 5) (v := .ref a2) (C := RX6) (T := TX6) (N := 9) hx hb htb uX6 hown hK.1 hP 3 rfl rfl 0 (by decide) (htb _ tg_297) (fun _ h9 => h9) rfl dX6_brought_67 ?_
    refine lv_iload_n hx hb dX6_brought_70 rfl (lv_at hl 2 rfl) ?_
    refine lv_aload_n hx hb dX6_brought_71 rfl (lv_at hl 3 rfl) ?_
    refine va_get (ci := 1) (v := .int (pX2_count v0)) (C := RX2) (T := TX2) (N := 12) hx hb htb uX2 hown hK.1 hP 0 rfl rfl 5 (by decide) (htb _ tg_185) (fun _ h9 => h9) rfl dX6_brought_72 ?_
    obtain ⟨r_9, hr_9, hg⟩ := g_bd hg
    refine cc_i (va_runV (C := RX2) (As := [.ref a2, .int p1, .int (pX2_count v0)]) (rest := []) ⟨hx, hb, hml, hown, htb⟩ (k_X2_comparedBy a2 a2_lensSide a2_lensWidth a2_pairA a2_pairB a2_pairDelay a0 a0_rows a0_takes v2 v0 p1 (pX2_count v0) r_9 hr_9) (cw_V 3 htb tg_783 tg_7 tg_780 tg_781 tg_782 rfl rfl (by decide +kernel) ⟨Nat.le_of_ble_eq_true rfl, Nat.le_of_ble_eq_true rfl⟩) ⟨PC.blind, va_recv hK.1 hP (ci := 1) (q0 := 0) rfl rfl, PC.pre hK hT hP hD hS hA [6, 7, 8, 9, 10, 11, 0, 1, 2] rfl (by decide)⟩ rfl rfl hl.1 rfl (lv_room (Nat.le_of_ble_eq_true rfl)) dX6_brought_75 ⟨Nat.le_of_ble_eq_true rfl, Nat.le_of_ble_eq_true rfl⟩) hP hD hS hA [6, 7, 8, 9, 10, 11, 0, 1, 2] [3, 4, 5] rfl rfl (by decide) (by decide) (fun r9 u9 H locs hw hP hD hS => ?_)
    have hw := hw.symm
    subst hw
    have hP : va_P D vwCl (WS_X6_brought cI cJ cZ cY a0 a0_rows a0_takes a1 a1_stack a1_letters a2 a2_lensSide a2_lensWidth a2_pairA a2_pairB a2_pairDelay v0 v1 v2) H := hP.sub [9, 10, 11, 0, 1, 2, 3, 4, 5, 6, 7, 8] rfl
    have hD : va_D A (WS_X6_brought cI cJ cZ cY a0 a0_rows a0_takes a1 a1_stack a1_letters a2 a2_lensSide a2_lensWidth a2_pairA a2_pairB a2_pairDelay v0 v1 v2) := hD.sub [9, 10, 11, 0, 1, 2, 3, 4, 5, 6, 7, 8] (by decide) rfl
    have hg := Option.some.inj hg
    rw [hQ]
    exact W.iret (v := r_9) hx hb hr (fun t ht hW => ⟨⟨r_9, (), rfl, hg, by rw [ht]; exact hP, hD⟩, hS.F ht⟩) hS.2.2 dX6_brought_78
  have hg := g_if hg c_8
  have zc_1 := lv_neT (a := 0) c_1 (by decide)
  have zc_2 := lv_neT (a := 1) c_2 (by decide)
  have zc_6 := lv_neT (a := 2) c_6 (by decide)
  have zc_8 := lv_neT (a := 3) c_8 (by decide)
  refine lv_tableOut (tgt := 79) hx hb dX6_brought_1 (by omega) (by decide) ?_
  refine lv_aload_n hx hb dX6_brought_79 rfl (lv_at hl 3 rfl) ?_
  refine va_get (ci := 1) (v := .int (pX2_count v0)) (C := RX2) (T := TX2) (N := 12) hx hb htb uX2 hown hK.1 hP 0 rfl rfl 5 (by decide) (htb _ tg_185) (fun _ h9 => h9) rfl dX6_brought_80 ?_
  have hg := Option.some.inj hg
  rw [hQ]
  exact W.iret (v := (pX2_count v0)) hx hb hr (fun t ht hW => ⟨⟨(pX2_count v0), (), rfl, hg, by rw [ht]; exact hP, hD⟩, hS.F ht⟩) hS.2.2 dX6_brought_83
