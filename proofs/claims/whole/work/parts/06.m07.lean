/-! ManyEyesModel.nextToken()V -/
def WS_X12_nextToken (cI cJ cZ cY : ClassId) (a0 a0_a a0_image a0_texts a0_board a0_taken a0_fars a0_before a0_tape a0_pile a0_rows a0_told a0_values a0_truth a0_keeps : Nat) (v0 : BX12) : va_W := (GX12 cI cJ cZ cY a0 a0_a a0_image a0_texts a0_board a0_taken a0_fars a0_before a0_tape a0_pile a0_rows a0_told a0_values a0_truth a0_keeps v0)
def f_X12_nextToken_b393 (t1 : Int32) (v0 : BX12) : Option (BX12) := g_lt (sX12_token v0 t1) (fun v0_1 => some (v0_1))
def f_X12_nextToken_b358 (x1 : Int32) (v0 : BX12) : Option (BX12) := (f_X12_see v0 (pX12_at v0)).bind (fun r_2 => if (r_2 : Int32) = 61 then (g_lt (((pX12_at v0) + 1) : Int32) (fun x_4 => g_lt (sX12_at v0 x_4) (fun v0_5 => if (x1 : Int32) = 60 then (f_X12_nextToken_b393 4 v0_5) else (f_X12_nextToken_b393 5 v0_5)))) else (some (v0)))
def f_X12_nextToken_b343 (x1 : Int32) (t1 : Int32) (v0 : BX12) : Option (BX12) := g_lt (sX12_token v0 t1) (fun v0_7 => if (x1 : Int32) = 60 then (f_X12_nextToken_b358 x1 v0_7) else (if (x1 : Int32) = 62 then (f_X12_nextToken_b358 x1 v0_7) else (some (v0_7))))
def f_X12_nextToken_b332 (x1 : Int32) (t0 : Int32) (v0 : BX12) : Option (BX12) := if (t0 : Int32) = 0 then (f_X12_nextToken_b343 x1 3 v0) else (f_X12_nextToken_b343 x1 x1 v0)
def f_X12_nextToken_b327 (x1 : Int32) (v0 : BX12) : Option (BX12) := f_X12_nextToken_b332 x1 1 v0
def f_X12_nextToken_b210 (J161 : (BX12) → Option (BX12)) (v0 : BX12) : Option (BX12) := g_lt (((pX12_at v0) + 1) : Int32) (fun x_11 => g_lt (sX12_at v0 x_11) (fun v0_12 => J161 (v0_12)))
def f_X12_nextToken_b161B (J161 : BX12 → Option (BX12)) (v0 : BX12) : Option (BX12) := (f_X12_see v0 (pX12_at v0)).bind (fun r_13 => (f_X12_isLetter r_13).bind (fun r_14 => if (r_14 : Int32) = 0 then (if (((pX12_at v0) - (pX12_place v0)) : Int32) ≤ 6 then (some (v0)) else (g_lt (sX12_word v0 0) (fun v0_17 => some (v0_17)))) else (if (6 : Int32) ≤ ((pX12_at v0) - (pX12_place v0)) then (f_X12_nextToken_b210 J161 v0) else ((f_X12_see v0 (pX12_at v0)).bind (fun r_19 => g_lt (((((pX12_word v0) : Int64) <<< ((8 : Int32).toInt64 &&& 63)) ||| ((r_19 : Int32).toInt64)) : Int64) (fun x_20 => g_lt (sX12_word v0 x_20) (fun v0_21 => f_X12_nextToken_b210 J161 v0_21)))))))
def f_X12_nextToken_b161 : Nat → BX12 → Option (BX12) := g_lp (fun J z => f_X12_nextToken_b161B J z)
def f_X12_nextToken_b131 (J85 : (BX12) → Option (BX12)) (v0 : BX12) : Option (BX12) := g_lt (((pX12_at v0) + 1) : Int32) (fun x_22 => g_lt (sX12_at v0 x_22) (fun v0_23 => J85 (v0_23)))
def f_X12_nextToken_b85B (J85 : BX12 → Option (BX12)) (v0 : BX12) : Option (BX12) := (f_X12_see v0 (pX12_at v0)).bind (fun r_24 => (f_X12_isDigit r_24).bind (fun r_25 => if (r_25 : Int32) = 0 then (some (v0)) else (if (100000 : Int32) ≤ (pX12_number v0) then (f_X12_nextToken_b131 J85 v0) else ((f_X12_see v0 (pX12_at v0)).bind (fun r_28 => g_lt (((((10 : Int32) * (pX12_number v0)) + r_28) - 48) : Int32) (fun x_29 => g_lt (sX12_number v0 x_29) (fun v0_30 => f_X12_nextToken_b131 J85 v0_30)))))))
def f_X12_nextToken_b85 : Nat → BX12 → Option (BX12) := g_lp (fun J z => f_X12_nextToken_b85B J z)
def f_X12_nextToken_b26 (J0 : (BX12) → Option (BX12)) (v0 : BX12) : Option (BX12) := g_lt (((pX12_at v0) + 1) : Int32) (fun x_31 => g_lt (sX12_at v0 x_31) (fun v0_32 => J0 (v0_32)))
def f_X12_nextToken_b0B (J0 : BX12 → Option (BX12)) (v0 : BX12) : Option (BX12) := (f_X12_see v0 (pX12_at v0)).bind (fun r_33 => if (r_33 : Int32) = 32 then (f_X12_nextToken_b26 J0 v0) else ((f_X12_see v0 (pX12_at v0)).bind (fun r_35 => if (r_35 : Int32) = 10 then (f_X12_nextToken_b26 J0 v0) else (g_lt ((pX12_at v0) : Int32) (fun x_37 => g_lt (sX12_place v0 x_37) (fun v0_38 => (f_X12_see v0_38 (pX12_at v0_38)).bind (fun r_39 => if (0 : Int32) ≤ r_39 then ((f_X12_isDigit r_39).bind (fun r_41 => if (r_41 : Int32) = 0 then ((f_X12_isLetter r_39).bind (fun r_43 => if (r_43 : Int32) = 0 then (g_lt (((pX12_at v0_38) + 1) : Int32) (fun x_45 => g_lt (sX12_at v0_38 x_45) (fun v0_46 => if (r_39 : Int32) = 60 then (f_X12_nextToken_b327 r_39 v0_46) else (if (r_39 : Int32) = 62 then (f_X12_nextToken_b327 r_39 v0_46) else (if (r_39 : Int32) = 61 then (f_X12_nextToken_b327 r_39 v0_46) else (if (r_39 : Int32) = 35 then (f_X12_nextToken_b327 r_39 v0_46) else (if (r_39 : Int32) = 43 then (f_X12_nextToken_b327 r_39 v0_46) else (if (r_39 : Int32) = 45 then (f_X12_nextToken_b327 r_39 v0_46) else (if (r_39 : Int32) = 42 then (f_X12_nextToken_b327 r_39 v0_46) else (if (r_39 : Int32) = 47 then (f_X12_nextToken_b327 r_39 v0_46) else (if (r_39 : Int32) = 40 then (f_X12_nextToken_b327 r_39 v0_46) else (if (r_39 : Int32) = 41 then (f_X12_nextToken_b327 r_39 v0_46) else (if (r_39 : Int32) = 44 then (f_X12_nextToken_b327 r_39 v0_46) else (if (r_39 : Int32) = 59 then (f_X12_nextToken_b327 r_39 v0_46) else (f_X12_nextToken_b332 r_39 0 v0_46))))))))))))))) else (g_lt (sX12_token v0_38 2) (fun v0_59 => g_lt (sX12_word v0_59 0) (fun v0_60 => f_X12_nextToken_b161 fU (v0_60)))))) else (g_lt (sX12_token v0_38 1) (fun v0_61 => g_lt (sX12_number v0_61 0) (fun v0_62 => f_X12_nextToken_b85 fU (v0_62)))))) else (g_lt (sX12_token v0_38 0) (fun v0_63 => some (v0_63))))))))))
def f_X12_nextToken_b0 : Nat → BX12 → Option (BX12) := g_lp (fun J z => f_X12_nextToken_b0B J z)
def f_X12_nextToken (v0 : BX12) : Option (BX12) := f_X12_nextToken_b0 fU (v0)
abbrev rm_X12_nextToken : Room := { frames := 2, cells := 0, slots := 0, locals := 42 }
set_option maxHeartbeats 4000000 in
set_option maxRecDepth 100000 in
theorem k_X12_nextToken {l : Launch} {D : va_G} {cI cJ cZ cY : ClassId} {tX tY : Nat} {sz : Nat} (a0 a0_a a0_image a0_texts a0_board a0_taken a0_fars a0_before a0_tape a0_pile a0_rows a0_told a0_values a0_truth a0_keeps : Nat) (v0 : BX12) (res : BX12) (hg : f_X12_nextToken v0 = some res) : Met l yX12_nextToken (Cond.code yX12_nextToken cX12_nextToken 3 none :: TB) rm_X12_nextToken (PC D cI cJ cZ cY tX tY [.ref a0] (WS_X12_nextToken cI cJ cZ cY a0 a0_a a0_image a0_texts a0_board a0_taken a0_fars a0_before a0_tape a0_pile a0_rows a0_told a0_values a0_truth a0_keeps v0) sz) (va_Qv (fun (u : BX12) => u = res) (BC D (fun u : BX12 => WS_X12_nextToken cI cJ cZ cY a0 a0_a a0_image a0_texts a0_board a0_taken a0_fars a0_before a0_tape a0_pile a0_rows a0_told a0_values a0_truth a0_keeps u) (va_A (WS_X12_nextToken cI cJ cZ cY a0 a0_a a0_image a0_texts a0_board a0_taken a0_fars a0_before a0_tape a0_pile a0_rows a0_told a0_values a0_truth a0_keeps v0) sz)) (va_A (WS_X12_nextToken cI cJ cZ cY a0 a0_a a0_image a0_texts a0_board a0_taken a0_fars a0_before a0_tape a0_pile a0_rows a0_told a0_values a0_truth a0_keeps v0) sz)) 0 0 (va_A (WS_X12_nextToken cI cJ cZ cY a0 a0_a a0_image a0_texts a0_board a0_taken a0_fars a0_before a0_tape a0_pile a0_rows a0_told a0_values a0_truth a0_keeps v0) sz) := by
  refine Met.ofW (cc := cX12_nextToken) (maxL := 3) (ret := none) (by decide) rfl ?_
  intro p e s m args below meth c s₁ B hml hv
  obtain ⟨hargs, hsz, hP, hK, hD0, hT⟩ := hv
  have hx := B.exec
  have hb := B.bytes
  have hr := B.returns
  have htb : ∀ w ∈ TB, w.before args s = true := fun w h => atoms_spec (ws := Cond.code yX12_nextToken cX12_nextToken 3 none :: TB) B.pre w (List.mem_cons_of_mem _ h)
  have hown : s.vm.findClass "ManyEyesModel" = some m.cls := findClass_of_methodNamed B.named
  have hlocks := B.notSynchronized
  subst hsz
  have hD := hD0.self (sz := s.heap.size)
  generalize hAe : va_A (WS_X12_nextToken cI cJ cZ cY a0 a0_a a0_image a0_texts a0_board a0_taken a0_fars a0_before a0_tape a0_pile a0_rows a0_told a0_values a0_truth a0_keeps v0) s.heap.size = A at hD hT ⊢
  have hA : ∀ q : Nat, s.heap.size ≤ q → A q := fun q h => by rw [← hAe]; exact Or.inr h
  have hS : va_S A s.heap s.heap [] := va_S.rf
  have hl := lv_entry ([.ref a0]) (n := 3) (Nat.le_of_ble_eq_true rfl)
  have he : entryFrame m args 3 = F0 m 0 (lg_sl ([.ref a0]) ++ List.replicate (3 - (lg_sl ([.ref a0])).length) Slot.unset).toArray [] := by rw [hargs, lg_entry_eq]
  rw [he]
  generalize (lg_sl ([.ref a0]) ++ List.replicate (3 - (lg_sl ([.ref a0])).length) Slot.unset).toArray = ls at hl ⊢
  have hl : lv_has ls 3 [(0, .ref a0)] := hl
  show W p l e rm_X12_nextToken s m args below meth c s.heap [] 0 0 _ _
  refine W.genQ (fun Q hQ => ?_)
  have b_393 : ∀ (t1 : Int32) (v0 : BX12) (H : Heap) (locs : List Loc) (ls : Array Slot), va_P D vwCl (WS_X12_nextToken cI cJ cZ cY a0 a0_a a0_image a0_texts a0_board a0_taken a0_fars a0_before a0_tape a0_pile a0_rows a0_told a0_values a0_truth a0_keeps v0) H → va_D A (WS_X12_nextToken cI cJ cZ cY a0 a0_a a0_image a0_texts a0_board a0_taken a0_fars a0_before a0_tape a0_pile a0_rows a0_told a0_values a0_truth a0_keeps v0) → va_S A s.heap H locs → lv_has ls 3 [] → f_X12_nextToken_b393 t1 v0 = some res → W p l e rm_X12_nextToken s m args below meth c H locs 0 0 Q (F0 m 393 ls [.int t1, .ref a0]) := by
    intro t1 v0 H locs ls hP hD hS hl hg
    unfold f_X12_nextToken_b393 at hg
    refine va_put (ci := 11) (v := .int t1) (ty := .int) (C := RX12) (T := TX12) (N := 43) hx hb htb uX12 tyX12 tyX12_ok nmX12 hown hK.1 hP hD hS 0 rfl rfl 15 (by decide) (htb _ tg_951) (fun _ h9 => h9) rfl (by decide +kernel) rfl rfl (Nat.le_of_ble_eq_true rfl) dX12_nextToken_393 (fun H locs hP hD hS => ?_)
    obtain ⟨v0_1, ev0_1⟩ : ∃ z, z = sX12_token v0 t1 := ⟨_, rfl⟩
    have hP : va_P D vwCl (WS_X12_nextToken cI cJ cZ cY a0 a0_a a0_image a0_texts a0_board a0_taken a0_fars a0_before a0_tape a0_pile a0_rows a0_told a0_values a0_truth a0_keeps v0_1) H := by rw [ev0_1]; exact hP
    have hD : va_D A (WS_X12_nextToken cI cJ cZ cY a0 a0_a a0_image a0_texts a0_board a0_taken a0_fars a0_before a0_tape a0_pile a0_rows a0_told a0_values a0_truth a0_keeps v0_1) := by rw [ev0_1]; exact hD
    have hg := g_lte hg v0_1 ev0_1
    have hg := Option.some.inj hg
    rw [hQ]
    exact W.vret hx hb hr (fun t ht hW => ⟨⟨(v0_1), rfl, hg, by rw [ht]; exact hP, hD⟩, hS.F ht⟩) hS.2.2 dX12_nextToken_396
  have b_358 : ∀ (x1 : Int32) (v0 : BX12) (H : Heap) (locs : List Loc) (ls : Array Slot), va_P D vwCl (WS_X12_nextToken cI cJ cZ cY a0 a0_a a0_image a0_texts a0_board a0_taken a0_fars a0_before a0_tape a0_pile a0_rows a0_told a0_values a0_truth a0_keeps v0) H → va_D A (WS_X12_nextToken cI cJ cZ cY a0 a0_a a0_image a0_texts a0_board a0_taken a0_fars a0_before a0_tape a0_pile a0_rows a0_told a0_values a0_truth a0_keeps v0) → va_S A s.heap H locs → lv_has ls 3 [(0, .ref a0), (1, .int x1)] → f_X12_nextToken_b358 x1 v0 = some res → W p l e rm_X12_nextToken s m args below meth c H locs 0 0 Q (F0 m 358 ls []) := by
    intro x1 v0 H locs ls hP hD hS hl hg
    unfold f_X12_nextToken_b358 at hg
    refine lv_aload_n hx hb dX12_nextToken_358 rfl (lv_at hl 0 rfl) ?_
    refine lv_aload_n hx hb dX12_nextToken_359 rfl (lv_at hl 0 rfl) ?_
    refine va_get (ci := 11) (v := .int (pX12_at v0)) (C := RX12) (T := TX12) (N := 43) hx hb htb uX12 hown hK.1 hP 0 rfl rfl 13 (by decide) (htb _ tg_949) (fun _ h9 => h9) rfl dX12_nextToken_360 ?_
    obtain ⟨r_2, hr_2, hg⟩ := g_bd hg
    refine cc_i (va_runV (C := RX12) (As := [.int (pX12_at v0)]) (rest := []) ⟨hx, hb, hml, hown, htb⟩ (k_X12_see a0 a0_a a0_image a0_texts a0_board a0_taken a0_fars a0_before a0_tape a0_pile a0_rows a0_told a0_values a0_truth a0_keeps v0 (pX12_at v0) r_2 hr_2) (cw_V 1 htb tg_1208 tg_13 tg_1205 tg_1207 ts_43 rfl rfl (by decide +kernel) ⟨Nat.le_of_ble_eq_true rfl, Nat.le_of_ble_eq_true rfl⟩) ⟨PC.blind, va_recv hK.1 hP (ci := 11) (q0 := 0) rfl rfl, PC.pre hK hT hP hD hS hA [0, 1, 2, 3, 4, 5, 6, 7, 8, 9, 10, 11, 12, 13, 14] rfl (by decide)⟩ rfl rfl hl.1 rfl (lv_room (Nat.le_of_ble_eq_true rfl)) dX12_nextToken_363 ⟨Nat.le_of_ble_eq_true rfl, Nat.le_of_ble_eq_true rfl⟩) hP hD hS hA [0, 1, 2, 3, 4, 5, 6, 7, 8, 9, 10, 11, 12, 13, 14] [] rfl rfl (by decide) (by decide) (fun r9 u9 H locs hw hP hD hS => ?_)
    have hw := hw.symm
    subst hw
    have hP : va_P D vwCl (WS_X12_nextToken cI cJ cZ cY a0 a0_a a0_image a0_texts a0_board a0_taken a0_fars a0_before a0_tape a0_pile a0_rows a0_told a0_values a0_truth a0_keeps v0) H := hP.sub [0, 1, 2, 3, 4, 5, 6, 7, 8, 9, 10, 11, 12, 13, 14] rfl
    have hD : va_D A (WS_X12_nextToken cI cJ cZ cY a0 a0_a a0_image a0_texts a0_board a0_taken a0_fars a0_before a0_tape a0_pile a0_rows a0_told a0_values a0_truth a0_keeps v0) := hD.sub [0, 1, 2, 3, 4, 5, 6, 7, 8, 9, 10, 11, 12, 13, 14] (by decide) rfl
    refine lv_bipush (v := 61) hx hb dX12_nextToken_366 (by decide) ?_
    refine lv_icmp_ne (tgt := 396) hx hb dX12_nextToken_368 (by decide) (fun c_3 => ?_) (fun c_3 => ?_)
    · have hg := g_if hg c_3
      have hg := Option.some.inj hg
      rw [hQ]
      exact W.vret hx hb hr (fun t ht hW => ⟨⟨(v0), rfl, hg, by rw [ht]; exact hP, hD⟩, hS.F ht⟩) hS.2.2 dX12_nextToken_396
    · have hg := g_it hg c_3
      refine lv_aload_n hx hb dX12_nextToken_371 rfl (lv_at hl 0 rfl) ?_
      refine lv_dup hx hb dX12_nextToken_372 rfl ?_
      refine va_get (ci := 11) (v := .int (pX12_at v0)) (C := RX12) (T := TX12) (N := 43) hx hb htb uX12 hown hK.1 hP 0 rfl rfl 13 (by decide) (htb _ tg_949) (fun _ h9 => h9) rfl dX12_nextToken_373 ?_
      refine lv_iconst (v := 1) hx hb dX12_nextToken_376 (by decide) ?_
      refine lv_iadd hx hb dX12_nextToken_377 ?_
      refine lv_topi (fun x_4 ex_4 => ?_)
      have hg := g_lte hg x_4 ex_4
      refine va_put (ci := 11) (v := .int x_4) (ty := .int) (C := RX12) (T := TX12) (N := 43) hx hb htb uX12 tyX12 tyX12_ok nmX12 hown hK.1 hP hD hS 0 rfl rfl 13 (by decide) (htb _ tg_949) (fun _ h9 => h9) rfl (by decide +kernel) rfl rfl (Nat.le_of_ble_eq_true rfl) dX12_nextToken_378 (fun H locs hP hD hS => ?_)
      obtain ⟨v0_5, ev0_5⟩ : ∃ z, z = sX12_at v0 x_4 := ⟨_, rfl⟩
      have hP : va_P D vwCl (WS_X12_nextToken cI cJ cZ cY a0 a0_a a0_image a0_texts a0_board a0_taken a0_fars a0_before a0_tape a0_pile a0_rows a0_told a0_values a0_truth a0_keeps v0_5) H := by rw [ev0_5]; exact hP
      have hD : va_D A (WS_X12_nextToken cI cJ cZ cY a0 a0_a a0_image a0_texts a0_board a0_taken a0_fars a0_before a0_tape a0_pile a0_rows a0_told a0_values a0_truth a0_keeps v0_5) := by rw [ev0_5]; exact hD
      have hg := g_lte hg v0_5 ev0_5
      refine lv_aload_n hx hb dX12_nextToken_381 rfl (lv_at hl 0 rfl) ?_
      refine lv_iload_n hx hb dX12_nextToken_382 rfl (lv_at hl 1 rfl) ?_
      refine lv_bipush (v := 60) hx hb dX12_nextToken_383 (by decide) ?_
      refine lv_icmp_ne (tgt := 392) hx hb dX12_nextToken_385 (by decide) (fun c_6 => ?_) (fun c_6 => ?_)
      · have hg := g_if hg c_6
        refine lv_iconst (v := 5) hx hb dX12_nextToken_392 (by decide) ?_
        exact b_393 5 v0_5 H locs ls hP hD hS (lv_sub hl [] rfl) hg
      · have hg := g_it hg c_6
        refine lv_iconst (v := 4) hx hb dX12_nextToken_388 (by decide) ?_
        refine lv_goto (tgt := 393) hx hb dX12_nextToken_389 (by decide) ?_
        exact b_393 4 v0_5 H locs ls hP hD hS (lv_sub hl [] rfl) hg
  have b_343 : ∀ (x1 : Int32) (t1 : Int32) (v0 : BX12) (H : Heap) (locs : List Loc) (ls : Array Slot), va_P D vwCl (WS_X12_nextToken cI cJ cZ cY a0 a0_a a0_image a0_texts a0_board a0_taken a0_fars a0_before a0_tape a0_pile a0_rows a0_told a0_values a0_truth a0_keeps v0) H → va_D A (WS_X12_nextToken cI cJ cZ cY a0 a0_a a0_image a0_texts a0_board a0_taken a0_fars a0_before a0_tape a0_pile a0_rows a0_told a0_values a0_truth a0_keeps v0) → va_S A s.heap H locs → lv_has ls 3 [(0, .ref a0), (1, .int x1)] → f_X12_nextToken_b343 x1 t1 v0 = some res → W p l e rm_X12_nextToken s m args below meth c H locs 0 0 Q (F0 m 343 ls [.int t1, .ref a0]) := by
    intro x1 t1 v0 H locs ls hP hD hS hl hg
    unfold f_X12_nextToken_b343 at hg
    refine va_put (ci := 11) (v := .int t1) (ty := .int) (C := RX12) (T := TX12) (N := 43) hx hb htb uX12 tyX12 tyX12_ok nmX12 hown hK.1 hP hD hS 0 rfl rfl 15 (by decide) (htb _ tg_951) (fun _ h9 => h9) rfl (by decide +kernel) rfl rfl (Nat.le_of_ble_eq_true rfl) dX12_nextToken_343 (fun H locs hP hD hS => ?_)
    obtain ⟨v0_7, ev0_7⟩ : ∃ z, z = sX12_token v0 t1 := ⟨_, rfl⟩
    have hP : va_P D vwCl (WS_X12_nextToken cI cJ cZ cY a0 a0_a a0_image a0_texts a0_board a0_taken a0_fars a0_before a0_tape a0_pile a0_rows a0_told a0_values a0_truth a0_keeps v0_7) H := by rw [ev0_7]; exact hP
    have hD : va_D A (WS_X12_nextToken cI cJ cZ cY a0 a0_a a0_image a0_texts a0_board a0_taken a0_fars a0_before a0_tape a0_pile a0_rows a0_told a0_values a0_truth a0_keeps v0_7) := by rw [ev0_7]; exact hD
    have hg := g_lte hg v0_7 ev0_7
    refine lv_iload_n hx hb dX12_nextToken_346 rfl (lv_at hl 1 rfl) ?_
    refine lv_bipush (v := 60) hx hb dX12_nextToken_347 (by decide) ?_
    refine lv_icmp_eq (tgt := 358) hx hb dX12_nextToken_349 (by decide) (fun c_8 => ?_) (fun c_8 => ?_)
    · have hg := g_it hg c_8
      exact b_358 x1 v0_7 H locs ls hP hD hS (lv_sub hl [0, 1] rfl) hg
    · have hg := g_if hg c_8
      refine lv_iload_n hx hb dX12_nextToken_352 rfl (lv_at hl 1 rfl) ?_
      refine lv_bipush (v := 62) hx hb dX12_nextToken_353 (by decide) ?_
      refine lv_icmp_ne (tgt := 396) hx hb dX12_nextToken_355 (by decide) (fun c_9 => ?_) (fun c_9 => ?_)
      · have hg := g_if hg c_9
        have hg := Option.some.inj hg
        rw [hQ]
        exact W.vret hx hb hr (fun t ht hW => ⟨⟨(v0_7), rfl, hg, by rw [ht]; exact hP, hD⟩, hS.F ht⟩) hS.2.2 dX12_nextToken_396
      · have hg := g_it hg c_9
        exact b_358 x1 v0_7 H locs ls hP hD hS (lv_sub hl [0, 1] rfl) hg
  have b_332 : ∀ (x1 : Int32) (t0 : Int32) (v0 : BX12) (H : Heap) (locs : List Loc) (ls : Array Slot), va_P D vwCl (WS_X12_nextToken cI cJ cZ cY a0 a0_a a0_image a0_texts a0_board a0_taken a0_fars a0_before a0_tape a0_pile a0_rows a0_told a0_values a0_truth a0_keeps v0) H → va_D A (WS_X12_nextToken cI cJ cZ cY a0 a0_a a0_image a0_texts a0_board a0_taken a0_fars a0_before a0_tape a0_pile a0_rows a0_told a0_values a0_truth a0_keeps v0) → va_S A s.heap H locs → lv_has ls 3 [(0, .ref a0), (1, .int x1)] → f_X12_nextToken_b332 x1 t0 v0 = some res → W p l e rm_X12_nextToken s m args below meth c H locs 0 0 Q (F0 m 332 ls [.int t0]) := by
    intro x1 t0 v0 H locs ls hP hD hS hl hg
    unfold f_X12_nextToken_b332 at hg
    refine lv_istore_n (lv' := [(2, .int t0), (0, .ref a0), (1, .int x1)]) hx hb dX12_nextToken_332 rfl hl (by decide) rfl (fun ls hl => ?_)
    refine lv_aload_n hx hb dX12_nextToken_333 rfl (lv_at hl 1 rfl) ?_
    refine lv_iload_n hx hb dX12_nextToken_334 rfl (lv_at hl 0 rfl) ?_
    refine lv_if_eq (tgt := 342) hx hb dX12_nextToken_335 (by decide) (fun c_10 => ?_) (fun c_10 => ?_)
    · have hg := g_it hg c_10
      refine lv_iconst (v := 3) hx hb dX12_nextToken_342 (by decide) ?_
      exact b_343 x1 3 v0 H locs ls hP hD hS (lv_sub hl [1, 2] rfl) hg
    · have hg := g_if hg c_10
      refine lv_iload_n hx hb dX12_nextToken_338 rfl (lv_at hl 2 rfl) ?_
      refine lv_goto (tgt := 343) hx hb dX12_nextToken_339 (by decide) ?_
      exact b_343 x1 x1 v0 H locs ls hP hD hS (lv_sub hl [1, 2] rfl) hg
  have b_327 : ∀ (x1 : Int32) (v0 : BX12) (H : Heap) (locs : List Loc) (ls : Array Slot), va_P D vwCl (WS_X12_nextToken cI cJ cZ cY a0 a0_a a0_image a0_texts a0_board a0_taken a0_fars a0_before a0_tape a0_pile a0_rows a0_told a0_values a0_truth a0_keeps v0) H → va_D A (WS_X12_nextToken cI cJ cZ cY a0 a0_a a0_image a0_texts a0_board a0_taken a0_fars a0_before a0_tape a0_pile a0_rows a0_told a0_values a0_truth a0_keeps v0) → va_S A s.heap H locs → lv_has ls 3 [(0, .ref a0), (1, .int x1)] → f_X12_nextToken_b327 x1 v0 = some res → W p l e rm_X12_nextToken s m args below meth c H locs 0 0 Q (F0 m 327 ls []) := by
    intro x1 v0 H locs ls hP hD hS hl hg
    unfold f_X12_nextToken_b327 at hg
    refine lv_iconst (v := 1) hx hb dX12_nextToken_327 (by decide) ?_
    refine lv_goto (tgt := 332) hx hb dX12_nextToken_328 (by decide) ?_
    exact b_332 x1 1 v0 H locs ls hP hD hS (lv_sub hl [0, 1] rfl) hg
  have b_210 : ∀ (J161 : (BX12) → Option (BX12)) (hJ161 : ∀ (v0 : BX12) (H : Heap) (locs : List Loc) (ls : Array Slot), va_P D vwCl (WS_X12_nextToken cI cJ cZ cY a0 a0_a a0_image a0_texts a0_board a0_taken a0_fars a0_before a0_tape a0_pile a0_rows a0_told a0_values a0_truth a0_keeps v0) H → va_D A (WS_X12_nextToken cI cJ cZ cY a0 a0_a a0_image a0_texts a0_board a0_taken a0_fars a0_before a0_tape a0_pile a0_rows a0_told a0_values a0_truth a0_keeps v0) → va_S A s.heap H locs → lv_has ls 3 [(0, .ref a0)] → J161 (v0) = some res → W p l e rm_X12_nextToken s m args below meth c H locs 0 0 Q (F0 m 161 ls [])), ∀ (v0 : BX12) (H : Heap) (locs : List Loc) (ls : Array Slot), va_P D vwCl (WS_X12_nextToken cI cJ cZ cY a0 a0_a a0_image a0_texts a0_board a0_taken a0_fars a0_before a0_tape a0_pile a0_rows a0_told a0_values a0_truth a0_keeps v0) H → va_D A (WS_X12_nextToken cI cJ cZ cY a0 a0_a a0_image a0_texts a0_board a0_taken a0_fars a0_before a0_tape a0_pile a0_rows a0_told a0_values a0_truth a0_keeps v0) → va_S A s.heap H locs → lv_has ls 3 [(0, .ref a0)] → f_X12_nextToken_b210 J161 v0 = some res → W p l e rm_X12_nextToken s m args below meth c H locs 0 0 Q (F0 m 210 ls []) := by
    intro J161 hJ161 v0 H locs ls hP hD hS hl hg
    unfold f_X12_nextToken_b210 at hg
    refine lv_aload_n hx hb dX12_nextToken_210 rfl (lv_at hl 0 rfl) ?_
    refine lv_dup hx hb dX12_nextToken_211 rfl ?_
    refine va_get (ci := 11) (v := .int (pX12_at v0)) (C := RX12) (T := TX12) (N := 43) hx hb htb uX12 hown hK.1 hP 0 rfl rfl 13 (by decide) (htb _ tg_949) (fun _ h9 => h9) rfl dX12_nextToken_212 ?_
    refine lv_iconst (v := 1) hx hb dX12_nextToken_215 (by decide) ?_
    refine lv_iadd hx hb dX12_nextToken_216 ?_
    refine lv_topi (fun x_11 ex_11 => ?_)
    have hg := g_lte hg x_11 ex_11
    refine va_put (ci := 11) (v := .int x_11) (ty := .int) (C := RX12) (T := TX12) (N := 43) hx hb htb uX12 tyX12 tyX12_ok nmX12 hown hK.1 hP hD hS 0 rfl rfl 13 (by decide) (htb _ tg_949) (fun _ h9 => h9) rfl (by decide +kernel) rfl rfl (Nat.le_of_ble_eq_true rfl) dX12_nextToken_217 (fun H locs hP hD hS => ?_)
    obtain ⟨v0_12, ev0_12⟩ : ∃ z, z = sX12_at v0 x_11 := ⟨_, rfl⟩
    have hP : va_P D vwCl (WS_X12_nextToken cI cJ cZ cY a0 a0_a a0_image a0_texts a0_board a0_taken a0_fars a0_before a0_tape a0_pile a0_rows a0_told a0_values a0_truth a0_keeps v0_12) H := by rw [ev0_12]; exact hP
    have hD : va_D A (WS_X12_nextToken cI cJ cZ cY a0 a0_a a0_image a0_texts a0_board a0_taken a0_fars a0_before a0_tape a0_pile a0_rows a0_told a0_values a0_truth a0_keeps v0_12) := by rw [ev0_12]; exact hD
    have hg := g_lte hg v0_12 ev0_12
    refine lv_goto (tgt := 161) hx hb dX12_nextToken_220 (by decide) ?_
    exact hJ161 v0_12 H locs ls hP hD hS (lv_sub hl [0] rfl) hg
  have b_161 : ∀ (n : Nat), ∀ (v0 : BX12) (H : Heap) (locs : List Loc) (ls : Array Slot), va_P D vwCl (WS_X12_nextToken cI cJ cZ cY a0 a0_a a0_image a0_texts a0_board a0_taken a0_fars a0_before a0_tape a0_pile a0_rows a0_told a0_values a0_truth a0_keeps v0) H → va_D A (WS_X12_nextToken cI cJ cZ cY a0 a0_a a0_image a0_texts a0_board a0_taken a0_fars a0_before a0_tape a0_pile a0_rows a0_told a0_values a0_truth a0_keeps v0) → va_S A s.heap H locs → lv_has ls 3 [(0, .ref a0)] → f_X12_nextToken_b161 n (v0) = some res → W p l e rm_X12_nextToken s m args below meth c H locs 0 0 Q (F0 m 161 ls []) := by
    intro n
    induction n with
    | zero =>
      intro v0 H locs ls hP hD hS hl hg
      exact (g_lp0 hg).elim
    | succ n ih =>
      intro v0 H locs ls hP hD hS hl hg
      have hg : f_X12_nextToken_b161B (f_X12_nextToken_b161 n) v0 = some res := hg
      unfold f_X12_nextToken_b161B at hg
      refine lv_aload_n hx hb dX12_nextToken_161 rfl (lv_at hl 0 rfl) ?_
      refine lv_aload_n hx hb dX12_nextToken_162 rfl (lv_at hl 0 rfl) ?_
      refine va_get (ci := 11) (v := .int (pX12_at v0)) (C := RX12) (T := TX12) (N := 43) hx hb htb uX12 hown hK.1 hP 0 rfl rfl 13 (by decide) (htb _ tg_949) (fun _ h9 => h9) rfl dX12_nextToken_163 ?_
      obtain ⟨r_13, hr_13, hg⟩ := g_bd hg
      refine cc_i (va_runV (C := RX12) (As := [.int (pX12_at v0)]) (rest := []) ⟨hx, hb, hml, hown, htb⟩ (k_X12_see a0 a0_a a0_image a0_texts a0_board a0_taken a0_fars a0_before a0_tape a0_pile a0_rows a0_told a0_values a0_truth a0_keeps v0 (pX12_at v0) r_13 hr_13) (cw_V 1 htb tg_1208 tg_13 tg_1205 tg_1207 ts_43 rfl rfl (by decide +kernel) ⟨Nat.le_of_ble_eq_true rfl, Nat.le_of_ble_eq_true rfl⟩) ⟨PC.blind, va_recv hK.1 hP (ci := 11) (q0 := 0) rfl rfl, PC.pre hK hT hP hD hS hA [0, 1, 2, 3, 4, 5, 6, 7, 8, 9, 10, 11, 12, 13, 14] rfl (by decide)⟩ rfl rfl hl.1 rfl (lv_room (Nat.le_of_ble_eq_true rfl)) dX12_nextToken_166 ⟨Nat.le_of_ble_eq_true rfl, Nat.le_of_ble_eq_true rfl⟩) hP hD hS hA [0, 1, 2, 3, 4, 5, 6, 7, 8, 9, 10, 11, 12, 13, 14] [] rfl rfl (by decide) (by decide) (fun r9 u9 H locs hw hP hD hS => ?_)
      have hw := hw.symm
      subst hw
      have hP : va_P D vwCl (WS_X12_nextToken cI cJ cZ cY a0 a0_a a0_image a0_texts a0_board a0_taken a0_fars a0_before a0_tape a0_pile a0_rows a0_told a0_values a0_truth a0_keeps v0) H := hP.sub [0, 1, 2, 3, 4, 5, 6, 7, 8, 9, 10, 11, 12, 13, 14] rfl
      have hD : va_D A (WS_X12_nextToken cI cJ cZ cY a0 a0_a a0_image a0_texts a0_board a0_taken a0_fars a0_before a0_tape a0_pile a0_rows a0_told a0_values a0_truth a0_keeps v0) := hD.sub [0, 1, 2, 3, 4, 5, 6, 7, 8, 9, 10, 11, 12, 13, 14] (by decide) rfl
      obtain ⟨r_14, hr_14, hg⟩ := g_bd hg
      refine cc_i (va_runS (As := [.int r_13]) (rest := []) ⟨hx, hb, hml, hown, htb⟩ (k_X12_isLetter r_13 r_14 hr_14) (cw_S 1 htb tg_1215 tg_13 tg_1213 tg_1214 rfl rfl (by decide +kernel) ⟨Nat.le_of_ble_eq_true rfl, Nat.le_of_ble_eq_true rfl⟩) ⟨PC.blind, PC.pre hK hT hP hD hS hA [] rfl (by decide)⟩ rfl rfl hl.1 rfl (lv_room (Nat.le_of_ble_eq_true rfl)) dX12_nextToken_169 ⟨Nat.le_of_ble_eq_true rfl, Nat.le_of_ble_eq_true rfl⟩) hP hD hS hA [] [0, 1, 2, 3, 4, 5, 6, 7, 8, 9, 10, 11, 12, 13, 14] rfl rfl (by decide) (by decide) (fun r9 u9 H locs hw hP hD hS => ?_)
      have hw := hw.symm
      subst hw
      have hP : va_P D vwCl (WS_X12_nextToken cI cJ cZ cY a0 a0_a a0_image a0_texts a0_board a0_taken a0_fars a0_before a0_tape a0_pile a0_rows a0_told a0_values a0_truth a0_keeps v0) H := hP.sub [0, 1, 2, 3, 4, 5, 6, 7, 8, 9, 10, 11, 12, 13, 14] rfl
      have hD : va_D A (WS_X12_nextToken cI cJ cZ cY a0 a0_a a0_image a0_texts a0_board a0_taken a0_fars a0_before a0_tape a0_pile a0_rows a0_told a0_values a0_truth a0_keeps v0) := hD.sub [0, 1, 2, 3, 4, 5, 6, 7, 8, 9, 10, 11, 12, 13, 14] (by decide) rfl
      refine lv_if_eq (tgt := 223) hx hb dX12_nextToken_172 (by decide) (fun c_15 => ?_) (fun c_15 => ?_)
      · have hg := g_it hg c_15
        refine lv_aload_n hx hb dX12_nextToken_223 rfl (lv_at hl 0 rfl) ?_
        refine va_get (ci := 11) (v := .int (pX12_at v0)) (C := RX12) (T := TX12) (N := 43) hx hb htb uX12 hown hK.1 hP 0 rfl rfl 13 (by decide) (htb _ tg_949) (fun _ h9 => h9) rfl dX12_nextToken_224 ?_
        refine lv_aload_n hx hb dX12_nextToken_227 rfl (lv_at hl 0 rfl) ?_
        refine va_get (ci := 11) (v := .int (pX12_place v0)) (C := RX12) (T := TX12) (N := 43) hx hb htb uX12 hown hK.1 hP 0 rfl rfl 14 (by decide) (htb _ tg_950) (fun _ h9 => h9) rfl dX12_nextToken_228 ?_
        refine lv_isub hx hb dX12_nextToken_231 ?_
        refine lv_bipush (v := 6) hx hb dX12_nextToken_232 (by decide) ?_
        refine lv_icmp_le (tgt := 396) hx hb dX12_nextToken_234 (by decide) (fun c_16 => ?_) (fun c_16 => ?_)
        · have hg := g_it hg c_16
          have hg := Option.some.inj hg
          rw [hQ]
          exact W.vret hx hb hr (fun t ht hW => ⟨⟨(v0), rfl, hg, by rw [ht]; exact hP, hD⟩, hS.F ht⟩) hS.2.2 dX12_nextToken_396
        · have hg := g_if hg c_16
          refine lv_aload_n hx hb dX12_nextToken_237 rfl (lv_at hl 0 rfl) ?_
          refine lv_lconst (v := 0) hx hb dX12_nextToken_238 (by decide) ?_
          refine va_put (ci := 11) (v := .long 0) (ty := .long) (C := RX12) (T := TX12) (N := 43) hx hb htb uX12 tyX12 tyX12_ok nmX12 hown hK.1 hP hD hS 0 rfl rfl 17 (by decide) (htb _ tg_953) (fun _ h9 => h9) rfl (by decide +kernel) rfl rfl (Nat.le_of_ble_eq_true rfl) dX12_nextToken_239 (fun H locs hP hD hS => ?_)
          obtain ⟨v0_17, ev0_17⟩ : ∃ z, z = sX12_word v0 0 := ⟨_, rfl⟩
          have hP : va_P D vwCl (WS_X12_nextToken cI cJ cZ cY a0 a0_a a0_image a0_texts a0_board a0_taken a0_fars a0_before a0_tape a0_pile a0_rows a0_told a0_values a0_truth a0_keeps v0_17) H := by rw [ev0_17]; exact hP
          have hD : va_D A (WS_X12_nextToken cI cJ cZ cY a0 a0_a a0_image a0_texts a0_board a0_taken a0_fars a0_before a0_tape a0_pile a0_rows a0_told a0_values a0_truth a0_keeps v0_17) := by rw [ev0_17]; exact hD
          have hg := g_lte hg v0_17 ev0_17
          refine lv_goto (tgt := 396) hx hb dX12_nextToken_242 (by decide) ?_
          have hg := Option.some.inj hg
          rw [hQ]
          exact W.vret hx hb hr (fun t ht hW => ⟨⟨(v0_17), rfl, hg, by rw [ht]; exact hP, hD⟩, hS.F ht⟩) hS.2.2 dX12_nextToken_396
      · have hg := g_if hg c_15
        refine lv_aload_n hx hb dX12_nextToken_175 rfl (lv_at hl 0 rfl) ?_
        refine va_get (ci := 11) (v := .int (pX12_at v0)) (C := RX12) (T := TX12) (N := 43) hx hb htb uX12 hown hK.1 hP 0 rfl rfl 13 (by decide) (htb _ tg_949) (fun _ h9 => h9) rfl dX12_nextToken_176 ?_
        refine lv_aload_n hx hb dX12_nextToken_179 rfl (lv_at hl 0 rfl) ?_
        refine va_get (ci := 11) (v := .int (pX12_place v0)) (C := RX12) (T := TX12) (N := 43) hx hb htb uX12 hown hK.1 hP 0 rfl rfl 14 (by decide) (htb _ tg_950) (fun _ h9 => h9) rfl dX12_nextToken_180 ?_
        refine lv_isub hx hb dX12_nextToken_183 ?_
        refine lv_bipush (v := 6) hx hb dX12_nextToken_184 (by decide) ?_
        refine lv_icmp_ge (tgt := 210) hx hb dX12_nextToken_186 (by decide) (fun c_18 => ?_) (fun c_18 => ?_)
        · have hg := g_it hg c_18
          exact b_210 (f_X12_nextToken_b161 n) ih v0 H locs ls hP hD hS (lv_sub hl [0] rfl) hg
        · have hg := g_if hg c_18
          refine lv_aload_n hx hb dX12_nextToken_189 rfl (lv_at hl 0 rfl) ?_
          refine lv_aload_n hx hb dX12_nextToken_190 rfl (lv_at hl 0 rfl) ?_
          refine va_get (ci := 11) (v := .long (pX12_word v0)) (C := RX12) (T := TX12) (N := 43) hx hb htb uX12 hown hK.1 hP 0 rfl rfl 17 (by decide) (htb _ tg_953) (fun _ h9 => h9) rfl dX12_nextToken_191 ?_
          refine lv_bipush (v := 8) hx hb dX12_nextToken_194 (by decide) ?_
          refine lv_lshl (v := ((pX12_word v0) : Int64) <<< ((8 : Int32).toInt64 &&& 63)) hx hb dX12_nextToken_196 rfl ?_
          refine lv_aload_n hx hb dX12_nextToken_197 rfl (lv_at hl 0 rfl) ?_
          refine lv_aload_n hx hb dX12_nextToken_198 rfl (lv_at hl 0 rfl) ?_
          refine va_get (ci := 11) (v := .int (pX12_at v0)) (C := RX12) (T := TX12) (N := 43) hx hb htb uX12 hown hK.1 hP 0 rfl rfl 13 (by decide) (htb _ tg_949) (fun _ h9 => h9) rfl dX12_nextToken_199 ?_
          obtain ⟨r_19, hr_19, hg⟩ := g_bd hg
          refine cc_i (va_runV (C := RX12) (As := [.int (pX12_at v0)]) (rest := [.long (((pX12_word v0) : Int64) <<< ((8 : Int32).toInt64 &&& 63)), .ref a0]) ⟨hx, hb, hml, hown, htb⟩ (k_X12_see a0 a0_a a0_image a0_texts a0_board a0_taken a0_fars a0_before a0_tape a0_pile a0_rows a0_told a0_values a0_truth a0_keeps v0 (pX12_at v0) r_19 hr_19) (cw_V 1 htb tg_1208 tg_13 tg_1205 tg_1207 ts_43 rfl rfl (by decide +kernel) ⟨Nat.le_of_ble_eq_true rfl, Nat.le_of_ble_eq_true rfl⟩) ⟨PC.blind, va_recv hK.1 hP (ci := 11) (q0 := 0) rfl rfl, PC.pre hK hT hP hD hS hA [0, 1, 2, 3, 4, 5, 6, 7, 8, 9, 10, 11, 12, 13, 14] rfl (by decide)⟩ rfl rfl hl.1 rfl (lv_room (Nat.le_of_ble_eq_true rfl)) dX12_nextToken_202 ⟨Nat.le_of_ble_eq_true rfl, Nat.le_of_ble_eq_true rfl⟩) hP hD hS hA [0, 1, 2, 3, 4, 5, 6, 7, 8, 9, 10, 11, 12, 13, 14] [] rfl rfl (by decide) (by decide) (fun r9 u9 H locs hw hP hD hS => ?_)
          have hw := hw.symm
          subst hw
          have hP : va_P D vwCl (WS_X12_nextToken cI cJ cZ cY a0 a0_a a0_image a0_texts a0_board a0_taken a0_fars a0_before a0_tape a0_pile a0_rows a0_told a0_values a0_truth a0_keeps v0) H := hP.sub [0, 1, 2, 3, 4, 5, 6, 7, 8, 9, 10, 11, 12, 13, 14] rfl
          have hD : va_D A (WS_X12_nextToken cI cJ cZ cY a0 a0_a a0_image a0_texts a0_board a0_taken a0_fars a0_before a0_tape a0_pile a0_rows a0_told a0_values a0_truth a0_keeps v0) := hD.sub [0, 1, 2, 3, 4, 5, 6, 7, 8, 9, 10, 11, 12, 13, 14] (by decide) rfl
          refine lv_i2l (v := (r_19 : Int32).toInt64) hx hb dX12_nextToken_205 rfl ?_
          refine lv_lor hx hb dX12_nextToken_206 ?_
          refine lv_topl (fun x_20 ex_20 => ?_)
          have hg := g_lte hg x_20 ex_20
          refine va_put (ci := 11) (v := .long x_20) (ty := .long) (C := RX12) (T := TX12) (N := 43) hx hb htb uX12 tyX12 tyX12_ok nmX12 hown hK.1 hP hD hS 0 rfl rfl 17 (by decide) (htb _ tg_953) (fun _ h9 => h9) rfl (by decide +kernel) rfl rfl (Nat.le_of_ble_eq_true rfl) dX12_nextToken_207 (fun H locs hP hD hS => ?_)
          obtain ⟨v0_21, ev0_21⟩ : ∃ z, z = sX12_word v0 x_20 := ⟨_, rfl⟩
          have hP : va_P D vwCl (WS_X12_nextToken cI cJ cZ cY a0 a0_a a0_image a0_texts a0_board a0_taken a0_fars a0_before a0_tape a0_pile a0_rows a0_told a0_values a0_truth a0_keeps v0_21) H := by rw [ev0_21]; exact hP
          have hD : va_D A (WS_X12_nextToken cI cJ cZ cY a0 a0_a a0_image a0_texts a0_board a0_taken a0_fars a0_before a0_tape a0_pile a0_rows a0_told a0_values a0_truth a0_keeps v0_21) := by rw [ev0_21]; exact hD
          have hg := g_lte hg v0_21 ev0_21
          exact b_210 (f_X12_nextToken_b161 n) ih v0_21 H locs ls hP hD hS (lv_sub hl [0] rfl) hg
  have b_131 : ∀ (J85 : (BX12) → Option (BX12)) (hJ85 : ∀ (v0 : BX12) (H : Heap) (locs : List Loc) (ls : Array Slot), va_P D vwCl (WS_X12_nextToken cI cJ cZ cY a0 a0_a a0_image a0_texts a0_board a0_taken a0_fars a0_before a0_tape a0_pile a0_rows a0_told a0_values a0_truth a0_keeps v0) H → va_D A (WS_X12_nextToken cI cJ cZ cY a0 a0_a a0_image a0_texts a0_board a0_taken a0_fars a0_before a0_tape a0_pile a0_rows a0_told a0_values a0_truth a0_keeps v0) → va_S A s.heap H locs → lv_has ls 3 [(0, .ref a0)] → J85 (v0) = some res → W p l e rm_X12_nextToken s m args below meth c H locs 0 0 Q (F0 m 85 ls [])), ∀ (v0 : BX12) (H : Heap) (locs : List Loc) (ls : Array Slot), va_P D vwCl (WS_X12_nextToken cI cJ cZ cY a0 a0_a a0_image a0_texts a0_board a0_taken a0_fars a0_before a0_tape a0_pile a0_rows a0_told a0_values a0_truth a0_keeps v0) H → va_D A (WS_X12_nextToken cI cJ cZ cY a0 a0_a a0_image a0_texts a0_board a0_taken a0_fars a0_before a0_tape a0_pile a0_rows a0_told a0_values a0_truth a0_keeps v0) → va_S A s.heap H locs → lv_has ls 3 [(0, .ref a0)] → f_X12_nextToken_b131 J85 v0 = some res → W p l e rm_X12_nextToken s m args below meth c H locs 0 0 Q (F0 m 131 ls []) := by
    intro J85 hJ85 v0 H locs ls hP hD hS hl hg
    unfold f_X12_nextToken_b131 at hg
    refine lv_aload_n hx hb dX12_nextToken_131 rfl (lv_at hl 0 rfl) ?_
    refine lv_dup hx hb dX12_nextToken_132 rfl ?_
    refine va_get (ci := 11) (v := .int (pX12_at v0)) (C := RX12) (T := TX12) (N := 43) hx hb htb uX12 hown hK.1 hP 0 rfl rfl 13 (by decide) (htb _ tg_949) (fun _ h9 => h9) rfl dX12_nextToken_133 ?_
    refine lv_iconst (v := 1) hx hb dX12_nextToken_136 (by decide) ?_
    refine lv_iadd hx hb dX12_nextToken_137 ?_
    refine lv_topi (fun x_22 ex_22 => ?_)
    have hg := g_lte hg x_22 ex_22
    refine va_put (ci := 11) (v := .int x_22) (ty := .int) (C := RX12) (T := TX12) (N := 43) hx hb htb uX12 tyX12 tyX12_ok nmX12 hown hK.1 hP hD hS 0 rfl rfl 13 (by decide) (htb _ tg_949) (fun _ h9 => h9) rfl (by decide +kernel) rfl rfl (Nat.le_of_ble_eq_true rfl) dX12_nextToken_138 (fun H locs hP hD hS => ?_)
    obtain ⟨v0_23, ev0_23⟩ : ∃ z, z = sX12_at v0 x_22 := ⟨_, rfl⟩
    have hP : va_P D vwCl (WS_X12_nextToken cI cJ cZ cY a0 a0_a a0_image a0_texts a0_board a0_taken a0_fars a0_before a0_tape a0_pile a0_rows a0_told a0_values a0_truth a0_keeps v0_23) H := by rw [ev0_23]; exact hP
    have hD : va_D A (WS_X12_nextToken cI cJ cZ cY a0 a0_a a0_image a0_texts a0_board a0_taken a0_fars a0_before a0_tape a0_pile a0_rows a0_told a0_values a0_truth a0_keeps v0_23) := by rw [ev0_23]; exact hD
    have hg := g_lte hg v0_23 ev0_23
    refine lv_goto (tgt := 85) hx hb dX12_nextToken_141 (by decide) ?_
    exact hJ85 v0_23 H locs ls hP hD hS (lv_sub hl [0] rfl) hg
  have b_85 : ∀ (n : Nat), ∀ (v0 : BX12) (H : Heap) (locs : List Loc) (ls : Array Slot), va_P D vwCl (WS_X12_nextToken cI cJ cZ cY a0 a0_a a0_image a0_texts a0_board a0_taken a0_fars a0_before a0_tape a0_pile a0_rows a0_told a0_values a0_truth a0_keeps v0) H → va_D A (WS_X12_nextToken cI cJ cZ cY a0 a0_a a0_image a0_texts a0_board a0_taken a0_fars a0_before a0_tape a0_pile a0_rows a0_told a0_values a0_truth a0_keeps v0) → va_S A s.heap H locs → lv_has ls 3 [(0, .ref a0)] → f_X12_nextToken_b85 n (v0) = some res → W p l e rm_X12_nextToken s m args below meth c H locs 0 0 Q (F0 m 85 ls []) := by
    intro n
    induction n with
    | zero =>
      intro v0 H locs ls hP hD hS hl hg
      exact (g_lp0 hg).elim
    | succ n ih =>
      intro v0 H locs ls hP hD hS hl hg
      have hg : f_X12_nextToken_b85B (f_X12_nextToken_b85 n) v0 = some res := hg
      unfold f_X12_nextToken_b85B at hg
      refine lv_aload_n hx hb dX12_nextToken_85 rfl (lv_at hl 0 rfl) ?_
      refine lv_aload_n hx hb dX12_nextToken_86 rfl (lv_at hl 0 rfl) ?_
      refine va_get (ci := 11) (v := .int (pX12_at v0)) (C := RX12) (T := TX12) (N := 43) hx hb htb uX12 hown hK.1 hP 0 rfl rfl 13 (by decide) (htb _ tg_949) (fun _ h9 => h9) rfl dX12_nextToken_87 ?_
      obtain ⟨r_24, hr_24, hg⟩ := g_bd hg
      refine cc_i (va_runV (C := RX12) (As := [.int (pX12_at v0)]) (rest := []) ⟨hx, hb, hml, hown, htb⟩ (k_X12_see a0 a0_a a0_image a0_texts a0_board a0_taken a0_fars a0_before a0_tape a0_pile a0_rows a0_told a0_values a0_truth a0_keeps v0 (pX12_at v0) r_24 hr_24) (cw_V 1 htb tg_1208 tg_13 tg_1205 tg_1207 ts_43 rfl rfl (by decide +kernel) ⟨Nat.le_of_ble_eq_true rfl, Nat.le_of_ble_eq_true rfl⟩) ⟨PC.blind, va_recv hK.1 hP (ci := 11) (q0 := 0) rfl rfl, PC.pre hK hT hP hD hS hA [0, 1, 2, 3, 4, 5, 6, 7, 8, 9, 10, 11, 12, 13, 14] rfl (by decide)⟩ rfl rfl hl.1 rfl (lv_room (Nat.le_of_ble_eq_true rfl)) dX12_nextToken_90 ⟨Nat.le_of_ble_eq_true rfl, Nat.le_of_ble_eq_true rfl⟩) hP hD hS hA [0, 1, 2, 3, 4, 5, 6, 7, 8, 9, 10, 11, 12, 13, 14] [] rfl rfl (by decide) (by decide) (fun r9 u9 H locs hw hP hD hS => ?_)
      have hw := hw.symm
      subst hw
      have hP : va_P D vwCl (WS_X12_nextToken cI cJ cZ cY a0 a0_a a0_image a0_texts a0_board a0_taken a0_fars a0_before a0_tape a0_pile a0_rows a0_told a0_values a0_truth a0_keeps v0) H := hP.sub [0, 1, 2, 3, 4, 5, 6, 7, 8, 9, 10, 11, 12, 13, 14] rfl
      have hD : va_D A (WS_X12_nextToken cI cJ cZ cY a0 a0_a a0_image a0_texts a0_board a0_taken a0_fars a0_before a0_tape a0_pile a0_rows a0_told a0_values a0_truth a0_keeps v0) := hD.sub [0, 1, 2, 3, 4, 5, 6, 7, 8, 9, 10, 11, 12, 13, 14] (by decide) rfl
      obtain ⟨r_25, hr_25, hg⟩ := g_bd hg
      refine cc_i (va_runS (As := [.int r_24]) (rest := []) ⟨hx, hb, hml, hown, htb⟩ (k_X12_isDigit r_24 r_25 hr_25) (cw_S 1 htb tg_1211 tg_13 tg_1209 tg_1210 rfl rfl (by decide +kernel) ⟨Nat.le_of_ble_eq_true rfl, Nat.le_of_ble_eq_true rfl⟩) ⟨PC.blind, PC.pre hK hT hP hD hS hA [] rfl (by decide)⟩ rfl rfl hl.1 rfl (lv_room (Nat.le_of_ble_eq_true rfl)) dX12_nextToken_93 ⟨Nat.le_of_ble_eq_true rfl, Nat.le_of_ble_eq_true rfl⟩) hP hD hS hA [] [0, 1, 2, 3, 4, 5, 6, 7, 8, 9, 10, 11, 12, 13, 14] rfl rfl (by decide) (by decide) (fun r9 u9 H locs hw hP hD hS => ?_)
      have hw := hw.symm
      subst hw
      have hP : va_P D vwCl (WS_X12_nextToken cI cJ cZ cY a0 a0_a a0_image a0_texts a0_board a0_taken a0_fars a0_before a0_tape a0_pile a0_rows a0_told a0_values a0_truth a0_keeps v0) H := hP.sub [0, 1, 2, 3, 4, 5, 6, 7, 8, 9, 10, 11, 12, 13, 14] rfl
      have hD : va_D A (WS_X12_nextToken cI cJ cZ cY a0 a0_a a0_image a0_texts a0_board a0_taken a0_fars a0_before a0_tape a0_pile a0_rows a0_told a0_values a0_truth a0_keeps v0) := hD.sub [0, 1, 2, 3, 4, 5, 6, 7, 8, 9, 10, 11, 12, 13, 14] (by decide) rfl
      refine lv_if_eq (tgt := 396) hx hb dX12_nextToken_96 (by decide) (fun c_26 => ?_) (fun c_26 => ?_)
      · have hg := g_it hg c_26
        have hg := Option.some.inj hg
        rw [hQ]
        exact W.vret hx hb hr (fun t ht hW => ⟨⟨(v0), rfl, hg, by rw [ht]; exact hP, hD⟩, hS.F ht⟩) hS.2.2 dX12_nextToken_396
      · have hg := g_if hg c_26
        refine lv_aload_n hx hb dX12_nextToken_99 rfl (lv_at hl 0 rfl) ?_
        refine va_get (ci := 11) (v := .int (pX12_number v0)) (C := RX12) (T := TX12) (N := 43) hx hb htb uX12 hown hK.1 hP 0 rfl rfl 16 (by decide) (htb _ tg_952) (fun _ h9 => h9) rfl dX12_nextToken_100 ?_
        refine lv_ldc (v := 100000) hx hb hown (htb _ tg_1212) dX12_nextToken_103 ?_
        refine lv_icmp_ge (tgt := 131) hx hb dX12_nextToken_105 (by decide) (fun c_27 => ?_) (fun c_27 => ?_)
        · have hg := g_it hg c_27
          exact b_131 (f_X12_nextToken_b85 n) ih v0 H locs ls hP hD hS (lv_sub hl [0] rfl) hg
        · have hg := g_if hg c_27
          refine lv_aload_n hx hb dX12_nextToken_108 rfl (lv_at hl 0 rfl) ?_
          refine lv_bipush (v := 10) hx hb dX12_nextToken_109 (by decide) ?_
          refine lv_aload_n hx hb dX12_nextToken_111 rfl (lv_at hl 0 rfl) ?_
          refine va_get (ci := 11) (v := .int (pX12_number v0)) (C := RX12) (T := TX12) (N := 43) hx hb htb uX12 hown hK.1 hP 0 rfl rfl 16 (by decide) (htb _ tg_952) (fun _ h9 => h9) rfl dX12_nextToken_112 ?_
          refine lv_imul hx hb dX12_nextToken_115 ?_
          refine lv_aload_n hx hb dX12_nextToken_116 rfl (lv_at hl 0 rfl) ?_
          refine lv_aload_n hx hb dX12_nextToken_117 rfl (lv_at hl 0 rfl) ?_
          refine va_get (ci := 11) (v := .int (pX12_at v0)) (C := RX12) (T := TX12) (N := 43) hx hb htb uX12 hown hK.1 hP 0 rfl rfl 13 (by decide) (htb _ tg_949) (fun _ h9 => h9) rfl dX12_nextToken_118 ?_
          obtain ⟨r_28, hr_28, hg⟩ := g_bd hg
          refine cc_i (va_runV (C := RX12) (As := [.int (pX12_at v0)]) (rest := [.int ((10 : Int32) * (pX12_number v0)), .ref a0]) ⟨hx, hb, hml, hown, htb⟩ (k_X12_see a0 a0_a a0_image a0_texts a0_board a0_taken a0_fars a0_before a0_tape a0_pile a0_rows a0_told a0_values a0_truth a0_keeps v0 (pX12_at v0) r_28 hr_28) (cw_V 1 htb tg_1208 tg_13 tg_1205 tg_1207 ts_43 rfl rfl (by decide +kernel) ⟨Nat.le_of_ble_eq_true rfl, Nat.le_of_ble_eq_true rfl⟩) ⟨PC.blind, va_recv hK.1 hP (ci := 11) (q0 := 0) rfl rfl, PC.pre hK hT hP hD hS hA [0, 1, 2, 3, 4, 5, 6, 7, 8, 9, 10, 11, 12, 13, 14] rfl (by decide)⟩ rfl rfl hl.1 rfl (lv_room (Nat.le_of_ble_eq_true rfl)) dX12_nextToken_121 ⟨Nat.le_of_ble_eq_true rfl, Nat.le_of_ble_eq_true rfl⟩) hP hD hS hA [0, 1, 2, 3, 4, 5, 6, 7, 8, 9, 10, 11, 12, 13, 14] [] rfl rfl (by decide) (by decide) (fun r9 u9 H locs hw hP hD hS => ?_)
          have hw := hw.symm
          subst hw
          have hP : va_P D vwCl (WS_X12_nextToken cI cJ cZ cY a0 a0_a a0_image a0_texts a0_board a0_taken a0_fars a0_before a0_tape a0_pile a0_rows a0_told a0_values a0_truth a0_keeps v0) H := hP.sub [0, 1, 2, 3, 4, 5, 6, 7, 8, 9, 10, 11, 12, 13, 14] rfl
          have hD : va_D A (WS_X12_nextToken cI cJ cZ cY a0 a0_a a0_image a0_texts a0_board a0_taken a0_fars a0_before a0_tape a0_pile a0_rows a0_told a0_values a0_truth a0_keeps v0) := hD.sub [0, 1, 2, 3, 4, 5, 6, 7, 8, 9, 10, 11, 12, 13, 14] (by decide) rfl
          refine lv_iadd hx hb dX12_nextToken_124 ?_
          refine lv_bipush (v := 48) hx hb dX12_nextToken_125 (by decide) ?_
          refine lv_isub hx hb dX12_nextToken_127 ?_
          refine lv_topi (fun x_29 ex_29 => ?_)
          have hg := g_lte hg x_29 ex_29
          refine va_put (ci := 11) (v := .int x_29) (ty := .int) (C := RX12) (T := TX12) (N := 43) hx hb htb uX12 tyX12 tyX12_ok nmX12 hown hK.1 hP hD hS 0 rfl rfl 16 (by decide) (htb _ tg_952) (fun _ h9 => h9) rfl (by decide +kernel) rfl rfl (Nat.le_of_ble_eq_true rfl) dX12_nextToken_128 (fun H locs hP hD hS => ?_)
          obtain ⟨v0_30, ev0_30⟩ : ∃ z, z = sX12_number v0 x_29 := ⟨_, rfl⟩
          have hP : va_P D vwCl (WS_X12_nextToken cI cJ cZ cY a0 a0_a a0_image a0_texts a0_board a0_taken a0_fars a0_before a0_tape a0_pile a0_rows a0_told a0_values a0_truth a0_keeps v0_30) H := by rw [ev0_30]; exact hP
          have hD : va_D A (WS_X12_nextToken cI cJ cZ cY a0 a0_a a0_image a0_texts a0_board a0_taken a0_fars a0_before a0_tape a0_pile a0_rows a0_told a0_values a0_truth a0_keeps v0_30) := by rw [ev0_30]; exact hD
          have hg := g_lte hg v0_30 ev0_30
          exact b_131 (f_X12_nextToken_b85 n) ih v0_30 H locs ls hP hD hS (lv_sub hl [0] rfl) hg
  have b_26 : ∀ (J0 : (BX12) → Option (BX12)) (hJ0 : ∀ (v0 : BX12) (H : Heap) (locs : List Loc) (ls : Array Slot), va_P D vwCl (WS_X12_nextToken cI cJ cZ cY a0 a0_a a0_image a0_texts a0_board a0_taken a0_fars a0_before a0_tape a0_pile a0_rows a0_told a0_values a0_truth a0_keeps v0) H → va_D A (WS_X12_nextToken cI cJ cZ cY a0 a0_a a0_image a0_texts a0_board a0_taken a0_fars a0_before a0_tape a0_pile a0_rows a0_told a0_values a0_truth a0_keeps v0) → va_S A s.heap H locs → lv_has ls 3 [(0, .ref a0)] → J0 (v0) = some res → W p l e rm_X12_nextToken s m args below meth c H locs 0 0 Q (F0 m 0 ls [])), ∀ (v0 : BX12) (H : Heap) (locs : List Loc) (ls : Array Slot), va_P D vwCl (WS_X12_nextToken cI cJ cZ cY a0 a0_a a0_image a0_texts a0_board a0_taken a0_fars a0_before a0_tape a0_pile a0_rows a0_told a0_values a0_truth a0_keeps v0) H → va_D A (WS_X12_nextToken cI cJ cZ cY a0 a0_a a0_image a0_texts a0_board a0_taken a0_fars a0_before a0_tape a0_pile a0_rows a0_told a0_values a0_truth a0_keeps v0) → va_S A s.heap H locs → lv_has ls 3 [(0, .ref a0)] → f_X12_nextToken_b26 J0 v0 = some res → W p l e rm_X12_nextToken s m args below meth c H locs 0 0 Q (F0 m 26 ls []) := by
    intro J0 hJ0 v0 H locs ls hP hD hS hl hg
    unfold f_X12_nextToken_b26 at hg
    refine lv_aload_n hx hb dX12_nextToken_26 rfl (lv_at hl 0 rfl) ?_
    refine lv_dup hx hb dX12_nextToken_27 rfl ?_
    refine va_get (ci := 11) (v := .int (pX12_at v0)) (C := RX12) (T := TX12) (N := 43) hx hb htb uX12 hown hK.1 hP 0 rfl rfl 13 (by decide) (htb _ tg_949) (fun _ h9 => h9) rfl dX12_nextToken_28 ?_
    refine lv_iconst (v := 1) hx hb dX12_nextToken_31 (by decide) ?_
    refine lv_iadd hx hb dX12_nextToken_32 ?_
    refine lv_topi (fun x_31 ex_31 => ?_)
    have hg := g_lte hg x_31 ex_31
    refine va_put (ci := 11) (v := .int x_31) (ty := .int) (C := RX12) (T := TX12) (N := 43) hx hb htb uX12 tyX12 tyX12_ok nmX12 hown hK.1 hP hD hS 0 rfl rfl 13 (by decide) (htb _ tg_949) (fun _ h9 => h9) rfl (by decide +kernel) rfl rfl (Nat.le_of_ble_eq_true rfl) dX12_nextToken_33 (fun H locs hP hD hS => ?_)
    obtain ⟨v0_32, ev0_32⟩ : ∃ z, z = sX12_at v0 x_31 := ⟨_, rfl⟩
    have hP : va_P D vwCl (WS_X12_nextToken cI cJ cZ cY a0 a0_a a0_image a0_texts a0_board a0_taken a0_fars a0_before a0_tape a0_pile a0_rows a0_told a0_values a0_truth a0_keeps v0_32) H := by rw [ev0_32]; exact hP
    have hD : va_D A (WS_X12_nextToken cI cJ cZ cY a0 a0_a a0_image a0_texts a0_board a0_taken a0_fars a0_before a0_tape a0_pile a0_rows a0_told a0_values a0_truth a0_keeps v0_32) := by rw [ev0_32]; exact hD
    have hg := g_lte hg v0_32 ev0_32
    refine lv_goto (tgt := 0) hx hb dX12_nextToken_36 (by decide) ?_
    exact hJ0 v0_32 H locs ls hP hD hS (lv_sub hl [0] rfl) hg
  have b_0 : ∀ (n : Nat), ∀ (v0 : BX12) (H : Heap) (locs : List Loc) (ls : Array Slot), va_P D vwCl (WS_X12_nextToken cI cJ cZ cY a0 a0_a a0_image a0_texts a0_board a0_taken a0_fars a0_before a0_tape a0_pile a0_rows a0_told a0_values a0_truth a0_keeps v0) H → va_D A (WS_X12_nextToken cI cJ cZ cY a0 a0_a a0_image a0_texts a0_board a0_taken a0_fars a0_before a0_tape a0_pile a0_rows a0_told a0_values a0_truth a0_keeps v0) → va_S A s.heap H locs → lv_has ls 3 [(0, .ref a0)] → f_X12_nextToken_b0 n (v0) = some res → W p l e rm_X12_nextToken s m args below meth c H locs 0 0 Q (F0 m 0 ls []) := by
    intro n
    induction n with
    | zero =>
      intro v0 H locs ls hP hD hS hl hg
      exact (g_lp0 hg).elim
    | succ n ih =>
      intro v0 H locs ls hP hD hS hl hg
      have hg : f_X12_nextToken_b0B (f_X12_nextToken_b0 n) v0 = some res := hg
      unfold f_X12_nextToken_b0B at hg
      refine lv_aload_n hx hb dX12_nextToken_0 rfl (lv_at hl 0 rfl) ?_
      refine lv_aload_n hx hb dX12_nextToken_1 rfl (lv_at hl 0 rfl) ?_
      refine va_get (ci := 11) (v := .int (pX12_at v0)) (C := RX12) (T := TX12) (N := 43) hx hb htb uX12 hown hK.1 hP 0 rfl rfl 13 (by decide) (htb _ tg_949) (fun _ h9 => h9) rfl dX12_nextToken_2 ?_
      obtain ⟨r_33, hr_33, hg⟩ := g_bd hg
      refine cc_i (va_runV (C := RX12) (As := [.int (pX12_at v0)]) (rest := []) ⟨hx, hb, hml, hown, htb⟩ (k_X12_see a0 a0_a a0_image a0_texts a0_board a0_taken a0_fars a0_before a0_tape a0_pile a0_rows a0_told a0_values a0_truth a0_keeps v0 (pX12_at v0) r_33 hr_33) (cw_V 1 htb tg_1208 tg_13 tg_1205 tg_1207 ts_43 rfl rfl (by decide +kernel) ⟨Nat.le_of_ble_eq_true rfl, Nat.le_of_ble_eq_true rfl⟩) ⟨PC.blind, va_recv hK.1 hP (ci := 11) (q0 := 0) rfl rfl, PC.pre hK hT hP hD hS hA [0, 1, 2, 3, 4, 5, 6, 7, 8, 9, 10, 11, 12, 13, 14] rfl (by decide)⟩ rfl rfl hl.1 rfl (lv_room (Nat.le_of_ble_eq_true rfl)) dX12_nextToken_5 ⟨Nat.le_of_ble_eq_true rfl, Nat.le_of_ble_eq_true rfl⟩) hP hD hS hA [0, 1, 2, 3, 4, 5, 6, 7, 8, 9, 10, 11, 12, 13, 14] [] rfl rfl (by decide) (by decide) (fun r9 u9 H locs hw hP hD hS => ?_)
      have hw := hw.symm
      subst hw
      have hP : va_P D vwCl (WS_X12_nextToken cI cJ cZ cY a0 a0_a a0_image a0_texts a0_board a0_taken a0_fars a0_before a0_tape a0_pile a0_rows a0_told a0_values a0_truth a0_keeps v0) H := hP.sub [0, 1, 2, 3, 4, 5, 6, 7, 8, 9, 10, 11, 12, 13, 14] rfl
      have hD : va_D A (WS_X12_nextToken cI cJ cZ cY a0 a0_a a0_image a0_texts a0_board a0_taken a0_fars a0_before a0_tape a0_pile a0_rows a0_told a0_values a0_truth a0_keeps v0) := hD.sub [0, 1, 2, 3, 4, 5, 6, 7, 8, 9, 10, 11, 12, 13, 14] (by decide) rfl
      refine lv_bipush (v := 32) hx hb dX12_nextToken_8 (by decide) ?_
      refine lv_icmp_eq (tgt := 26) hx hb dX12_nextToken_10 (by decide) (fun c_34 => ?_) (fun c_34 => ?_)
      · have hg := g_it hg c_34
        exact b_26 (f_X12_nextToken_b0 n) ih v0 H locs ls hP hD hS (lv_sub hl [0] rfl) hg
      · have hg := g_if hg c_34
        refine lv_aload_n hx hb dX12_nextToken_13 rfl (lv_at hl 0 rfl) ?_
        refine lv_aload_n hx hb dX12_nextToken_14 rfl (lv_at hl 0 rfl) ?_
        refine va_get (ci := 11) (v := .int (pX12_at v0)) (C := RX12) (T := TX12) (N := 43) hx hb htb uX12 hown hK.1 hP 0 rfl rfl 13 (by decide) (htb _ tg_949) (fun _ h9 => h9) rfl dX12_nextToken_15 ?_
        obtain ⟨r_35, hr_35, hg⟩ := g_bd hg
        refine cc_i (va_runV (C := RX12) (As := [.int (pX12_at v0)]) (rest := []) ⟨hx, hb, hml, hown, htb⟩ (k_X12_see a0 a0_a a0_image a0_texts a0_board a0_taken a0_fars a0_before a0_tape a0_pile a0_rows a0_told a0_values a0_truth a0_keeps v0 (pX12_at v0) r_35 hr_35) (cw_V 1 htb tg_1208 tg_13 tg_1205 tg_1207 ts_43 rfl rfl (by decide +kernel) ⟨Nat.le_of_ble_eq_true rfl, Nat.le_of_ble_eq_true rfl⟩) ⟨PC.blind, va_recv hK.1 hP (ci := 11) (q0 := 0) rfl rfl, PC.pre hK hT hP hD hS hA [0, 1, 2, 3, 4, 5, 6, 7, 8, 9, 10, 11, 12, 13, 14] rfl (by decide)⟩ rfl rfl hl.1 rfl (lv_room (Nat.le_of_ble_eq_true rfl)) dX12_nextToken_18 ⟨Nat.le_of_ble_eq_true rfl, Nat.le_of_ble_eq_true rfl⟩) hP hD hS hA [0, 1, 2, 3, 4, 5, 6, 7, 8, 9, 10, 11, 12, 13, 14] [] rfl rfl (by decide) (by decide) (fun r9 u9 H locs hw hP hD hS => ?_)
        have hw := hw.symm
        subst hw
        have hP : va_P D vwCl (WS_X12_nextToken cI cJ cZ cY a0 a0_a a0_image a0_texts a0_board a0_taken a0_fars a0_before a0_tape a0_pile a0_rows a0_told a0_values a0_truth a0_keeps v0) H := hP.sub [0, 1, 2, 3, 4, 5, 6, 7, 8, 9, 10, 11, 12, 13, 14] rfl
        have hD : va_D A (WS_X12_nextToken cI cJ cZ cY a0 a0_a a0_image a0_texts a0_board a0_taken a0_fars a0_before a0_tape a0_pile a0_rows a0_told a0_values a0_truth a0_keeps v0) := hD.sub [0, 1, 2, 3, 4, 5, 6, 7, 8, 9, 10, 11, 12, 13, 14] (by decide) rfl
        refine lv_bipush (v := 10) hx hb dX12_nextToken_21 (by decide) ?_
        refine lv_icmp_ne (tgt := 39) hx hb dX12_nextToken_23 (by decide) (fun c_36 => ?_) (fun c_36 => ?_)
        · have hg := g_if hg c_36
          refine lv_aload_n hx hb dX12_nextToken_39 rfl (lv_at hl 0 rfl) ?_
          refine lv_aload_n hx hb dX12_nextToken_40 rfl (lv_at hl 0 rfl) ?_
          refine va_get (ci := 11) (v := .int (pX12_at v0)) (C := RX12) (T := TX12) (N := 43) hx hb htb uX12 hown hK.1 hP 0 rfl rfl 13 (by decide) (htb _ tg_949) (fun _ h9 => h9) rfl dX12_nextToken_41 ?_
          refine lv_topi (fun x_37 ex_37 => ?_)
          have hg := g_lte hg x_37 ex_37
          refine va_put (ci := 11) (v := .int x_37) (ty := .int) (C := RX12) (T := TX12) (N := 43) hx hb htb uX12 tyX12 tyX12_ok nmX12 hown hK.1 hP hD hS 0 rfl rfl 14 (by decide) (htb _ tg_950) (fun _ h9 => h9) rfl (by decide +kernel) rfl rfl (Nat.le_of_ble_eq_true rfl) dX12_nextToken_44 (fun H locs hP hD hS => ?_)
          obtain ⟨v0_38, ev0_38⟩ : ∃ z, z = sX12_place v0 x_37 := ⟨_, rfl⟩
          have hP : va_P D vwCl (WS_X12_nextToken cI cJ cZ cY a0 a0_a a0_image a0_texts a0_board a0_taken a0_fars a0_before a0_tape a0_pile a0_rows a0_told a0_values a0_truth a0_keeps v0_38) H := by rw [ev0_38]; exact hP
          have hD : va_D A (WS_X12_nextToken cI cJ cZ cY a0 a0_a a0_image a0_texts a0_board a0_taken a0_fars a0_before a0_tape a0_pile a0_rows a0_told a0_values a0_truth a0_keeps v0_38) := by rw [ev0_38]; exact hD
          have hg := g_lte hg v0_38 ev0_38
          refine lv_aload_n hx hb dX12_nextToken_47 rfl (lv_at hl 0 rfl) ?_
          refine lv_aload_n hx hb dX12_nextToken_48 rfl (lv_at hl 0 rfl) ?_
          refine va_get (ci := 11) (v := .int (pX12_at v0_38)) (C := RX12) (T := TX12) (N := 43) hx hb htb uX12 hown hK.1 hP 0 rfl rfl 13 (by decide) (htb _ tg_949) (fun _ h9 => h9) rfl dX12_nextToken_49 ?_
          obtain ⟨r_39, hr_39, hg⟩ := g_bd hg
          refine cc_i (va_runV (C := RX12) (As := [.int (pX12_at v0_38)]) (rest := []) ⟨hx, hb, hml, hown, htb⟩ (k_X12_see a0 a0_a a0_image a0_texts a0_board a0_taken a0_fars a0_before a0_tape a0_pile a0_rows a0_told a0_values a0_truth a0_keeps v0_38 (pX12_at v0_38) r_39 hr_39) (cw_V 1 htb tg_1208 tg_13 tg_1205 tg_1207 ts_43 rfl rfl (by decide +kernel) ⟨Nat.le_of_ble_eq_true rfl, Nat.le_of_ble_eq_true rfl⟩) ⟨PC.blind, va_recv hK.1 hP (ci := 11) (q0 := 0) rfl rfl, PC.pre hK hT hP hD hS hA [0, 1, 2, 3, 4, 5, 6, 7, 8, 9, 10, 11, 12, 13, 14] rfl (by decide)⟩ rfl rfl hl.1 rfl (lv_room (Nat.le_of_ble_eq_true rfl)) dX12_nextToken_52 ⟨Nat.le_of_ble_eq_true rfl, Nat.le_of_ble_eq_true rfl⟩) hP hD hS hA [0, 1, 2, 3, 4, 5, 6, 7, 8, 9, 10, 11, 12, 13, 14] [] rfl rfl (by decide) (by decide) (fun r9 u9 H locs hw hP hD hS => ?_)
          have hw := hw.symm
          subst hw
          have hP : va_P D vwCl (WS_X12_nextToken cI cJ cZ cY a0 a0_a a0_image a0_texts a0_board a0_taken a0_fars a0_before a0_tape a0_pile a0_rows a0_told a0_values a0_truth a0_keeps v0_38) H := hP.sub [0, 1, 2, 3, 4, 5, 6, 7, 8, 9, 10, 11, 12, 13, 14] rfl
          have hD : va_D A (WS_X12_nextToken cI cJ cZ cY a0 a0_a a0_image a0_texts a0_board a0_taken a0_fars a0_before a0_tape a0_pile a0_rows a0_told a0_values a0_truth a0_keeps v0_38) := hD.sub [0, 1, 2, 3, 4, 5, 6, 7, 8, 9, 10, 11, 12, 13, 14] (by decide) rfl
          refine lv_istore_n (lv' := [(1, .int r_39), (0, .ref a0)]) hx hb dX12_nextToken_55 rfl hl (by decide) rfl (fun ls hl => ?_)
          refine lv_iload_n hx hb dX12_nextToken_56 rfl (lv_at hl 0 rfl) ?_
          refine lv_if_ge (tgt := 68) hx hb dX12_nextToken_57 (by decide) (fun c_40 => ?_) (fun c_40 => ?_)
          · have hg := g_it hg c_40
            refine lv_iload_n hx hb dX12_nextToken_68 rfl (lv_at hl 0 rfl) ?_
            obtain ⟨r_41, hr_41, hg⟩ := g_bd hg
            refine cc_i (va_runS (As := [.int r_39]) (rest := []) ⟨hx, hb, hml, hown, htb⟩ (k_X12_isDigit r_39 r_41 hr_41) (cw_S 1 htb tg_1211 tg_13 tg_1209 tg_1210 rfl rfl (by decide +kernel) ⟨Nat.le_of_ble_eq_true rfl, Nat.le_of_ble_eq_true rfl⟩) ⟨PC.blind, PC.pre hK hT hP hD hS hA [] rfl (by decide)⟩ rfl rfl hl.1 rfl (lv_room (Nat.le_of_ble_eq_true rfl)) dX12_nextToken_69 ⟨Nat.le_of_ble_eq_true rfl, Nat.le_of_ble_eq_true rfl⟩) hP hD hS hA [] [0, 1, 2, 3, 4, 5, 6, 7, 8, 9, 10, 11, 12, 13, 14] rfl rfl (by decide) (by decide) (fun r9 u9 H locs hw hP hD hS => ?_)
            have hw := hw.symm
            subst hw
            have hP : va_P D vwCl (WS_X12_nextToken cI cJ cZ cY a0 a0_a a0_image a0_texts a0_board a0_taken a0_fars a0_before a0_tape a0_pile a0_rows a0_told a0_values a0_truth a0_keeps v0_38) H := hP.sub [0, 1, 2, 3, 4, 5, 6, 7, 8, 9, 10, 11, 12, 13, 14] rfl
            have hD : va_D A (WS_X12_nextToken cI cJ cZ cY a0 a0_a a0_image a0_texts a0_board a0_taken a0_fars a0_before a0_tape a0_pile a0_rows a0_told a0_values a0_truth a0_keeps v0_38) := hD.sub [0, 1, 2, 3, 4, 5, 6, 7, 8, 9, 10, 11, 12, 13, 14] (by decide) rfl
            refine lv_if_eq (tgt := 144) hx hb dX12_nextToken_72 (by decide) (fun c_42 => ?_) (fun c_42 => ?_)
            · have hg := g_it hg c_42
              refine lv_iload_n hx hb dX12_nextToken_144 rfl (lv_at hl 0 rfl) ?_
              obtain ⟨r_43, hr_43, hg⟩ := g_bd hg
              refine cc_i (va_runS (As := [.int r_39]) (rest := []) ⟨hx, hb, hml, hown, htb⟩ (k_X12_isLetter r_39 r_43 hr_43) (cw_S 1 htb tg_1215 tg_13 tg_1213 tg_1214 rfl rfl (by decide +kernel) ⟨Nat.le_of_ble_eq_true rfl, Nat.le_of_ble_eq_true rfl⟩) ⟨PC.blind, PC.pre hK hT hP hD hS hA [] rfl (by decide)⟩ rfl rfl hl.1 rfl (lv_room (Nat.le_of_ble_eq_true rfl)) dX12_nextToken_145 ⟨Nat.le_of_ble_eq_true rfl, Nat.le_of_ble_eq_true rfl⟩) hP hD hS hA [] [0, 1, 2, 3, 4, 5, 6, 7, 8, 9, 10, 11, 12, 13, 14] rfl rfl (by decide) (by decide) (fun r9 u9 H locs hw hP hD hS => ?_)
              have hw := hw.symm
              subst hw
              have hP : va_P D vwCl (WS_X12_nextToken cI cJ cZ cY a0 a0_a a0_image a0_texts a0_board a0_taken a0_fars a0_before a0_tape a0_pile a0_rows a0_told a0_values a0_truth a0_keeps v0_38) H := hP.sub [0, 1, 2, 3, 4, 5, 6, 7, 8, 9, 10, 11, 12, 13, 14] rfl
              have hD : va_D A (WS_X12_nextToken cI cJ cZ cY a0 a0_a a0_image a0_texts a0_board a0_taken a0_fars a0_before a0_tape a0_pile a0_rows a0_told a0_values a0_truth a0_keeps v0_38) := hD.sub [0, 1, 2, 3, 4, 5, 6, 7, 8, 9, 10, 11, 12, 13, 14] (by decide) rfl
              refine lv_if_eq (tgt := 245) hx hb dX12_nextToken_148 (by decide) (fun c_44 => ?_) (fun c_44 => ?_)
              · have hg := g_it hg c_44
                refine lv_aload_n hx hb dX12_nextToken_245 rfl (lv_at hl 1 rfl) ?_
                refine lv_dup hx hb dX12_nextToken_246 rfl ?_
                refine va_get (ci := 11) (v := .int (pX12_at v0_38)) (C := RX12) (T := TX12) (N := 43) hx hb htb uX12 hown hK.1 hP 0 rfl rfl 13 (by decide) (htb _ tg_949) (fun _ h9 => h9) rfl dX12_nextToken_247 ?_
                refine lv_iconst (v := 1) hx hb dX12_nextToken_250 (by decide) ?_
                refine lv_iadd hx hb dX12_nextToken_251 ?_
                refine lv_topi (fun x_45 ex_45 => ?_)
                have hg := g_lte hg x_45 ex_45
                refine va_put (ci := 11) (v := .int x_45) (ty := .int) (C := RX12) (T := TX12) (N := 43) hx hb htb uX12 tyX12 tyX12_ok nmX12 hown hK.1 hP hD hS 0 rfl rfl 13 (by decide) (htb _ tg_949) (fun _ h9 => h9) rfl (by decide +kernel) rfl rfl (Nat.le_of_ble_eq_true rfl) dX12_nextToken_252 (fun H locs hP hD hS => ?_)
                obtain ⟨v0_46, ev0_46⟩ : ∃ z, z = sX12_at v0_38 x_45 := ⟨_, rfl⟩
                have hP : va_P D vwCl (WS_X12_nextToken cI cJ cZ cY a0 a0_a a0_image a0_texts a0_board a0_taken a0_fars a0_before a0_tape a0_pile a0_rows a0_told a0_values a0_truth a0_keeps v0_46) H := by rw [ev0_46]; exact hP
                have hD : va_D A (WS_X12_nextToken cI cJ cZ cY a0 a0_a a0_image a0_texts a0_board a0_taken a0_fars a0_before a0_tape a0_pile a0_rows a0_told a0_values a0_truth a0_keeps v0_46) := by rw [ev0_46]; exact hD
                have hg := g_lte hg v0_46 ev0_46
                refine lv_iload_n hx hb dX12_nextToken_255 rfl (lv_at hl 0 rfl) ?_
                refine lv_bipush (v := 60) hx hb dX12_nextToken_256 (by decide) ?_
                refine lv_icmp_eq (tgt := 327) hx hb dX12_nextToken_258 (by decide) (fun c_47 => ?_) (fun c_47 => ?_)
                · have hg := g_it hg c_47
                  exact b_327 r_39 v0_46 H locs ls hP hD hS (lv_sub hl [1, 0] rfl) hg
                · have hg := g_if hg c_47
                  refine lv_iload_n hx hb dX12_nextToken_261 rfl (lv_at hl 0 rfl) ?_
                  refine lv_bipush (v := 62) hx hb dX12_nextToken_262 (by decide) ?_
                  refine lv_icmp_eq (tgt := 327) hx hb dX12_nextToken_264 (by decide) (fun c_48 => ?_) (fun c_48 => ?_)
                  · have hg := g_it hg c_48
                    exact b_327 r_39 v0_46 H locs ls hP hD hS (lv_sub hl [1, 0] rfl) hg
                  · have hg := g_if hg c_48
                    refine lv_iload_n hx hb dX12_nextToken_267 rfl (lv_at hl 0 rfl) ?_
                    refine lv_bipush (v := 61) hx hb dX12_nextToken_268 (by decide) ?_
                    refine lv_icmp_eq (tgt := 327) hx hb dX12_nextToken_270 (by decide) (fun c_49 => ?_) (fun c_49 => ?_)
                    · have hg := g_it hg c_49
                      exact b_327 r_39 v0_46 H locs ls hP hD hS (lv_sub hl [1, 0] rfl) hg
                    · have hg := g_if hg c_49
                      refine lv_iload_n hx hb dX12_nextToken_273 rfl (lv_at hl 0 rfl) ?_
                      refine lv_bipush (v := 35) hx hb dX12_nextToken_274 (by decide) ?_
                      refine lv_icmp_eq (tgt := 327) hx hb dX12_nextToken_276 (by decide) (fun c_50 => ?_) (fun c_50 => ?_)
                      · have hg := g_it hg c_50
                        exact b_327 r_39 v0_46 H locs ls hP hD hS (lv_sub hl [1, 0] rfl) hg
                      · have hg := g_if hg c_50
                        refine lv_iload_n hx hb dX12_nextToken_279 rfl (lv_at hl 0 rfl) ?_
                        refine lv_bipush (v := 43) hx hb dX12_nextToken_280 (by decide) ?_
                        refine lv_icmp_eq (tgt := 327) hx hb dX12_nextToken_282 (by decide) (fun c_51 => ?_) (fun c_51 => ?_)
                        · have hg := g_it hg c_51
                          exact b_327 r_39 v0_46 H locs ls hP hD hS (lv_sub hl [1, 0] rfl) hg
                        · have hg := g_if hg c_51
                          refine lv_iload_n hx hb dX12_nextToken_285 rfl (lv_at hl 0 rfl) ?_
                          refine lv_bipush (v := 45) hx hb dX12_nextToken_286 (by decide) ?_
                          refine lv_icmp_eq (tgt := 327) hx hb dX12_nextToken_288 (by decide) (fun c_52 => ?_) (fun c_52 => ?_)
                          · have hg := g_it hg c_52
                            exact b_327 r_39 v0_46 H locs ls hP hD hS (lv_sub hl [1, 0] rfl) hg
                          · have hg := g_if hg c_52
                            refine lv_iload_n hx hb dX12_nextToken_291 rfl (lv_at hl 0 rfl) ?_
                            refine lv_bipush (v := 42) hx hb dX12_nextToken_292 (by decide) ?_
                            refine lv_icmp_eq (tgt := 327) hx hb dX12_nextToken_294 (by decide) (fun c_53 => ?_) (fun c_53 => ?_)
                            · have hg := g_it hg c_53
                              exact b_327 r_39 v0_46 H locs ls hP hD hS (lv_sub hl [1, 0] rfl) hg
                            · have hg := g_if hg c_53
                              refine lv_iload_n hx hb dX12_nextToken_297 rfl (lv_at hl 0 rfl) ?_
                              refine lv_bipush (v := 47) hx hb dX12_nextToken_298 (by decide) ?_
                              refine lv_icmp_eq (tgt := 327) hx hb dX12_nextToken_300 (by decide) (fun c_54 => ?_) (fun c_54 => ?_)
                              · have hg := g_it hg c_54
                                exact b_327 r_39 v0_46 H locs ls hP hD hS (lv_sub hl [1, 0] rfl) hg
                              · have hg := g_if hg c_54
                                refine lv_iload_n hx hb dX12_nextToken_303 rfl (lv_at hl 0 rfl) ?_
                                refine lv_bipush (v := 40) hx hb dX12_nextToken_304 (by decide) ?_
                                refine lv_icmp_eq (tgt := 327) hx hb dX12_nextToken_306 (by decide) (fun c_55 => ?_) (fun c_55 => ?_)
                                · have hg := g_it hg c_55
                                  exact b_327 r_39 v0_46 H locs ls hP hD hS (lv_sub hl [1, 0] rfl) hg
                                · have hg := g_if hg c_55
                                  refine lv_iload_n hx hb dX12_nextToken_309 rfl (lv_at hl 0 rfl) ?_
                                  refine lv_bipush (v := 41) hx hb dX12_nextToken_310 (by decide) ?_
                                  refine lv_icmp_eq (tgt := 327) hx hb dX12_nextToken_312 (by decide) (fun c_56 => ?_) (fun c_56 => ?_)
                                  · have hg := g_it hg c_56
                                    exact b_327 r_39 v0_46 H locs ls hP hD hS (lv_sub hl [1, 0] rfl) hg
                                  · have hg := g_if hg c_56
                                    refine lv_iload_n hx hb dX12_nextToken_315 rfl (lv_at hl 0 rfl) ?_
                                    refine lv_bipush (v := 44) hx hb dX12_nextToken_316 (by decide) ?_
                                    refine lv_icmp_eq (tgt := 327) hx hb dX12_nextToken_318 (by decide) (fun c_57 => ?_) (fun c_57 => ?_)
                                    · have hg := g_it hg c_57
                                      exact b_327 r_39 v0_46 H locs ls hP hD hS (lv_sub hl [1, 0] rfl) hg
                                    · have hg := g_if hg c_57
                                      refine lv_iload_n hx hb dX12_nextToken_321 rfl (lv_at hl 0 rfl) ?_
                                      refine lv_bipush (v := 59) hx hb dX12_nextToken_322 (by decide) ?_
                                      refine lv_icmp_ne (tgt := 331) hx hb dX12_nextToken_324 (by decide) (fun c_58 => ?_) (fun c_58 => ?_)
                                      · have hg := g_if hg c_58
                                        refine lv_iconst (v := 0) hx hb dX12_nextToken_331 (by decide) ?_
                                        exact b_332 r_39 0 v0_46 H locs ls hP hD hS (lv_sub hl [1, 0] rfl) hg
                                      · have hg := g_it hg c_58
                                        exact b_327 r_39 v0_46 H locs ls hP hD hS (lv_sub hl [1, 0] rfl) hg
              · have hg := g_if hg c_44
                refine lv_aload_n hx hb dX12_nextToken_151 rfl (lv_at hl 1 rfl) ?_
                refine lv_iconst (v := 2) hx hb dX12_nextToken_152 (by decide) ?_
                refine va_put (ci := 11) (v := .int 2) (ty := .int) (C := RX12) (T := TX12) (N := 43) hx hb htb uX12 tyX12 tyX12_ok nmX12 hown hK.1 hP hD hS 0 rfl rfl 15 (by decide) (htb _ tg_951) (fun _ h9 => h9) rfl (by decide +kernel) rfl rfl (Nat.le_of_ble_eq_true rfl) dX12_nextToken_153 (fun H locs hP hD hS => ?_)
                obtain ⟨v0_59, ev0_59⟩ : ∃ z, z = sX12_token v0_38 2 := ⟨_, rfl⟩
                have hP : va_P D vwCl (WS_X12_nextToken cI cJ cZ cY a0 a0_a a0_image a0_texts a0_board a0_taken a0_fars a0_before a0_tape a0_pile a0_rows a0_told a0_values a0_truth a0_keeps v0_59) H := by rw [ev0_59]; exact hP
                have hD : va_D A (WS_X12_nextToken cI cJ cZ cY a0 a0_a a0_image a0_texts a0_board a0_taken a0_fars a0_before a0_tape a0_pile a0_rows a0_told a0_values a0_truth a0_keeps v0_59) := by rw [ev0_59]; exact hD
                have hg := g_lte hg v0_59 ev0_59
                refine lv_aload_n hx hb dX12_nextToken_156 rfl (lv_at hl 1 rfl) ?_
                refine lv_lconst (v := 0) hx hb dX12_nextToken_157 (by decide) ?_
                refine va_put (ci := 11) (v := .long 0) (ty := .long) (C := RX12) (T := TX12) (N := 43) hx hb htb uX12 tyX12 tyX12_ok nmX12 hown hK.1 hP hD hS 0 rfl rfl 17 (by decide) (htb _ tg_953) (fun _ h9 => h9) rfl (by decide +kernel) rfl rfl (Nat.le_of_ble_eq_true rfl) dX12_nextToken_158 (fun H locs hP hD hS => ?_)
                obtain ⟨v0_60, ev0_60⟩ : ∃ z, z = sX12_word v0_59 0 := ⟨_, rfl⟩
                have hP : va_P D vwCl (WS_X12_nextToken cI cJ cZ cY a0 a0_a a0_image a0_texts a0_board a0_taken a0_fars a0_before a0_tape a0_pile a0_rows a0_told a0_values a0_truth a0_keeps v0_60) H := by rw [ev0_60]; exact hP
                have hD : va_D A (WS_X12_nextToken cI cJ cZ cY a0 a0_a a0_image a0_texts a0_board a0_taken a0_fars a0_before a0_tape a0_pile a0_rows a0_told a0_values a0_truth a0_keeps v0_60) := by rw [ev0_60]; exact hD
                have hg := g_lte hg v0_60 ev0_60
                exact b_161 fU v0_60 H locs ls hP hD hS (lv_sub hl [1] rfl) hg
            · have hg := g_if hg c_42
              refine lv_aload_n hx hb dX12_nextToken_75 rfl (lv_at hl 1 rfl) ?_
              refine lv_iconst (v := 1) hx hb dX12_nextToken_76 (by decide) ?_
              refine va_put (ci := 11) (v := .int 1) (ty := .int) (C := RX12) (T := TX12) (N := 43) hx hb htb uX12 tyX12 tyX12_ok nmX12 hown hK.1 hP hD hS 0 rfl rfl 15 (by decide) (htb _ tg_951) (fun _ h9 => h9) rfl (by decide +kernel) rfl rfl (Nat.le_of_ble_eq_true rfl) dX12_nextToken_77 (fun H locs hP hD hS => ?_)
              obtain ⟨v0_61, ev0_61⟩ : ∃ z, z = sX12_token v0_38 1 := ⟨_, rfl⟩
              have hP : va_P D vwCl (WS_X12_nextToken cI cJ cZ cY a0 a0_a a0_image a0_texts a0_board a0_taken a0_fars a0_before a0_tape a0_pile a0_rows a0_told a0_values a0_truth a0_keeps v0_61) H := by rw [ev0_61]; exact hP
              have hD : va_D A (WS_X12_nextToken cI cJ cZ cY a0 a0_a a0_image a0_texts a0_board a0_taken a0_fars a0_before a0_tape a0_pile a0_rows a0_told a0_values a0_truth a0_keeps v0_61) := by rw [ev0_61]; exact hD
              have hg := g_lte hg v0_61 ev0_61
              refine lv_aload_n hx hb dX12_nextToken_80 rfl (lv_at hl 1 rfl) ?_
              refine lv_iconst (v := 0) hx hb dX12_nextToken_81 (by decide) ?_
              refine va_put (ci := 11) (v := .int 0) (ty := .int) (C := RX12) (T := TX12) (N := 43) hx hb htb uX12 tyX12 tyX12_ok nmX12 hown hK.1 hP hD hS 0 rfl rfl 16 (by decide) (htb _ tg_952) (fun _ h9 => h9) rfl (by decide +kernel) rfl rfl (Nat.le_of_ble_eq_true rfl) dX12_nextToken_82 (fun H locs hP hD hS => ?_)
              obtain ⟨v0_62, ev0_62⟩ : ∃ z, z = sX12_number v0_61 0 := ⟨_, rfl⟩
              have hP : va_P D vwCl (WS_X12_nextToken cI cJ cZ cY a0 a0_a a0_image a0_texts a0_board a0_taken a0_fars a0_before a0_tape a0_pile a0_rows a0_told a0_values a0_truth a0_keeps v0_62) H := by rw [ev0_62]; exact hP
              have hD : va_D A (WS_X12_nextToken cI cJ cZ cY a0 a0_a a0_image a0_texts a0_board a0_taken a0_fars a0_before a0_tape a0_pile a0_rows a0_told a0_values a0_truth a0_keeps v0_62) := by rw [ev0_62]; exact hD
              have hg := g_lte hg v0_62 ev0_62
              exact b_85 fU v0_62 H locs ls hP hD hS (lv_sub hl [1] rfl) hg
          · have hg := g_if hg c_40
            refine lv_aload_n hx hb dX12_nextToken_60 rfl (lv_at hl 1 rfl) ?_
            refine lv_iconst (v := 0) hx hb dX12_nextToken_61 (by decide) ?_
            refine va_put (ci := 11) (v := .int 0) (ty := .int) (C := RX12) (T := TX12) (N := 43) hx hb htb uX12 tyX12 tyX12_ok nmX12 hown hK.1 hP hD hS 0 rfl rfl 15 (by decide) (htb _ tg_951) (fun _ h9 => h9) rfl (by decide +kernel) rfl rfl (Nat.le_of_ble_eq_true rfl) dX12_nextToken_62 (fun H locs hP hD hS => ?_)
            obtain ⟨v0_63, ev0_63⟩ : ∃ z, z = sX12_token v0_38 0 := ⟨_, rfl⟩
            have hP : va_P D vwCl (WS_X12_nextToken cI cJ cZ cY a0 a0_a a0_image a0_texts a0_board a0_taken a0_fars a0_before a0_tape a0_pile a0_rows a0_told a0_values a0_truth a0_keeps v0_63) H := by rw [ev0_63]; exact hP
            have hD : va_D A (WS_X12_nextToken cI cJ cZ cY a0 a0_a a0_image a0_texts a0_board a0_taken a0_fars a0_before a0_tape a0_pile a0_rows a0_told a0_values a0_truth a0_keeps v0_63) := by rw [ev0_63]; exact hD
            have hg := g_lte hg v0_63 ev0_63
            refine lv_goto (tgt := 396) hx hb dX12_nextToken_65 (by decide) ?_
            have hg := Option.some.inj hg
            rw [hQ]
            exact W.vret hx hb hr (fun t ht hW => ⟨⟨(v0_63), rfl, hg, by rw [ht]; exact hP, hD⟩, hS.F ht⟩) hS.2.2 dX12_nextToken_396
        · have hg := g_it hg c_36
          exact b_26 (f_X12_nextToken_b0 n) ih v0 H locs ls hP hD hS (lv_sub hl [0] rfl) hg
  generalize hHe : s.heap = H at hP ⊢
  have hS : va_S A s.heap H [] := by rw [← hHe]; exact va_S.rf
  generalize ([] : List Loc) = locs at hS ⊢
  unfold f_X12_nextToken at hg
  exact b_0 fU v0 H locs ls hP hD hS (lv_sub hl [0] rfl) hg

/-! ManyEyesModel.w3(III)J -/
def WS_X12_w3 (cI cJ cZ cY : ClassId) : va_W := []
def f_X12_w3 (p0 : Int32) (p1 : Int32) (p2 : Int32) : Option (Int64) := some ((((((((p0 : Int32).toInt64) : Int64) <<< ((8 : Int32).toInt64 &&& 63)) ||| ((p1 : Int32).toInt64)) : Int64) <<< ((8 : Int32).toInt64 &&& 63)) ||| ((p2 : Int32).toInt64))
abbrev rm_X12_w3 : Room := { frames := 0, cells := 0, slots := 0, locals := 0 }
set_option maxHeartbeats 4000000 in
set_option maxRecDepth 100000 in
theorem k_X12_w3 {l : Launch} {D : va_G} {cI cJ cZ cY : ClassId} {tX tY : Nat} {sz : Nat} (p0 : Int32) (p1 : Int32) (p2 : Int32) (res : Int64) (hg : f_X12_w3 p0 p1 p2 = some res) : Met l yX12_w3 (Cond.code yX12_w3 cX12_w3 3 (some .long) :: TB) rm_X12_w3 (PC D cI cJ cZ cY tX tY [.int p0, .int p1, .int p2] (WS_X12_w3 cI cJ cZ cY) sz) (va_Ql (fun (r : Int64) (_ : Unit) => r = res) (BC D (fun _ : Unit => WS_X12_w3 cI cJ cZ cY) (va_A (WS_X12_w3 cI cJ cZ cY) sz)) (va_A (WS_X12_w3 cI cJ cZ cY) sz)) 0 0 (va_A (WS_X12_w3 cI cJ cZ cY) sz) := by
  refine Met.ofW (cc := cX12_w3) (maxL := 3) (ret := (some .long)) (by decide) rfl ?_
  intro p e s m args below meth c s₁ B hml hv
  obtain ⟨hargs, hsz, hP, hK, hD0, hT⟩ := hv
  have hx := B.exec
  have hb := B.bytes
  have hr := B.returns
  have htb : ∀ w ∈ TB, w.before args s = true := fun w h => atoms_spec (ws := Cond.code yX12_w3 cX12_w3 3 (some .long) :: TB) B.pre w (List.mem_cons_of_mem _ h)
  have hown : s.vm.findClass "ManyEyesModel" = some m.cls := findClass_of_methodNamed B.named
  have hlocks := B.notSynchronized
  subst hsz
  have hD := hD0.self (sz := s.heap.size)
  generalize hAe : va_A (WS_X12_w3 cI cJ cZ cY) s.heap.size = A at hD hT ⊢
  have hA : ∀ q : Nat, s.heap.size ≤ q → A q := fun q h => by rw [← hAe]; exact Or.inr h
  have hS : va_S A s.heap s.heap [] := va_S.rf
  have hl := lv_entry ([.int p0, .int p1, .int p2]) (n := 3) (Nat.le_of_ble_eq_true rfl)
  have he : entryFrame m args 3 = F0 m 0 (lg_sl ([.int p0, .int p1, .int p2]) ++ List.replicate (3 - (lg_sl ([.int p0, .int p1, .int p2])).length) Slot.unset).toArray [] := by rw [hargs, lg_entry_eq]
  rw [he]
  generalize (lg_sl ([.int p0, .int p1, .int p2]) ++ List.replicate (3 - (lg_sl ([.int p0, .int p1, .int p2])).length) Slot.unset).toArray = ls at hl ⊢
  have hl : lv_has ls 3 [(0, .int p0), (1, .int p1), (2, .int p2)] := hl
  show W p l e rm_X12_w3 s m args below meth c s.heap [] 0 0 _ _
  refine W.genQ (fun Q hQ => ?_)
  generalize hHe : s.heap = H at hP ⊢
  have hS : va_S A s.heap H [] := by rw [← hHe]; exact va_S.rf
  generalize ([] : List Loc) = locs at hS ⊢
  unfold f_X12_w3 at hg
  refine lv_iload_n hx hb dX12_w3_0 rfl (lv_at hl 0 rfl) ?_
  refine lv_i2l (v := (p0 : Int32).toInt64) hx hb dX12_w3_1 rfl ?_
  refine lv_bipush (v := 8) hx hb dX12_w3_2 (by decide) ?_
  refine lv_lshl (v := (((p0 : Int32).toInt64) : Int64) <<< ((8 : Int32).toInt64 &&& 63)) hx hb dX12_w3_4 rfl ?_
  refine lv_iload_n hx hb dX12_w3_5 rfl (lv_at hl 1 rfl) ?_
  refine lv_i2l (v := (p1 : Int32).toInt64) hx hb dX12_w3_6 rfl ?_
  refine lv_lor hx hb dX12_w3_7 ?_
  refine lv_bipush (v := 8) hx hb dX12_w3_8 (by decide) ?_
  refine lv_lshl (v := ((((((p0 : Int32).toInt64) : Int64) <<< ((8 : Int32).toInt64 &&& 63)) ||| ((p1 : Int32).toInt64)) : Int64) <<< ((8 : Int32).toInt64 &&& 63)) hx hb dX12_w3_10 rfl ?_
  refine lv_iload_n hx hb dX12_w3_11 rfl (lv_at hl 2 rfl) ?_
  refine lv_i2l (v := (p2 : Int32).toInt64) hx hb dX12_w3_12 rfl ?_
  refine lv_lor hx hb dX12_w3_13 ?_
  have hg := Option.some.inj hg
  rw [hQ]
  exact W.lret (v := ((((((((p0 : Int32).toInt64) : Int64) <<< ((8 : Int32).toInt64 &&& 63)) ||| ((p1 : Int32).toInt64)) : Int64) <<< ((8 : Int32).toInt64 &&& 63)) ||| ((p2 : Int32).toInt64))) hx hb hr (fun t ht hW => ⟨⟨((((((((p0 : Int32).toInt64) : Int64) <<< ((8 : Int32).toInt64 &&& 63)) ||| ((p1 : Int32).toInt64)) : Int64) <<< ((8 : Int32).toInt64 &&& 63)) ||| ((p2 : Int32).toInt64)), (), rfl, hg, by rw [ht]; exact hP, hD⟩, hS.F ht⟩) hS.2.2 dX12_w3_14

/-! ManyEyesModel.w4(IIII)J -/
def WS_X12_w4 (cI cJ cZ cY : ClassId) : va_W := []
def f_X12_w4 (p0 : Int32) (p1 : Int32) (p2 : Int32) (p3 : Int32) : Option (Int64) := (f_X12_w3 p0 p1 p2).bind (fun r_1 => some (((r_1 : Int64) <<< ((8 : Int32).toInt64 &&& 63)) ||| ((p3 : Int32).toInt64)))
abbrev rm_X12_w4 : Room := { frames := 1, cells := 0, slots := 0, locals := 22 }
set_option maxHeartbeats 4000000 in
set_option maxRecDepth 100000 in
theorem k_X12_w4 {l : Launch} {D : va_G} {cI cJ cZ cY : ClassId} {tX tY : Nat} {sz : Nat} (p0 : Int32) (p1 : Int32) (p2 : Int32) (p3 : Int32) (res : Int64) (hg : f_X12_w4 p0 p1 p2 p3 = some res) : Met l yX12_w4 (Cond.code yX12_w4 cX12_w4 4 (some .long) :: TB) rm_X12_w4 (PC D cI cJ cZ cY tX tY [.int p0, .int p1, .int p2, .int p3] (WS_X12_w4 cI cJ cZ cY) sz) (va_Ql (fun (r : Int64) (_ : Unit) => r = res) (BC D (fun _ : Unit => WS_X12_w4 cI cJ cZ cY) (va_A (WS_X12_w4 cI cJ cZ cY) sz)) (va_A (WS_X12_w4 cI cJ cZ cY) sz)) 0 0 (va_A (WS_X12_w4 cI cJ cZ cY) sz) := by
  refine Met.ofW (cc := cX12_w4) (maxL := 4) (ret := (some .long)) (by decide) rfl ?_
  intro p e s m args below meth c s₁ B hml hv
  obtain ⟨hargs, hsz, hP, hK, hD0, hT⟩ := hv
  have hx := B.exec
  have hb := B.bytes
  have hr := B.returns
  have htb : ∀ w ∈ TB, w.before args s = true := fun w h => atoms_spec (ws := Cond.code yX12_w4 cX12_w4 4 (some .long) :: TB) B.pre w (List.mem_cons_of_mem _ h)
  have hown : s.vm.findClass "ManyEyesModel" = some m.cls := findClass_of_methodNamed B.named
  have hlocks := B.notSynchronized
  subst hsz
  have hD := hD0.self (sz := s.heap.size)
  generalize hAe : va_A (WS_X12_w4 cI cJ cZ cY) s.heap.size = A at hD hT ⊢
  have hA : ∀ q : Nat, s.heap.size ≤ q → A q := fun q h => by rw [← hAe]; exact Or.inr h
  have hS : va_S A s.heap s.heap [] := va_S.rf
  have hl := lv_entry ([.int p0, .int p1, .int p2, .int p3]) (n := 4) (Nat.le_of_ble_eq_true rfl)
  have he : entryFrame m args 4 = F0 m 0 (lg_sl ([.int p0, .int p1, .int p2, .int p3]) ++ List.replicate (4 - (lg_sl ([.int p0, .int p1, .int p2, .int p3])).length) Slot.unset).toArray [] := by rw [hargs, lg_entry_eq]
  rw [he]
  generalize (lg_sl ([.int p0, .int p1, .int p2, .int p3]) ++ List.replicate (4 - (lg_sl ([.int p0, .int p1, .int p2, .int p3])).length) Slot.unset).toArray = ls at hl ⊢
  have hl : lv_has ls 4 [(0, .int p0), (1, .int p1), (2, .int p2), (3, .int p3)] := hl
  show W p l e rm_X12_w4 s m args below meth c s.heap [] 0 0 _ _
  refine W.genQ (fun Q hQ => ?_)
  generalize hHe : s.heap = H at hP ⊢
  have hS : va_S A s.heap H [] := by rw [← hHe]; exact va_S.rf
  generalize ([] : List Loc) = locs at hS ⊢
  unfold f_X12_w4 at hg
  refine lv_iload_n hx hb dX12_w4_0 rfl (lv_at hl 0 rfl) ?_
  refine lv_iload_n hx hb dX12_w4_1 rfl (lv_at hl 1 rfl) ?_
  refine lv_iload_n hx hb dX12_w4_2 rfl (lv_at hl 2 rfl) ?_
  obtain ⟨r_1, hr_1, hg⟩ := g_bd hg
  refine cc_l (va_runS (As := [.int p0, .int p1, .int p2]) (rest := []) ⟨hx, hb, hml, hown, htb⟩ (k_X12_w3 p0 p1 p2 r_1 hr_1) (cw_S 3 htb tg_1226 tg_13 tg_1224 tg_1225 rfl rfl (by decide +kernel) ⟨Nat.le_of_ble_eq_true rfl, Nat.le_of_ble_eq_true rfl⟩) ⟨PC.blind, PC.pre hK hT hP hD hS hA [] rfl (by decide)⟩ rfl rfl hl.1 rfl (lv_room (Nat.le_of_ble_eq_true rfl)) dX12_w4_3 ⟨Nat.le_of_ble_eq_true rfl, Nat.le_of_ble_eq_true rfl⟩) hP hD hS hA [] [] rfl rfl (by decide) (by decide) (fun r9 u9 H locs hw hP hD hS => ?_)
  have hw := hw.symm
  subst hw
  have hP : va_P D vwCl (WS_X12_w4 cI cJ cZ cY) H := hP.sub [] rfl
  have hD : va_D A (WS_X12_w4 cI cJ cZ cY) := hD.sub [] (by decide) rfl
  refine lv_bipush (v := 8) hx hb dX12_w4_6 (by decide) ?_
  refine lv_lshl (v := (r_1 : Int64) <<< ((8 : Int32).toInt64 &&& 63)) hx hb dX12_w4_8 rfl ?_
  refine lv_iload_n hx hb dX12_w4_9 rfl (lv_at hl 3 rfl) ?_
  refine lv_i2l (v := (p3 : Int32).toInt64) hx hb dX12_w4_10 rfl ?_
  refine lv_lor hx hb dX12_w4_11 ?_
  have hg := Option.some.inj hg
  rw [hQ]
  exact W.lret (v := (((r_1 : Int64) <<< ((8 : Int32).toInt64 &&& 63)) ||| ((p3 : Int32).toInt64))) hx hb hr (fun t ht hW => ⟨⟨(((r_1 : Int64) <<< ((8 : Int32).toInt64 &&& 63)) ||| ((p3 : Int32).toInt64)), (), rfl, hg, by rw [ht]; exact hP, hD⟩, hS.F ht⟩) hS.2.2 dX12_w4_12

/-! ManyEyesModel.isWord(J)Z -/
def WS_X12_isWord (cI cJ cZ cY : ClassId) (a0 a0_a a0_image a0_texts a0_board a0_taken a0_fars a0_before a0_tape a0_pile a0_rows a0_told a0_values a0_truth a0_keeps : Nat) (v0 : BX12) : va_W := (GX12 cI cJ cZ cY a0 a0_a a0_image a0_texts a0_board a0_taken a0_fars a0_before a0_tape a0_pile a0_rows a0_told a0_values a0_truth a0_keeps v0)
def f_X12_isWord (v0 : BX12) (p0 : Int64) : Option (Int32) := if ((pX12_token v0) : Int32) = 2 then (if ((lg_cmp (pX12_word v0) p0) : Int32) = 0 then (some 1) else (some 0)) else (some 0)
abbrev rm_X12_isWord : Room := { frames := 0, cells := 0, slots := 0, locals := 0 }
set_option maxHeartbeats 4000000 in
set_option maxRecDepth 100000 in
theorem k_X12_isWord {l : Launch} {D : va_G} {cI cJ cZ cY : ClassId} {tX tY : Nat} {sz : Nat} (a0 a0_a a0_image a0_texts a0_board a0_taken a0_fars a0_before a0_tape a0_pile a0_rows a0_told a0_values a0_truth a0_keeps : Nat) (v0 : BX12) (p0 : Int64) (res : Int32) (hg : f_X12_isWord v0 p0 = some res) : Met l yX12_isWord (Cond.code yX12_isWord cX12_isWord 3 (some .boolean) :: TB) rm_X12_isWord (PC D cI cJ cZ cY tX tY [.ref a0, .long p0] (WS_X12_isWord cI cJ cZ cY a0 a0_a a0_image a0_texts a0_board a0_taken a0_fars a0_before a0_tape a0_pile a0_rows a0_told a0_values a0_truth a0_keeps v0) sz) (va_Qi (fun (r : Int32) (_ : Unit) => r = res) (BC D (fun _ : Unit => WS_X12_isWord cI cJ cZ cY a0 a0_a a0_image a0_texts a0_board a0_taken a0_fars a0_before a0_tape a0_pile a0_rows a0_told a0_values a0_truth a0_keeps v0) (va_A (WS_X12_isWord cI cJ cZ cY a0 a0_a a0_image a0_texts a0_board a0_taken a0_fars a0_before a0_tape a0_pile a0_rows a0_told a0_values a0_truth a0_keeps v0) sz)) (va_A (WS_X12_isWord cI cJ cZ cY a0 a0_a a0_image a0_texts a0_board a0_taken a0_fars a0_before a0_tape a0_pile a0_rows a0_told a0_values a0_truth a0_keeps v0) sz)) 0 0 (va_A (WS_X12_isWord cI cJ cZ cY a0 a0_a a0_image a0_texts a0_board a0_taken a0_fars a0_before a0_tape a0_pile a0_rows a0_told a0_values a0_truth a0_keeps v0) sz) := by
  refine Met.ofW (cc := cX12_isWord) (maxL := 3) (ret := (some .boolean)) (by decide) rfl ?_
  intro p e s m args below meth c s₁ B hml hv
  obtain ⟨hargs, hsz, hP, hK, hD0, hT⟩ := hv
  have hx := B.exec
  have hb := B.bytes
  have hr := B.returns
  have htb : ∀ w ∈ TB, w.before args s = true := fun w h => atoms_spec (ws := Cond.code yX12_isWord cX12_isWord 3 (some .boolean) :: TB) B.pre w (List.mem_cons_of_mem _ h)
  have hown : s.vm.findClass "ManyEyesModel" = some m.cls := findClass_of_methodNamed B.named
  have hlocks := B.notSynchronized
  subst hsz
  have hD := hD0.self (sz := s.heap.size)
  generalize hAe : va_A (WS_X12_isWord cI cJ cZ cY a0 a0_a a0_image a0_texts a0_board a0_taken a0_fars a0_before a0_tape a0_pile a0_rows a0_told a0_values a0_truth a0_keeps v0) s.heap.size = A at hD hT ⊢
  have hA : ∀ q : Nat, s.heap.size ≤ q → A q := fun q h => by rw [← hAe]; exact Or.inr h
  have hS : va_S A s.heap s.heap [] := va_S.rf
  have hl := lv_entry ([.ref a0, .long p0]) (n := 3) (Nat.le_of_ble_eq_true rfl)
  have he : entryFrame m args 3 = F0 m 0 (lg_sl ([.ref a0, .long p0]) ++ List.replicate (3 - (lg_sl ([.ref a0, .long p0])).length) Slot.unset).toArray [] := by rw [hargs, lg_entry_eq]
  rw [he]
  generalize (lg_sl ([.ref a0, .long p0]) ++ List.replicate (3 - (lg_sl ([.ref a0, .long p0])).length) Slot.unset).toArray = ls at hl ⊢
  have hl : lv_has ls 3 [(0, .ref a0), (1, .long p0)] := hl
  show W p l e rm_X12_isWord s m args below meth c s.heap [] 0 0 _ _
  refine W.genQ (fun Q hQ => ?_)
  generalize hHe : s.heap = H at hP ⊢
  have hS : va_S A s.heap H [] := by rw [← hHe]; exact va_S.rf
  generalize ([] : List Loc) = locs at hS ⊢
  unfold f_X12_isWord at hg
  refine lv_aload_n hx hb dX12_isWord_0 rfl (lv_at hl 0 rfl) ?_
  refine va_get (ci := 11) (v := .int (pX12_token v0)) (C := RX12) (T := TX12) (N := 43) hx hb htb uX12 hown hK.1 hP 0 rfl rfl 15 (by decide) (htb _ tg_951) (fun _ h9 => h9) rfl dX12_isWord_1 ?_
  refine lv_iconst (v := 2) hx hb dX12_isWord_4 (by decide) ?_
  refine lv_icmp_ne (tgt := 21) hx hb dX12_isWord_5 (by decide) (fun c_1 => ?_) (fun c_1 => ?_)
  · have hg := g_if hg c_1
    refine lv_iconst (v := 0) hx hb dX12_isWord_21 (by decide) ?_
    have hg := Option.some.inj hg
    rw [hQ]
    exact W.zret (v := 0) (ty := .boolean) hx hb hr rfl (fun t ht hW => ⟨⟨0, (), rfl, hg, by rw [ht]; exact hP, hD⟩, hS.F ht⟩) hS.2.2 dX12_isWord_22
  · have hg := g_it hg c_1
    refine lv_aload_n hx hb dX12_isWord_8 rfl (lv_at hl 0 rfl) ?_
    refine va_get (ci := 11) (v := .long (pX12_word v0)) (C := RX12) (T := TX12) (N := 43) hx hb htb uX12 hown hK.1 hP 0 rfl rfl 17 (by decide) (htb _ tg_953) (fun _ h9 => h9) rfl dX12_isWord_9 ?_
    refine lv_lload_n hx hb dX12_isWord_12 rfl (lv_at hl 1 rfl) ?_
    refine W.lcmp hx hb dX12_isWord_13 ?_
    refine lv_if_ne (tgt := 21) hx hb dX12_isWord_14 (by decide) (fun c_2 => ?_) (fun c_2 => ?_)
    · have hg := g_if hg c_2
      refine lv_iconst (v := 0) hx hb dX12_isWord_21 (by decide) ?_
      have hg := Option.some.inj hg
      rw [hQ]
      exact W.zret (v := 0) (ty := .boolean) hx hb hr rfl (fun t ht hW => ⟨⟨0, (), rfl, hg, by rw [ht]; exact hP, hD⟩, hS.F ht⟩) hS.2.2 dX12_isWord_22
    · have hg := g_it hg c_2
      refine lv_iconst (v := 1) hx hb dX12_isWord_17 (by decide) ?_
      refine lv_goto (tgt := 22) hx hb dX12_isWord_18 (by decide) ?_
      have hg := Option.some.inj hg
      rw [hQ]
      exact W.zret (v := 1) (ty := .boolean) hx hb hr rfl (fun t ht hW => ⟨⟨1, (), rfl, hg, by rw [ht]; exact hP, hD⟩, hS.F ht⟩) hS.2.2 dX12_isWord_22

/-! ManyEyesModel.emit(II)V -/
def WS_X12_emit (cI cJ cZ cY : ClassId) (a0 a0_a a0_image a0_texts a0_board a0_taken a0_fars a0_before a0_tape a0_pile a0_rows a0_told a0_values a0_truth a0_keeps : Nat) (v0 : BX12) : va_W := (GX12 cI cJ cZ cY a0 a0_a a0_image a0_texts a0_board a0_taken a0_fars a0_before a0_tape a0_pile a0_rows a0_told a0_values a0_truth a0_keeps v0)
def f_X12_emit (v0 : BX12) (p0 : Int32) (p1 : Int32) : Option (BX12) := g_gd (inB (((pX12_text0 v0) + 80) + ((2 : Int32) * (pX12_written v0))) 6400) (g_lt (sX12_texts v0 (upd (pX12_texts v0) ((((pX12_text0 v0) + 80) + ((2 : Int32) * (pX12_written v0))) : Int32).toNatClampNeg p0)) (fun v0_2 => g_gd (inB ((((pX12_text0 v0_2) + 80) + ((2 : Int32) * (pX12_written v0_2))) + 1) 6400) (g_lt (sX12_texts v0_2 (upd (pX12_texts v0_2) (((((pX12_text0 v0_2) + 80) + ((2 : Int32) * (pX12_written v0_2))) + 1) : Int32).toNatClampNeg p1)) (fun v0_4 => g_lt (((pX12_written v0_4) + 1) : Int32) (fun x_5 => g_lt (sX12_written v0_4 x_5) (fun v0_6 => some (v0_6)))))))
abbrev rm_X12_emit : Room := { frames := 0, cells := 0, slots := 0, locals := 0 }
set_option maxHeartbeats 4000000 in
set_option maxRecDepth 100000 in
theorem k_X12_emit {l : Launch} {D : va_G} {cI cJ cZ cY : ClassId} {tX tY : Nat} {sz : Nat} (a0 a0_a a0_image a0_texts a0_board a0_taken a0_fars a0_before a0_tape a0_pile a0_rows a0_told a0_values a0_truth a0_keeps : Nat) (v0 : BX12) (p0 : Int32) (p1 : Int32) (res : BX12) (hg : f_X12_emit v0 p0 p1 = some res) : Met l yX12_emit (Cond.code yX12_emit cX12_emit 3 none :: TB) rm_X12_emit (PC D cI cJ cZ cY tX tY [.ref a0, .int p0, .int p1] (WS_X12_emit cI cJ cZ cY a0 a0_a a0_image a0_texts a0_board a0_taken a0_fars a0_before a0_tape a0_pile a0_rows a0_told a0_values a0_truth a0_keeps v0) sz) (va_Qv (fun (u : BX12) => u = res) (BC D (fun u : BX12 => WS_X12_emit cI cJ cZ cY a0 a0_a a0_image a0_texts a0_board a0_taken a0_fars a0_before a0_tape a0_pile a0_rows a0_told a0_values a0_truth a0_keeps u) (va_A (WS_X12_emit cI cJ cZ cY a0 a0_a a0_image a0_texts a0_board a0_taken a0_fars a0_before a0_tape a0_pile a0_rows a0_told a0_values a0_truth a0_keeps v0) sz)) (va_A (WS_X12_emit cI cJ cZ cY a0 a0_a a0_image a0_texts a0_board a0_taken a0_fars a0_before a0_tape a0_pile a0_rows a0_told a0_values a0_truth a0_keeps v0) sz)) 0 0 (va_A (WS_X12_emit cI cJ cZ cY a0 a0_a a0_image a0_texts a0_board a0_taken a0_fars a0_before a0_tape a0_pile a0_rows a0_told a0_values a0_truth a0_keeps v0) sz) := by
  refine Met.ofW (cc := cX12_emit) (maxL := 3) (ret := none) (by decide) rfl ?_
  intro p e s m args below meth c s₁ B hml hv
  obtain ⟨hargs, hsz, hP, hK, hD0, hT⟩ := hv
  have hx := B.exec
  have hb := B.bytes
  have hr := B.returns
  have htb : ∀ w ∈ TB, w.before args s = true := fun w h => atoms_spec (ws := Cond.code yX12_emit cX12_emit 3 none :: TB) B.pre w (List.mem_cons_of_mem _ h)
  have hown : s.vm.findClass "ManyEyesModel" = some m.cls := findClass_of_methodNamed B.named
  have hlocks := B.notSynchronized
  subst hsz
  have hD := hD0.self (sz := s.heap.size)
  generalize hAe : va_A (WS_X12_emit cI cJ cZ cY a0 a0_a a0_image a0_texts a0_board a0_taken a0_fars a0_before a0_tape a0_pile a0_rows a0_told a0_values a0_truth a0_keeps v0) s.heap.size = A at hD hT ⊢
  have hA : ∀ q : Nat, s.heap.size ≤ q → A q := fun q h => by rw [← hAe]; exact Or.inr h
  have hS : va_S A s.heap s.heap [] := va_S.rf
  have hl := lv_entry ([.ref a0, .int p0, .int p1]) (n := 3) (Nat.le_of_ble_eq_true rfl)
  have he : entryFrame m args 3 = F0 m 0 (lg_sl ([.ref a0, .int p0, .int p1]) ++ List.replicate (3 - (lg_sl ([.ref a0, .int p0, .int p1])).length) Slot.unset).toArray [] := by rw [hargs, lg_entry_eq]
  rw [he]
  generalize (lg_sl ([.ref a0, .int p0, .int p1]) ++ List.replicate (3 - (lg_sl ([.ref a0, .int p0, .int p1])).length) Slot.unset).toArray = ls at hl ⊢
  have hl : lv_has ls 3 [(0, .ref a0), (1, .int p0), (2, .int p1)] := hl
  show W p l e rm_X12_emit s m args below meth c s.heap [] 0 0 _ _
  refine W.genQ (fun Q hQ => ?_)
  generalize hHe : s.heap = H at hP ⊢
  have hS : va_S A s.heap H [] := by rw [← hHe]; exact va_S.rf
  generalize ([] : List Loc) = locs at hS ⊢
  unfold f_X12_emit at hg
  refine lv_aload_n hx hb dX12_emit_0 rfl (lv_at hl 0 rfl) ?_
  refine va_get (ci := 11) (v := .ref a0_texts) (C := RX12) (T := TX12) (N := 43) hx hb htb uX12 hown hK.1 hP 0 rfl rfl 4 (by decide) (htb _ tg_940) (fun _ h9 => h9) rfl dX12_emit_1 ?_
  refine lv_aload_n hx hb dX12_emit_4 rfl (lv_at hl 0 rfl) ?_
  refine va_get (ci := 11) (v := .int (pX12_text0 v0)) (C := RX12) (T := TX12) (N := 43) hx hb htb uX12 hown hK.1 hP 0 rfl rfl 18 (by decide) (htb _ tg_954) (fun _ h9 => h9) rfl dX12_emit_5 ?_
  refine lv_bipush (v := 80) hx hb dX12_emit_8 (by decide) ?_
  refine lv_iadd hx hb dX12_emit_10 ?_
  refine lv_iconst (v := 2) hx hb dX12_emit_11 (by decide) ?_
  refine lv_aload_n hx hb dX12_emit_12 rfl (lv_at hl 0 rfl) ?_
  refine va_get (ci := 11) (v := .int (pX12_written v0)) (C := RX12) (T := TX12) (N := 43) hx hb htb uX12 hown hK.1 hP 0 rfl rfl 20 (by decide) (htb _ tg_956) (fun _ h9 => h9) rfl dX12_emit_13 ?_
  refine lv_imul hx hb dX12_emit_16 ?_
  refine lv_iadd hx hb dX12_emit_17 ?_
  refine lv_iload_n hx hb dX12_emit_18 rfl (lv_at hl 1 rfl) ?_
  obtain ⟨h_1, hg⟩ := g_gde hg
  refine va_iast hx hb hK.1 hP hD hS 3 0 rfl rfl (inB_vp h_1) dX12_emit_19 (fun H locs hP hD hS => ?_)
  obtain ⟨v0_2, ev0_2⟩ : ∃ z, z = sX12_texts v0 (upd (pX12_texts v0) ((((pX12_text0 v0) + 80) + ((2 : Int32) * (pX12_written v0))) : Int32).toNatClampNeg p0) := ⟨_, rfl⟩
  have hP : va_P D vwCl (WS_X12_emit cI cJ cZ cY a0 a0_a a0_image a0_texts a0_board a0_taken a0_fars a0_before a0_tape a0_pile a0_rows a0_told a0_values a0_truth a0_keeps v0_2) H := by rw [ev0_2]; exact hP
  have hD : va_D A (WS_X12_emit cI cJ cZ cY a0 a0_a a0_image a0_texts a0_board a0_taken a0_fars a0_before a0_tape a0_pile a0_rows a0_told a0_values a0_truth a0_keeps v0_2) := by rw [ev0_2]; exact hD
  have hg := g_lte hg v0_2 ev0_2
  refine lv_aload_n hx hb dX12_emit_20 rfl (lv_at hl 0 rfl) ?_
  refine va_get (ci := 11) (v := .ref a0_texts) (C := RX12) (T := TX12) (N := 43) hx hb htb uX12 hown hK.1 hP 0 rfl rfl 4 (by decide) (htb _ tg_940) (fun _ h9 => h9) rfl dX12_emit_21 ?_
  refine lv_aload_n hx hb dX12_emit_24 rfl (lv_at hl 0 rfl) ?_
  refine va_get (ci := 11) (v := .int (pX12_text0 v0_2)) (C := RX12) (T := TX12) (N := 43) hx hb htb uX12 hown hK.1 hP 0 rfl rfl 18 (by decide) (htb _ tg_954) (fun _ h9 => h9) rfl dX12_emit_25 ?_
  refine lv_bipush (v := 80) hx hb dX12_emit_28 (by decide) ?_
  refine lv_iadd hx hb dX12_emit_30 ?_
  refine lv_iconst (v := 2) hx hb dX12_emit_31 (by decide) ?_
  refine lv_aload_n hx hb dX12_emit_32 rfl (lv_at hl 0 rfl) ?_
  refine va_get (ci := 11) (v := .int (pX12_written v0_2)) (C := RX12) (T := TX12) (N := 43) hx hb htb uX12 hown hK.1 hP 0 rfl rfl 20 (by decide) (htb _ tg_956) (fun _ h9 => h9) rfl dX12_emit_33 ?_
  refine lv_imul hx hb dX12_emit_36 ?_
  refine lv_iadd hx hb dX12_emit_37 ?_
  refine lv_iconst (v := 1) hx hb dX12_emit_38 (by decide) ?_
  refine lv_iadd hx hb dX12_emit_39 ?_
  refine lv_iload_n hx hb dX12_emit_40 rfl (lv_at hl 2 rfl) ?_
  obtain ⟨h_3, hg⟩ := g_gde hg
  refine va_iast hx hb hK.1 hP hD hS 3 0 rfl rfl (inB_vp h_3) dX12_emit_41 (fun H locs hP hD hS => ?_)
  obtain ⟨v0_4, ev0_4⟩ : ∃ z, z = sX12_texts v0_2 (upd (pX12_texts v0_2) (((((pX12_text0 v0_2) + 80) + ((2 : Int32) * (pX12_written v0_2))) + 1) : Int32).toNatClampNeg p1) := ⟨_, rfl⟩
  have hP : va_P D vwCl (WS_X12_emit cI cJ cZ cY a0 a0_a a0_image a0_texts a0_board a0_taken a0_fars a0_before a0_tape a0_pile a0_rows a0_told a0_values a0_truth a0_keeps v0_4) H := by rw [ev0_4]; exact hP
  have hD : va_D A (WS_X12_emit cI cJ cZ cY a0 a0_a a0_image a0_texts a0_board a0_taken a0_fars a0_before a0_tape a0_pile a0_rows a0_told a0_values a0_truth a0_keeps v0_4) := by rw [ev0_4]; exact hD
  have hg := g_lte hg v0_4 ev0_4
  refine lv_aload_n hx hb dX12_emit_42 rfl (lv_at hl 0 rfl) ?_
  refine lv_dup hx hb dX12_emit_43 rfl ?_
  refine va_get (ci := 11) (v := .int (pX12_written v0_4)) (C := RX12) (T := TX12) (N := 43) hx hb htb uX12 hown hK.1 hP 0 rfl rfl 20 (by decide) (htb _ tg_956) (fun _ h9 => h9) rfl dX12_emit_44 ?_
  refine lv_iconst (v := 1) hx hb dX12_emit_47 (by decide) ?_
  refine lv_iadd hx hb dX12_emit_48 ?_
  refine lv_topi (fun x_5 ex_5 => ?_)
  have hg := g_lte hg x_5 ex_5
  refine va_put (ci := 11) (v := .int x_5) (ty := .int) (C := RX12) (T := TX12) (N := 43) hx hb htb uX12 tyX12 tyX12_ok nmX12 hown hK.1 hP hD hS 0 rfl rfl 20 (by decide) (htb _ tg_956) (fun _ h9 => h9) rfl (by decide +kernel) rfl rfl (Nat.le_of_ble_eq_true rfl) dX12_emit_49 (fun H locs hP hD hS => ?_)
  obtain ⟨v0_6, ev0_6⟩ : ∃ z, z = sX12_written v0_4 x_5 := ⟨_, rfl⟩
  have hP : va_P D vwCl (WS_X12_emit cI cJ cZ cY a0 a0_a a0_image a0_texts a0_board a0_taken a0_fars a0_before a0_tape a0_pile a0_rows a0_told a0_values a0_truth a0_keeps v0_6) H := by rw [ev0_6]; exact hP
  have hD : va_D A (WS_X12_emit cI cJ cZ cY a0 a0_a a0_image a0_texts a0_board a0_taken a0_fars a0_before a0_tape a0_pile a0_rows a0_told a0_values a0_truth a0_keeps v0_6) := by rw [ev0_6]; exact hD
  have hg := g_lte hg v0_6 ev0_6
  have hg := Option.some.inj hg
  rw [hQ]
  exact W.vret hx hb hr (fun t ht hW => ⟨⟨(v0_6), rfl, hg, by rw [ht]; exact hP, hD⟩, hS.F ht⟩) hS.2.2 dX12_emit_52

/-! ManyEyesModel.push(I)V -/
def WS_X12_push (cI cJ cZ cY : ClassId) (a0 a0_a a0_image a0_texts a0_board a0_taken a0_fars a0_before a0_tape a0_pile a0_rows a0_told a0_values a0_truth a0_keeps : Nat) (v0 : BX12) : va_W := (GX12 cI cJ cZ cY a0 a0_a a0_image a0_texts a0_board a0_taken a0_fars a0_before a0_tape a0_pile a0_rows a0_told a0_values a0_truth a0_keeps v0)
def f_X12_push (v0 : BX12) (p0 : Int32) : Option (BX12) := g_gd (inB (pX12_piled v0) 160) (g_lt (sX12_pile v0 (upd (pX12_pile v0) ((pX12_piled v0) : Int32).toNatClampNeg p0)) (fun v0_2 => g_lt (((pX12_piled v0_2) + 1) : Int32) (fun x_3 => g_lt (sX12_piled v0_2 x_3) (fun v0_4 => some (v0_4)))))
abbrev rm_X12_push : Room := { frames := 0, cells := 0, slots := 0, locals := 0 }
set_option maxHeartbeats 4000000 in
set_option maxRecDepth 100000 in
theorem k_X12_push {l : Launch} {D : va_G} {cI cJ cZ cY : ClassId} {tX tY : Nat} {sz : Nat} (a0 a0_a a0_image a0_texts a0_board a0_taken a0_fars a0_before a0_tape a0_pile a0_rows a0_told a0_values a0_truth a0_keeps : Nat) (v0 : BX12) (p0 : Int32) (res : BX12) (hg : f_X12_push v0 p0 = some res) : Met l yX12_push (Cond.code yX12_push cX12_push 2 none :: TB) rm_X12_push (PC D cI cJ cZ cY tX tY [.ref a0, .int p0] (WS_X12_push cI cJ cZ cY a0 a0_a a0_image a0_texts a0_board a0_taken a0_fars a0_before a0_tape a0_pile a0_rows a0_told a0_values a0_truth a0_keeps v0) sz) (va_Qv (fun (u : BX12) => u = res) (BC D (fun u : BX12 => WS_X12_push cI cJ cZ cY a0 a0_a a0_image a0_texts a0_board a0_taken a0_fars a0_before a0_tape a0_pile a0_rows a0_told a0_values a0_truth a0_keeps u) (va_A (WS_X12_push cI cJ cZ cY a0 a0_a a0_image a0_texts a0_board a0_taken a0_fars a0_before a0_tape a0_pile a0_rows a0_told a0_values a0_truth a0_keeps v0) sz)) (va_A (WS_X12_push cI cJ cZ cY a0 a0_a a0_image a0_texts a0_board a0_taken a0_fars a0_before a0_tape a0_pile a0_rows a0_told a0_values a0_truth a0_keeps v0) sz)) 0 0 (va_A (WS_X12_push cI cJ cZ cY a0 a0_a a0_image a0_texts a0_board a0_taken a0_fars a0_before a0_tape a0_pile a0_rows a0_told a0_values a0_truth a0_keeps v0) sz) := by
  refine Met.ofW (cc := cX12_push) (maxL := 2) (ret := none) (by decide) rfl ?_
  intro p e s m args below meth c s₁ B hml hv
  obtain ⟨hargs, hsz, hP, hK, hD0, hT⟩ := hv
  have hx := B.exec
  have hb := B.bytes
  have hr := B.returns
  have htb : ∀ w ∈ TB, w.before args s = true := fun w h => atoms_spec (ws := Cond.code yX12_push cX12_push 2 none :: TB) B.pre w (List.mem_cons_of_mem _ h)
  have hown : s.vm.findClass "ManyEyesModel" = some m.cls := findClass_of_methodNamed B.named
  have hlocks := B.notSynchronized
  subst hsz
  have hD := hD0.self (sz := s.heap.size)
  generalize hAe : va_A (WS_X12_push cI cJ cZ cY a0 a0_a a0_image a0_texts a0_board a0_taken a0_fars a0_before a0_tape a0_pile a0_rows a0_told a0_values a0_truth a0_keeps v0) s.heap.size = A at hD hT ⊢
  have hA : ∀ q : Nat, s.heap.size ≤ q → A q := fun q h => by rw [← hAe]; exact Or.inr h
  have hS : va_S A s.heap s.heap [] := va_S.rf
  have hl := lv_entry ([.ref a0, .int p0]) (n := 2) (Nat.le_of_ble_eq_true rfl)
  have he : entryFrame m args 2 = F0 m 0 (lg_sl ([.ref a0, .int p0]) ++ List.replicate (2 - (lg_sl ([.ref a0, .int p0])).length) Slot.unset).toArray [] := by rw [hargs, lg_entry_eq]
  rw [he]
  generalize (lg_sl ([.ref a0, .int p0]) ++ List.replicate (2 - (lg_sl ([.ref a0, .int p0])).length) Slot.unset).toArray = ls at hl ⊢
  have hl : lv_has ls 2 [(0, .ref a0), (1, .int p0)] := hl
  show W p l e rm_X12_push s m args below meth c s.heap [] 0 0 _ _
  refine W.genQ (fun Q hQ => ?_)
  generalize hHe : s.heap = H at hP ⊢
  have hS : va_S A s.heap H [] := by rw [← hHe]; exact va_S.rf
  generalize ([] : List Loc) = locs at hS ⊢
  unfold f_X12_push at hg
  refine lv_aload_n hx hb dX12_push_0 rfl (lv_at hl 0 rfl) ?_
  refine va_get (ci := 11) (v := .ref a0_pile) (C := RX12) (T := TX12) (N := 43) hx hb htb uX12 hown hK.1 hP 0 rfl rfl 23 (by decide) (htb _ tg_959) (fun _ h9 => h9) rfl dX12_push_1 ?_
  refine lv_aload_n hx hb dX12_push_4 rfl (lv_at hl 0 rfl) ?_
  refine va_get (ci := 11) (v := .int (pX12_piled v0)) (C := RX12) (T := TX12) (N := 43) hx hb htb uX12 hown hK.1 hP 0 rfl rfl 24 (by decide) (htb _ tg_960) (fun _ h9 => h9) rfl dX12_push_5 ?_
  refine lv_iload_n hx hb dX12_push_8 rfl (lv_at hl 1 rfl) ?_
  obtain ⟨h_1, hg⟩ := g_gde hg
  refine va_iast hx hb hK.1 hP hD hS 9 0 rfl rfl (inB_vp h_1) dX12_push_9 (fun H locs hP hD hS => ?_)
  obtain ⟨v0_2, ev0_2⟩ : ∃ z, z = sX12_pile v0 (upd (pX12_pile v0) ((pX12_piled v0) : Int32).toNatClampNeg p0) := ⟨_, rfl⟩
  have hP : va_P D vwCl (WS_X12_push cI cJ cZ cY a0 a0_a a0_image a0_texts a0_board a0_taken a0_fars a0_before a0_tape a0_pile a0_rows a0_told a0_values a0_truth a0_keeps v0_2) H := by rw [ev0_2]; exact hP
  have hD : va_D A (WS_X12_push cI cJ cZ cY a0 a0_a a0_image a0_texts a0_board a0_taken a0_fars a0_before a0_tape a0_pile a0_rows a0_told a0_values a0_truth a0_keeps v0_2) := by rw [ev0_2]; exact hD
  have hg := g_lte hg v0_2 ev0_2
  refine lv_aload_n hx hb dX12_push_10 rfl (lv_at hl 0 rfl) ?_
  refine lv_dup hx hb dX12_push_11 rfl ?_
  refine va_get (ci := 11) (v := .int (pX12_piled v0_2)) (C := RX12) (T := TX12) (N := 43) hx hb htb uX12 hown hK.1 hP 0 rfl rfl 24 (by decide) (htb _ tg_960) (fun _ h9 => h9) rfl dX12_push_12 ?_
  refine lv_iconst (v := 1) hx hb dX12_push_15 (by decide) ?_
  refine lv_iadd hx hb dX12_push_16 ?_
  refine lv_topi (fun x_3 ex_3 => ?_)
  have hg := g_lte hg x_3 ex_3
  refine va_put (ci := 11) (v := .int x_3) (ty := .int) (C := RX12) (T := TX12) (N := 43) hx hb htb uX12 tyX12 tyX12_ok nmX12 hown hK.1 hP hD hS 0 rfl rfl 24 (by decide) (htb _ tg_960) (fun _ h9 => h9) rfl (by decide +kernel) rfl rfl (Nat.le_of_ble_eq_true rfl) dX12_push_17 (fun H locs hP hD hS => ?_)
  obtain ⟨v0_4, ev0_4⟩ : ∃ z, z = sX12_piled v0_2 x_3 := ⟨_, rfl⟩
  have hP : va_P D vwCl (WS_X12_push cI cJ cZ cY a0 a0_a a0_image a0_texts a0_board a0_taken a0_fars a0_before a0_tape a0_pile a0_rows a0_told a0_values a0_truth a0_keeps v0_4) H := by rw [ev0_4]; exact hP
  have hD : va_D A (WS_X12_push cI cJ cZ cY a0 a0_a a0_image a0_texts a0_board a0_taken a0_fars a0_before a0_tape a0_pile a0_rows a0_told a0_values a0_truth a0_keeps v0_4) := by rw [ev0_4]; exact hD
  have hg := g_lte hg v0_4 ev0_4
  have hg := Option.some.inj hg
  rw [hQ]
  exact W.vret hx hb hr (fun t ht hW => ⟨⟨(v0_4), rfl, hg, by rw [ht]; exact hP, hD⟩, hS.F ht⟩) hS.2.2 dX12_push_20

/-! ManyEyesModel.whole()V -/
def WS_X12_whole (cI cJ cZ cY : ClassId) (a0 a0_a a0_image a0_texts a0_board a0_taken a0_fars a0_before a0_tape a0_pile a0_rows a0_told a0_values a0_truth a0_keeps : Nat) (v0 : BX12) : va_W := (GX12 cI cJ cZ cY a0 a0_a a0_image a0_texts a0_board a0_taken a0_fars a0_before a0_tape a0_pile a0_rows a0_told a0_values a0_truth a0_keeps v0)
def f_X12_whole_b5B (J5 : BX12 → Option (BX12)) (v0 : BX12) : Option (BX12) := if ((pX12_piled v0) : Int32) ≤ 0 then (some (v0)) else (g_gd (inB ((pX12_piled v0) - 1) 160) (if (((pX12_pile v0) (((pX12_piled v0) - 1) : Int32).toNatClampNeg) : Int32) = 2 then (g_lt (((pX12_piled v0) - 1) : Int32) (fun x_4 => g_lt (sX12_piled v0 x_4) (fun v0_5 => g_lt (((pX12_opens v0_5) - 1) : Int32) (fun x_6 => g_lt (sX12_opens v0_5 x_6) (fun v0_7 => (f_X12_emit v0_7 2 0).bind (fun r_8 => J5 (r_8))))))) else (some (v0))))
def f_X12_whole_b5 : Nat → BX12 → Option (BX12) := g_lp (fun J z => f_X12_whole_b5B J z)
def f_X12_whole (v0 : BX12) : Option (BX12) := g_lt (sX12_isWhole v0 1) (fun v0_9 => f_X12_whole_b5 fU (v0_9))
abbrev rm_X12_whole : Room := { frames := 1, cells := 0, slots := 0, locals := 22 }
set_option maxHeartbeats 4000000 in
set_option maxRecDepth 100000 in
theorem k_X12_whole {l : Launch} {D : va_G} {cI cJ cZ cY : ClassId} {tX tY : Nat} {sz : Nat} (a0 a0_a a0_image a0_texts a0_board a0_taken a0_fars a0_before a0_tape a0_pile a0_rows a0_told a0_values a0_truth a0_keeps : Nat) (v0 : BX12) (res : BX12) (hg : f_X12_whole v0 = some res) : Met l yX12_whole (Cond.code yX12_whole cX12_whole 1 none :: TB) rm_X12_whole (PC D cI cJ cZ cY tX tY [.ref a0] (WS_X12_whole cI cJ cZ cY a0 a0_a a0_image a0_texts a0_board a0_taken a0_fars a0_before a0_tape a0_pile a0_rows a0_told a0_values a0_truth a0_keeps v0) sz) (va_Qv (fun (u : BX12) => u = res) (BC D (fun u : BX12 => WS_X12_whole cI cJ cZ cY a0 a0_a a0_image a0_texts a0_board a0_taken a0_fars a0_before a0_tape a0_pile a0_rows a0_told a0_values a0_truth a0_keeps u) (va_A (WS_X12_whole cI cJ cZ cY a0 a0_a a0_image a0_texts a0_board a0_taken a0_fars a0_before a0_tape a0_pile a0_rows a0_told a0_values a0_truth a0_keeps v0) sz)) (va_A (WS_X12_whole cI cJ cZ cY a0 a0_a a0_image a0_texts a0_board a0_taken a0_fars a0_before a0_tape a0_pile a0_rows a0_told a0_values a0_truth a0_keeps v0) sz)) 0 0 (va_A (WS_X12_whole cI cJ cZ cY a0 a0_a a0_image a0_texts a0_board a0_taken a0_fars a0_before a0_tape a0_pile a0_rows a0_told a0_values a0_truth a0_keeps v0) sz) := by
  refine Met.ofW (cc := cX12_whole) (maxL := 1) (ret := none) (by decide) rfl ?_
  intro p e s m args below meth c s₁ B hml hv
  obtain ⟨hargs, hsz, hP, hK, hD0, hT⟩ := hv
  have hx := B.exec
  have hb := B.bytes
  have hr := B.returns
  have htb : ∀ w ∈ TB, w.before args s = true := fun w h => atoms_spec (ws := Cond.code yX12_whole cX12_whole 1 none :: TB) B.pre w (List.mem_cons_of_mem _ h)
  have hown : s.vm.findClass "ManyEyesModel" = some m.cls := findClass_of_methodNamed B.named
  have hlocks := B.notSynchronized
  subst hsz
  have hD := hD0.self (sz := s.heap.size)
  generalize hAe : va_A (WS_X12_whole cI cJ cZ cY a0 a0_a a0_image a0_texts a0_board a0_taken a0_fars a0_before a0_tape a0_pile a0_rows a0_told a0_values a0_truth a0_keeps v0) s.heap.size = A at hD hT ⊢
  have hA : ∀ q : Nat, s.heap.size ≤ q → A q := fun q h => by rw [← hAe]; exact Or.inr h
  have hS : va_S A s.heap s.heap [] := va_S.rf
  have hl := lv_entry ([.ref a0]) (n := 1) (Nat.le_of_ble_eq_true rfl)
  have he : entryFrame m args 1 = F0 m 0 (lg_sl ([.ref a0]) ++ List.replicate (1 - (lg_sl ([.ref a0])).length) Slot.unset).toArray [] := by rw [hargs, lg_entry_eq]
  rw [he]
  generalize (lg_sl ([.ref a0]) ++ List.replicate (1 - (lg_sl ([.ref a0])).length) Slot.unset).toArray = ls at hl ⊢
  have hl : lv_has ls 1 [(0, .ref a0)] := hl
  show W p l e rm_X12_whole s m args below meth c s.heap [] 0 0 _ _
  refine W.genQ (fun Q hQ => ?_)
  have b_5 : ∀ (n : Nat), ∀ (v0 : BX12) (H : Heap) (locs : List Loc) (ls : Array Slot), va_P D vwCl (WS_X12_whole cI cJ cZ cY a0 a0_a a0_image a0_texts a0_board a0_taken a0_fars a0_before a0_tape a0_pile a0_rows a0_told a0_values a0_truth a0_keeps v0) H → va_D A (WS_X12_whole cI cJ cZ cY a0 a0_a a0_image a0_texts a0_board a0_taken a0_fars a0_before a0_tape a0_pile a0_rows a0_told a0_values a0_truth a0_keeps v0) → va_S A s.heap H locs → lv_has ls 1 [(0, .ref a0)] → f_X12_whole_b5 n (v0) = some res → W p l e rm_X12_whole s m args below meth c H locs 0 0 Q (F0 m 5 ls []) := by
    intro n
    induction n with
    | zero =>
      intro v0 H locs ls hP hD hS hl hg
      exact (g_lp0 hg).elim
    | succ n ih =>
      intro v0 H locs ls hP hD hS hl hg
      have hg : f_X12_whole_b5B (f_X12_whole_b5 n) v0 = some res := hg
      unfold f_X12_whole_b5B at hg
      refine lv_aload_n hx hb dX12_whole_5 rfl (lv_at hl 0 rfl) ?_
      refine va_get (ci := 11) (v := .int (pX12_piled v0)) (C := RX12) (T := TX12) (N := 43) hx hb htb uX12 hown hK.1 hP 0 rfl rfl 24 (by decide) (htb _ tg_960) (fun _ h9 => h9) rfl dX12_whole_6 ?_
      refine lv_if_le (tgt := 56) hx hb dX12_whole_9 (by decide) (fun c_1 => ?_) (fun c_1 => ?_)
      · have hg := g_it hg c_1
        have hg := Option.some.inj hg
        rw [hQ]
        exact W.vret hx hb hr (fun t ht hW => ⟨⟨(v0), rfl, hg, by rw [ht]; exact hP, hD⟩, hS.F ht⟩) hS.2.2 dX12_whole_56
      · have hg := g_if hg c_1
        refine lv_aload_n hx hb dX12_whole_12 rfl (lv_at hl 0 rfl) ?_
        refine va_get (ci := 11) (v := .ref a0_pile) (C := RX12) (T := TX12) (N := 43) hx hb htb uX12 hown hK.1 hP 0 rfl rfl 23 (by decide) (htb _ tg_959) (fun _ h9 => h9) rfl dX12_whole_13 ?_
        refine lv_aload_n hx hb dX12_whole_16 rfl (lv_at hl 0 rfl) ?_
        refine va_get (ci := 11) (v := .int (pX12_piled v0)) (C := RX12) (T := TX12) (N := 43) hx hb htb uX12 hown hK.1 hP 0 rfl rfl 24 (by decide) (htb _ tg_960) (fun _ h9 => h9) rfl dX12_whole_17 ?_
        refine lv_iconst (v := 1) hx hb dX12_whole_20 (by decide) ?_
        refine lv_isub hx hb dX12_whole_21 ?_
        obtain ⟨h_2, hg⟩ := g_gde hg
        refine va_iald hx hb hK.1 hP 9 0 rfl rfl (inB_vp h_2) dX12_whole_22 ?_
        refine lv_iconst (v := 2) hx hb dX12_whole_23 (by decide) ?_
        refine lv_icmp_ne (tgt := 56) hx hb dX12_whole_24 (by decide) (fun c_3 => ?_) (fun c_3 => ?_)
        · have hg := g_if hg c_3
          have hg := Option.some.inj hg
          rw [hQ]
          exact W.vret hx hb hr (fun t ht hW => ⟨⟨(v0), rfl, hg, by rw [ht]; exact hP, hD⟩, hS.F ht⟩) hS.2.2 dX12_whole_56
        · have hg := g_it hg c_3
          refine lv_aload_n hx hb dX12_whole_27 rfl (lv_at hl 0 rfl) ?_
          refine lv_dup hx hb dX12_whole_28 rfl ?_
          refine va_get (ci := 11) (v := .int (pX12_piled v0)) (C := RX12) (T := TX12) (N := 43) hx hb htb uX12 hown hK.1 hP 0 rfl rfl 24 (by decide) (htb _ tg_960) (fun _ h9 => h9) rfl dX12_whole_29 ?_
          refine lv_iconst (v := 1) hx hb dX12_whole_32 (by decide) ?_
          refine lv_isub hx hb dX12_whole_33 ?_
          refine lv_topi (fun x_4 ex_4 => ?_)
          have hg := g_lte hg x_4 ex_4
          refine va_put (ci := 11) (v := .int x_4) (ty := .int) (C := RX12) (T := TX12) (N := 43) hx hb htb uX12 tyX12 tyX12_ok nmX12 hown hK.1 hP hD hS 0 rfl rfl 24 (by decide) (htb _ tg_960) (fun _ h9 => h9) rfl (by decide +kernel) rfl rfl (Nat.le_of_ble_eq_true rfl) dX12_whole_34 (fun H locs hP hD hS => ?_)
          obtain ⟨v0_5, ev0_5⟩ : ∃ z, z = sX12_piled v0 x_4 := ⟨_, rfl⟩
          have hP : va_P D vwCl (WS_X12_whole cI cJ cZ cY a0 a0_a a0_image a0_texts a0_board a0_taken a0_fars a0_before a0_tape a0_pile a0_rows a0_told a0_values a0_truth a0_keeps v0_5) H := by rw [ev0_5]; exact hP
          have hD : va_D A (WS_X12_whole cI cJ cZ cY a0 a0_a a0_image a0_texts a0_board a0_taken a0_fars a0_before a0_tape a0_pile a0_rows a0_told a0_values a0_truth a0_keeps v0_5) := by rw [ev0_5]; exact hD
          have hg := g_lte hg v0_5 ev0_5
          refine lv_aload_n hx hb dX12_whole_37 rfl (lv_at hl 0 rfl) ?_
          refine lv_dup hx hb dX12_whole_38 rfl ?_
          refine va_get (ci := 11) (v := .int (pX12_opens v0_5)) (C := RX12) (T := TX12) (N := 43) hx hb htb uX12 hown hK.1 hP 0 rfl rfl 25 (by decide) (htb _ tg_961) (fun _ h9 => h9) rfl dX12_whole_39 ?_
          refine lv_iconst (v := 1) hx hb dX12_whole_42 (by decide) ?_
          refine lv_isub hx hb dX12_whole_43 ?_
          refine lv_topi (fun x_6 ex_6 => ?_)
          have hg := g_lte hg x_6 ex_6
          refine va_put (ci := 11) (v := .int x_6) (ty := .int) (C := RX12) (T := TX12) (N := 43) hx hb htb uX12 tyX12 tyX12_ok nmX12 hown hK.1 hP hD hS 0 rfl rfl 25 (by decide) (htb _ tg_961) (fun _ h9 => h9) rfl (by decide +kernel) rfl rfl (Nat.le_of_ble_eq_true rfl) dX12_whole_44 (fun H locs hP hD hS => ?_)
          obtain ⟨v0_7, ev0_7⟩ : ∃ z, z = sX12_opens v0_5 x_6 := ⟨_, rfl⟩
          have hP : va_P D vwCl (WS_X12_whole cI cJ cZ cY a0 a0_a a0_image a0_texts a0_board a0_taken a0_fars a0_before a0_tape a0_pile a0_rows a0_told a0_values a0_truth a0_keeps v0_7) H := by rw [ev0_7]; exact hP
          have hD : va_D A (WS_X12_whole cI cJ cZ cY a0 a0_a a0_image a0_texts a0_board a0_taken a0_fars a0_before a0_tape a0_pile a0_rows a0_told a0_values a0_truth a0_keeps v0_7) := by rw [ev0_7]; exact hD
          have hg := g_lte hg v0_7 ev0_7
          refine lv_aload_n hx hb dX12_whole_47 rfl (lv_at hl 0 rfl) ?_
          refine lv_iconst (v := 2) hx hb dX12_whole_48 (by decide) ?_
          refine lv_iconst (v := 0) hx hb dX12_whole_49 (by decide) ?_
          obtain ⟨r_8, hr_8, hg⟩ := g_bd hg
          refine cc_v (va_runV (C := RX12) (As := [.int 2, .int 0]) (rest := []) ⟨hx, hb, hml, hown, htb⟩ (k_X12_emit a0 a0_a a0_image a0_texts a0_board a0_taken a0_fars a0_before a0_tape a0_pile a0_rows a0_told a0_values a0_truth a0_keeps v0_7 2 0 r_8 hr_8) (cw_V 2 htb tg_1272 tg_13 tg_1269 tg_1271 ts_55 rfl rfl (by decide +kernel) ⟨Nat.le_of_ble_eq_true rfl, Nat.le_of_ble_eq_true rfl⟩) ⟨PC.blind, va_recv hK.1 hP (ci := 11) (q0 := 0) rfl rfl, PC.pre hK hT hP hD hS hA [0, 1, 2, 3, 4, 5, 6, 7, 8, 9, 10, 11, 12, 13, 14] rfl (by decide)⟩ rfl rfl hl.1 rfl (lv_room (Nat.le_of_ble_eq_true rfl)) dX12_whole_50 ⟨Nat.le_of_ble_eq_true rfl, Nat.le_of_ble_eq_true rfl⟩) hP hD hS hA [0, 1, 2, 3, 4, 5, 6, 7, 8, 9, 10, 11, 12, 13, 14] [] rfl rfl (by decide) (by decide) (fun u9 H locs hw hP hD hS => ?_)
          have hw := hw.symm
          subst hw
          have hP : va_P D vwCl (WS_X12_whole cI cJ cZ cY a0 a0_a a0_image a0_texts a0_board a0_taken a0_fars a0_before a0_tape a0_pile a0_rows a0_told a0_values a0_truth a0_keeps r_8) H := hP.sub [0, 1, 2, 3, 4, 5, 6, 7, 8, 9, 10, 11, 12, 13, 14] rfl
          have hD : va_D A (WS_X12_whole cI cJ cZ cY a0 a0_a a0_image a0_texts a0_board a0_taken a0_fars a0_before a0_tape a0_pile a0_rows a0_told a0_values a0_truth a0_keeps r_8) := hD.sub [0, 1, 2, 3, 4, 5, 6, 7, 8, 9, 10, 11, 12, 13, 14] (by decide) rfl
          refine lv_goto (tgt := 5) hx hb dX12_whole_53 (by decide) ?_
          exact ih r_8 H locs ls hP hD hS (lv_sub hl [0] rfl) hg
  generalize hHe : s.heap = H at hP ⊢
  have hS : va_S A s.heap H [] := by rw [← hHe]; exact va_S.rf
  generalize ([] : List Loc) = locs at hS ⊢
  unfold f_X12_whole at hg
  refine lv_aload_n hx hb dX12_whole_0 rfl (lv_at hl 0 rfl) ?_
  refine lv_iconst (v := 1) hx hb dX12_whole_1 (by decide) ?_
  refine va_put (ci := 11) (v := .int 1) (ty := .boolean) (C := RX12) (T := TX12) (N := 43) hx hb htb uX12 tyX12 tyX12_ok nmX12 hown hK.1 hP hD hS 0 rfl rfl 26 (by decide) (htb _ tg_962) (fun _ h9 => h9) rfl (by decide +kernel) rfl rfl (Nat.le_of_ble_eq_true rfl) dX12_whole_2 (fun H locs hP hD hS => ?_)
  obtain ⟨v0_9, ev0_9⟩ : ∃ z, z = sX12_isWhole v0 1 := ⟨_, rfl⟩
  have hP : va_P D vwCl (WS_X12_whole cI cJ cZ cY a0 a0_a a0_image a0_texts a0_board a0_taken a0_fars a0_before a0_tape a0_pile a0_rows a0_told a0_values a0_truth a0_keeps v0_9) H := by rw [ev0_9]; exact hP
  have hD : va_D A (WS_X12_whole cI cJ cZ cY a0 a0_a a0_image a0_texts a0_board a0_taken a0_fars a0_before a0_tape a0_pile a0_rows a0_told a0_values a0_truth a0_keeps v0_9) := by rw [ev0_9]; exact hD
  have hg := g_lte hg v0_9 ev0_9
  exact b_5 fU v0_9 H locs ls hP hD hS (lv_sub hl [0] rfl) hg
