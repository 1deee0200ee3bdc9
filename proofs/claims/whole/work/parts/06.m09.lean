/-! ManyEyesModel.behindOne()I -/
def WS_X12_behindOne (cI cJ cZ cY : ClassId) (a0 a0_a a0_image a0_texts a0_board a0_taken a0_fars a0_before a0_tape a0_pile a0_rows a0_told a0_values a0_truth a0_keeps : Nat) (v0 : BX12) : va_W := (GX12 cI cJ cZ cY a0 a0_a a0_image a0_texts a0_board a0_taken a0_fars a0_before a0_tape a0_pile a0_rows a0_told a0_values a0_truth a0_keeps v0)
def f_X12_behindOne_b208 (v0 : BX12) : Option (Int32 × BX12) := (f_X12_nextToken v0).bind (fun r_1 => some (0, r_1))
def f_X12_behindOne_b204 (v0 : BX12) : Option (Int32 × BX12) := (f_X12_whole v0).bind (fun r_2 => f_X12_behindOne_b208 r_2)
def f_X12_behindOne_b200 (t1 : Int32) (v0 : BX12) : Option (Int32 × BX12) := (f_X12_emit v0 t1 0).bind (fun r_3 => f_X12_behindOne_b204 r_3)
def f_X12_behindOne_b123 (v0 : BX12) : Option (Int32 × BX12) := g_gd (inB ((pX12_piled v0) - 1) 160) (g_lt ((((pX12_pile v0) (((pX12_piled v0) - 1) : Int32).toNatClampNeg) + 2) : Int32) (fun x_5 => g_gd (inB ((pX12_piled v0) - 1) 160) (g_lt (sX12_pile v0 (upd (pX12_pile v0) (((pX12_piled v0) - 1) : Int32).toNatClampNeg x_5)) (fun v0_7 => g_lt (sX12_isWhole v0_7 0) (fun v0_8 => f_X12_behindOne_b208 v0_8)))))
def f_X12_behindOne_b75 (t1 : Int32) (v0 : BX12) : Option (Int32 × BX12) := (f_X12_push v0 t1).bind (fun r_9 => g_lt (sX12_isWhole r_9 0) (fun v0_10 => f_X12_behindOne_b208 v0_10))
def f_X12_behindOne_b57 (x1 : Int32) (v0 : BX12) : Option (Int32 × BX12) := (f_X12_settle v0 5).bind (fun r_11 => if (x1 : Int32) = 42 then (f_X12_behindOne_b75 5 r_11) else (f_X12_behindOne_b75 6 r_11))
def f_X12_behindOne_b34 (t1 : Int32) (v0 : BX12) : Option (Int32 × BX12) := (f_X12_push v0 t1).bind (fun r_13 => g_lt (sX12_isWhole r_13 0) (fun v0_14 => f_X12_behindOne_b208 v0_14))
def f_X12_behindOne_b17 (x1 : Int32) (v0 : BX12) : Option (Int32 × BX12) := (f_X12_settle v0 3).bind (fun r_15 => if (x1 : Int32) = 43 then (f_X12_behindOne_b34 3 r_15) else (f_X12_behindOne_b34 4 r_15))
def f_X12_behindOne (v0 : BX12) : Option (Int32 × BX12) := g_lt ((pX12_token v0) : Int32) (fun x1_17 => if (x1_17 : Int32) = 43 then (f_X12_behindOne_b17 x1_17 v0) else (if (x1_17 : Int32) = 45 then (f_X12_behindOne_b17 x1_17 v0) else (if (x1_17 : Int32) = 42 then (f_X12_behindOne_b57 x1_17 v0) else (if (x1_17 : Int32) = 47 then (f_X12_behindOne_b57 x1_17 v0) else ((f_X12_settle v0 3).bind (fun r_22 => g_gd (inB ((pX12_piled r_22) - 1) 160) (g_lt (((pX12_pile r_22) (((pX12_piled r_22) - 1) : Int32).toNatClampNeg) : Int32) (fun x2_24 => if (x1_17 : Int32) = 44 then (if (x2_24 : Int32) = 41 then (f_X12_behindOne_b123 r_22) else (if (x2_24 : Int32) = 42 then (f_X12_behindOne_b123 r_22) else (some (1, r_22)))) else (if (x2_24 : Int32) = 41 then (some (1, r_22)) else (if (x2_24 : Int32) = 42 then (some (1, r_22)) else (g_lt (((pX12_piled r_22) - 1) : Int32) (fun x_28 => g_lt (sX12_piled r_22 x_28) (fun v0_29 => g_lt (((pX12_opens v0_29) - 1) : Int32) (fun x_30 => g_lt (sX12_opens v0_29 x_30) (fun v0_31 => if (x2_24 : Int32) ≤ 40 then (f_X12_behindOne_b204 v0_31) else (if (x2_24 : Int32) = 43 then (f_X12_behindOne_b200 7 v0_31) else (f_X12_behindOne_b200 8 v0_31)))))))))))))))))
abbrev rm_X12_behindOne : Room := { frames := 3, cells := 0, slots := 0, locals := 64 }
set_option maxHeartbeats 4000000 in
set_option maxRecDepth 100000 in
theorem k_X12_behindOne {l : Launch} {D : va_G} {cI cJ cZ cY : ClassId} {tX tY : Nat} {sz : Nat} (a0 a0_a a0_image a0_texts a0_board a0_taken a0_fars a0_before a0_tape a0_pile a0_rows a0_told a0_values a0_truth a0_keeps : Nat) (v0 : BX12) (res : Int32 × BX12) (hg : f_X12_behindOne v0 = some res) : Met l yX12_behindOne (Cond.code yX12_behindOne cX12_behindOne 3 (some .int) :: TB) rm_X12_behindOne (PC D cI cJ cZ cY tX tY [.ref a0] (WS_X12_behindOne cI cJ cZ cY a0 a0_a a0_image a0_texts a0_board a0_taken a0_fars a0_before a0_tape a0_pile a0_rows a0_told a0_values a0_truth a0_keeps v0) sz) (va_Qi (fun (r : Int32) (u : BX12) => r = res.1 ∧ u = res.2) (BC D (fun u : BX12 => WS_X12_behindOne cI cJ cZ cY a0 a0_a a0_image a0_texts a0_board a0_taken a0_fars a0_before a0_tape a0_pile a0_rows a0_told a0_values a0_truth a0_keeps u) (va_A (WS_X12_behindOne cI cJ cZ cY a0 a0_a a0_image a0_texts a0_board a0_taken a0_fars a0_before a0_tape a0_pile a0_rows a0_told a0_values a0_truth a0_keeps v0) sz)) (va_A (WS_X12_behindOne cI cJ cZ cY a0 a0_a a0_image a0_texts a0_board a0_taken a0_fars a0_before a0_tape a0_pile a0_rows a0_told a0_values a0_truth a0_keeps v0) sz)) 0 0 (va_A (WS_X12_behindOne cI cJ cZ cY a0 a0_a a0_image a0_texts a0_board a0_taken a0_fars a0_before a0_tape a0_pile a0_rows a0_told a0_values a0_truth a0_keeps v0) sz) := by
  refine Met.ofW (cc := cX12_behindOne) (maxL := 3) (ret := (some .int)) (by decide) rfl ?_
  intro p e s m args below meth c s₁ B hml hv
  obtain ⟨hargs, hsz, hP, hK, hD0, hT⟩ := hv
  have hx := B.exec
  have hb := B.bytes
  have hr := B.returns
  have htb : ∀ w ∈ TB, w.before args s = true := fun w h => atoms_spec (ws := Cond.code yX12_behindOne cX12_behindOne 3 (some .int) :: TB) B.pre w (List.mem_cons_of_mem _ h)
  have hown : s.vm.findClass "ManyEyesModel" = some m.cls := findClass_of_methodNamed B.named
  have hlocks := B.notSynchronized
  subst hsz
  have hD := hD0.self (sz := s.heap.size)
  generalize hAe : va_A (WS_X12_behindOne cI cJ cZ cY a0 a0_a a0_image a0_texts a0_board a0_taken a0_fars a0_before a0_tape a0_pile a0_rows a0_told a0_values a0_truth a0_keeps v0) s.heap.size = A at hD hT ⊢
  have hA : ∀ q : Nat, s.heap.size ≤ q → A q := fun q h => by rw [← hAe]; exact Or.inr h
  have hS : va_S A s.heap s.heap [] := va_S.rf
  have hl := lv_entry ([.ref a0]) (n := 3) (Nat.le_of_ble_eq_true rfl)
  have he : entryFrame m args 3 = F0 m 0 (lg_sl ([.ref a0]) ++ List.replicate (3 - (lg_sl ([.ref a0])).length) Slot.unset).toArray [] := by rw [hargs, lg_entry_eq]
  rw [he]
  generalize (lg_sl ([.ref a0]) ++ List.replicate (3 - (lg_sl ([.ref a0])).length) Slot.unset).toArray = ls at hl ⊢
  have hl : lv_has ls 3 [(0, .ref a0)] := hl
  show W p l e rm_X12_behindOne s m args below meth c s.heap [] 0 0 _ _
  refine W.genQ (fun Q hQ => ?_)
  have b_208 : ∀ (v0 : BX12) (H : Heap) (locs : List Loc) (ls : Array Slot), va_P D vwCl (WS_X12_behindOne cI cJ cZ cY a0 a0_a a0_image a0_texts a0_board a0_taken a0_fars a0_before a0_tape a0_pile a0_rows a0_told a0_values a0_truth a0_keeps v0) H → va_D A (WS_X12_behindOne cI cJ cZ cY a0 a0_a a0_image a0_texts a0_board a0_taken a0_fars a0_before a0_tape a0_pile a0_rows a0_told a0_values a0_truth a0_keeps v0) → va_S A s.heap H locs → lv_has ls 3 [(0, .ref a0)] → f_X12_behindOne_b208 v0 = some res → W p l e rm_X12_behindOne s m args below meth c H locs 0 0 Q (F0 m 208 ls []) := by
    intro v0 H locs ls hP hD hS hl hg
    unfold f_X12_behindOne_b208 at hg
    refine lv_aload_n hx hb dX12_behindOne_208 rfl (lv_at hl 0 rfl) ?_
    obtain ⟨r_1, hr_1, hg⟩ := g_bd hg
    refine cc_v (va_runV (C := RX12) (As := []) (rest := []) ⟨hx, hb, hml, hown, htb⟩ (k_X12_nextToken a0 a0_a a0_image a0_texts a0_board a0_taken a0_fars a0_before a0_tape a0_pile a0_rows a0_told a0_values a0_truth a0_keeps v0 r_1 hr_1) (cw_V 0 htb tg_1204 tg_13 tg_1201 tg_1203 ts_42 rfl rfl (by decide +kernel) ⟨Nat.le_of_ble_eq_true rfl, Nat.le_of_ble_eq_true rfl⟩) ⟨PC.blind, va_recv hK.1 hP (ci := 11) (q0 := 0) rfl rfl, PC.pre hK hT hP hD hS hA [0, 1, 2, 3, 4, 5, 6, 7, 8, 9, 10, 11, 12, 13, 14] rfl (by decide)⟩ rfl rfl hl.1 rfl (lv_room (Nat.le_of_ble_eq_true rfl)) dX12_behindOne_209 ⟨Nat.le_of_ble_eq_true rfl, Nat.le_of_ble_eq_true rfl⟩) hP hD hS hA [0, 1, 2, 3, 4, 5, 6, 7, 8, 9, 10, 11, 12, 13, 14] [] rfl rfl (by decide) (by decide) (fun u9 H locs hw hP hD hS => ?_)
    have hw := hw.symm
    subst hw
    have hP : va_P D vwCl (WS_X12_behindOne cI cJ cZ cY a0 a0_a a0_image a0_texts a0_board a0_taken a0_fars a0_before a0_tape a0_pile a0_rows a0_told a0_values a0_truth a0_keeps r_1) H := hP.sub [0, 1, 2, 3, 4, 5, 6, 7, 8, 9, 10, 11, 12, 13, 14] rfl
    have hD : va_D A (WS_X12_behindOne cI cJ cZ cY a0 a0_a a0_image a0_texts a0_board a0_taken a0_fars a0_before a0_tape a0_pile a0_rows a0_told a0_values a0_truth a0_keeps r_1) := hD.sub [0, 1, 2, 3, 4, 5, 6, 7, 8, 9, 10, 11, 12, 13, 14] (by decide) rfl
    refine lv_iconst (v := 0) hx hb dX12_behindOne_212 (by decide) ?_
    have hg := Option.some.inj hg
    rw [hQ]
    exact W.iret (v := 0) hx hb hr (fun t ht hW => ⟨⟨0, (r_1), rfl, ⟨by rw [← hg], by rw [← hg]⟩, by rw [ht]; exact hP, hD⟩, hS.F ht⟩) hS.2.2 dX12_behindOne_213
  have b_204 : ∀ (v0 : BX12) (H : Heap) (locs : List Loc) (ls : Array Slot), va_P D vwCl (WS_X12_behindOne cI cJ cZ cY a0 a0_a a0_image a0_texts a0_board a0_taken a0_fars a0_before a0_tape a0_pile a0_rows a0_told a0_values a0_truth a0_keeps v0) H → va_D A (WS_X12_behindOne cI cJ cZ cY a0 a0_a a0_image a0_texts a0_board a0_taken a0_fars a0_before a0_tape a0_pile a0_rows a0_told a0_values a0_truth a0_keeps v0) → va_S A s.heap H locs → lv_has ls 3 [(0, .ref a0)] → f_X12_behindOne_b204 v0 = some res → W p l e rm_X12_behindOne s m args below meth c H locs 0 0 Q (F0 m 204 ls []) := by
    intro v0 H locs ls hP hD hS hl hg
    unfold f_X12_behindOne_b204 at hg
    refine lv_aload_n hx hb dX12_behindOne_204 rfl (lv_at hl 0 rfl) ?_
    obtain ⟨r_2, hr_2, hg⟩ := g_bd hg
    refine cc_v (va_runV (C := RX12) (As := []) (rest := []) ⟨hx, hb, hml, hown, htb⟩ (k_X12_whole a0 a0_a a0_image a0_texts a0_board a0_taken a0_fars a0_before a0_tape a0_pile a0_rows a0_told a0_values a0_truth a0_keeps v0 r_2 hr_2) (cw_V 0 htb tg_1280 tg_13 tg_1277 tg_1279 ts_57 rfl rfl (by decide +kernel) ⟨Nat.le_of_ble_eq_true rfl, Nat.le_of_ble_eq_true rfl⟩) ⟨PC.blind, va_recv hK.1 hP (ci := 11) (q0 := 0) rfl rfl, PC.pre hK hT hP hD hS hA [0, 1, 2, 3, 4, 5, 6, 7, 8, 9, 10, 11, 12, 13, 14] rfl (by decide)⟩ rfl rfl hl.1 rfl (lv_room (Nat.le_of_ble_eq_true rfl)) dX12_behindOne_205 ⟨Nat.le_of_ble_eq_true rfl, Nat.le_of_ble_eq_true rfl⟩) hP hD hS hA [0, 1, 2, 3, 4, 5, 6, 7, 8, 9, 10, 11, 12, 13, 14] [] rfl rfl (by decide) (by decide) (fun u9 H locs hw hP hD hS => ?_)
    have hw := hw.symm
    subst hw
    have hP : va_P D vwCl (WS_X12_behindOne cI cJ cZ cY a0 a0_a a0_image a0_texts a0_board a0_taken a0_fars a0_before a0_tape a0_pile a0_rows a0_told a0_values a0_truth a0_keeps r_2) H := hP.sub [0, 1, 2, 3, 4, 5, 6, 7, 8, 9, 10, 11, 12, 13, 14] rfl
    have hD : va_D A (WS_X12_behindOne cI cJ cZ cY a0 a0_a a0_image a0_texts a0_board a0_taken a0_fars a0_before a0_tape a0_pile a0_rows a0_told a0_values a0_truth a0_keeps r_2) := hD.sub [0, 1, 2, 3, 4, 5, 6, 7, 8, 9, 10, 11, 12, 13, 14] (by decide) rfl
    exact b_208 r_2 H locs ls hP hD hS (lv_sub hl [0] rfl) hg
  have b_200 : ∀ (t1 : Int32) (v0 : BX12) (H : Heap) (locs : List Loc) (ls : Array Slot), va_P D vwCl (WS_X12_behindOne cI cJ cZ cY a0 a0_a a0_image a0_texts a0_board a0_taken a0_fars a0_before a0_tape a0_pile a0_rows a0_told a0_values a0_truth a0_keeps v0) H → va_D A (WS_X12_behindOne cI cJ cZ cY a0 a0_a a0_image a0_texts a0_board a0_taken a0_fars a0_before a0_tape a0_pile a0_rows a0_told a0_values a0_truth a0_keeps v0) → va_S A s.heap H locs → lv_has ls 3 [(0, .ref a0)] → f_X12_behindOne_b200 t1 v0 = some res → W p l e rm_X12_behindOne s m args below meth c H locs 0 0 Q (F0 m 200 ls [.int t1, .ref a0]) := by
    intro t1 v0 H locs ls hP hD hS hl hg
    unfold f_X12_behindOne_b200 at hg
    refine lv_iconst (v := 0) hx hb dX12_behindOne_200 (by decide) ?_
    obtain ⟨r_3, hr_3, hg⟩ := g_bd hg
    refine cc_v (va_runV (C := RX12) (As := [.int t1, .int 0]) (rest := []) ⟨hx, hb, hml, hown, htb⟩ (k_X12_emit a0 a0_a a0_image a0_texts a0_board a0_taken a0_fars a0_before a0_tape a0_pile a0_rows a0_told a0_values a0_truth a0_keeps v0 t1 0 r_3 hr_3) (cw_V 2 htb tg_1272 tg_13 tg_1269 tg_1271 ts_55 rfl rfl (by decide +kernel) ⟨Nat.le_of_ble_eq_true rfl, Nat.le_of_ble_eq_true rfl⟩) ⟨PC.blind, va_recv hK.1 hP (ci := 11) (q0 := 0) rfl rfl, PC.pre hK hT hP hD hS hA [0, 1, 2, 3, 4, 5, 6, 7, 8, 9, 10, 11, 12, 13, 14] rfl (by decide)⟩ rfl rfl hl.1 rfl (lv_room (Nat.le_of_ble_eq_true rfl)) dX12_behindOne_201 ⟨Nat.le_of_ble_eq_true rfl, Nat.le_of_ble_eq_true rfl⟩) hP hD hS hA [0, 1, 2, 3, 4, 5, 6, 7, 8, 9, 10, 11, 12, 13, 14] [] rfl rfl (by decide) (by decide) (fun u9 H locs hw hP hD hS => ?_)
    have hw := hw.symm
    subst hw
    have hP : va_P D vwCl (WS_X12_behindOne cI cJ cZ cY a0 a0_a a0_image a0_texts a0_board a0_taken a0_fars a0_before a0_tape a0_pile a0_rows a0_told a0_values a0_truth a0_keeps r_3) H := hP.sub [0, 1, 2, 3, 4, 5, 6, 7, 8, 9, 10, 11, 12, 13, 14] rfl
    have hD : va_D A (WS_X12_behindOne cI cJ cZ cY a0 a0_a a0_image a0_texts a0_board a0_taken a0_fars a0_before a0_tape a0_pile a0_rows a0_told a0_values a0_truth a0_keeps r_3) := hD.sub [0, 1, 2, 3, 4, 5, 6, 7, 8, 9, 10, 11, 12, 13, 14] (by decide) rfl
    exact b_204 r_3 H locs ls hP hD hS (lv_sub hl [0] rfl) hg
  have b_123 : ∀ (v0 : BX12) (H : Heap) (locs : List Loc) (ls : Array Slot), va_P D vwCl (WS_X12_behindOne cI cJ cZ cY a0 a0_a a0_image a0_texts a0_board a0_taken a0_fars a0_before a0_tape a0_pile a0_rows a0_told a0_values a0_truth a0_keeps v0) H → va_D A (WS_X12_behindOne cI cJ cZ cY a0 a0_a a0_image a0_texts a0_board a0_taken a0_fars a0_before a0_tape a0_pile a0_rows a0_told a0_values a0_truth a0_keeps v0) → va_S A s.heap H locs → lv_has ls 3 [(0, .ref a0)] → f_X12_behindOne_b123 v0 = some res → W p l e rm_X12_behindOne s m args below meth c H locs 0 0 Q (F0 m 123 ls []) := by
    intro v0 H locs ls hP hD hS hl hg
    unfold f_X12_behindOne_b123 at hg
    refine lv_aload_n hx hb dX12_behindOne_123 rfl (lv_at hl 0 rfl) ?_
    refine va_get (ci := 11) (v := .ref a0_pile) (C := RX12) (T := TX12) (N := 43) hx hb htb uX12 hown hK.1 hP 0 rfl rfl 23 (by decide) (htb _ tg_959) (fun _ h9 => h9) rfl dX12_behindOne_124 ?_
    refine lv_aload_n hx hb dX12_behindOne_127 rfl (lv_at hl 0 rfl) ?_
    refine va_get (ci := 11) (v := .int (pX12_piled v0)) (C := RX12) (T := TX12) (N := 43) hx hb htb uX12 hown hK.1 hP 0 rfl rfl 24 (by decide) (htb _ tg_960) (fun _ h9 => h9) rfl dX12_behindOne_128 ?_
    refine lv_iconst (v := 1) hx hb dX12_behindOne_131 (by decide) ?_
    refine lv_isub hx hb dX12_behindOne_132 ?_
    refine lv_dup2_11 hx hb dX12_behindOne_133 rfl rfl ?_
    obtain ⟨h_4, hg⟩ := g_gde hg
    refine va_iald hx hb hK.1 hP 9 0 rfl rfl (inB_vp h_4) dX12_behindOne_134 ?_
    refine lv_iconst (v := 2) hx hb dX12_behindOne_135 (by decide) ?_
    refine lv_iadd hx hb dX12_behindOne_136 ?_
    refine lv_topi (fun x_5 ex_5 => ?_)
    have hg := g_lte hg x_5 ex_5
    obtain ⟨h_6, hg⟩ := g_gde hg
    refine va_iast hx hb hK.1 hP hD hS 9 0 rfl rfl (inB_vp h_6) dX12_behindOne_137 (fun H locs hP hD hS => ?_)
    obtain ⟨v0_7, ev0_7⟩ : ∃ z, z = sX12_pile v0 (upd (pX12_pile v0) (((pX12_piled v0) - 1) : Int32).toNatClampNeg x_5) := ⟨_, rfl⟩
    have hP : va_P D vwCl (WS_X12_behindOne cI cJ cZ cY a0 a0_a a0_image a0_texts a0_board a0_taken a0_fars a0_before a0_tape a0_pile a0_rows a0_told a0_values a0_truth a0_keeps v0_7) H := by rw [ev0_7]; exact hP
    have hD : va_D A (WS_X12_behindOne cI cJ cZ cY a0 a0_a a0_image a0_texts a0_board a0_taken a0_fars a0_before a0_tape a0_pile a0_rows a0_told a0_values a0_truth a0_keeps v0_7) := by rw [ev0_7]; exact hD
    have hg := g_lte hg v0_7 ev0_7
    refine lv_aload_n hx hb dX12_behindOne_138 rfl (lv_at hl 0 rfl) ?_
    refine lv_iconst (v := 0) hx hb dX12_behindOne_139 (by decide) ?_
    refine va_put (ci := 11) (v := .int 0) (ty := .boolean) (C := RX12) (T := TX12) (N := 43) hx hb htb uX12 tyX12 tyX12_ok nmX12 hown hK.1 hP hD hS 0 rfl rfl 26 (by decide) (htb _ tg_962) (fun _ h9 => h9) rfl (by decide +kernel) rfl rfl (Nat.le_of_ble_eq_true rfl) dX12_behindOne_140 (fun H locs hP hD hS => ?_)
    obtain ⟨v0_8, ev0_8⟩ : ∃ z, z = sX12_isWhole v0_7 0 := ⟨_, rfl⟩
    have hP : va_P D vwCl (WS_X12_behindOne cI cJ cZ cY a0 a0_a a0_image a0_texts a0_board a0_taken a0_fars a0_before a0_tape a0_pile a0_rows a0_told a0_values a0_truth a0_keeps v0_8) H := by rw [ev0_8]; exact hP
    have hD : va_D A (WS_X12_behindOne cI cJ cZ cY a0 a0_a a0_image a0_texts a0_board a0_taken a0_fars a0_before a0_tape a0_pile a0_rows a0_told a0_values a0_truth a0_keeps v0_8) := by rw [ev0_8]; exact hD
    have hg := g_lte hg v0_8 ev0_8
    refine lv_goto (tgt := 208) hx hb dX12_behindOne_143 (by decide) ?_
    exact b_208 v0_8 H locs ls hP hD hS (lv_sub hl [0] rfl) hg
  have b_75 : ∀ (t1 : Int32) (v0 : BX12) (H : Heap) (locs : List Loc) (ls : Array Slot), va_P D vwCl (WS_X12_behindOne cI cJ cZ cY a0 a0_a a0_image a0_texts a0_board a0_taken a0_fars a0_before a0_tape a0_pile a0_rows a0_told a0_values a0_truth a0_keeps v0) H → va_D A (WS_X12_behindOne cI cJ cZ cY a0 a0_a a0_image a0_texts a0_board a0_taken a0_fars a0_before a0_tape a0_pile a0_rows a0_told a0_values a0_truth a0_keeps v0) → va_S A s.heap H locs → lv_has ls 3 [(0, .ref a0)] → f_X12_behindOne_b75 t1 v0 = some res → W p l e rm_X12_behindOne s m args below meth c H locs 0 0 Q (F0 m 75 ls [.int t1, .ref a0]) := by
    intro t1 v0 H locs ls hP hD hS hl hg
    unfold f_X12_behindOne_b75 at hg
    obtain ⟨r_9, hr_9, hg⟩ := g_bd hg
    refine cc_v (va_runV (C := RX12) (As := [.int t1]) (rest := []) ⟨hx, hb, hml, hown, htb⟩ (k_X12_push a0 a0_a a0_image a0_texts a0_board a0_taken a0_fars a0_before a0_tape a0_pile a0_rows a0_told a0_values a0_truth a0_keeps v0 t1 r_9 hr_9) (cw_V 1 htb tg_1276 tg_13 tg_1273 tg_1275 ts_56 rfl rfl (by decide +kernel) ⟨Nat.le_of_ble_eq_true rfl, Nat.le_of_ble_eq_true rfl⟩) ⟨PC.blind, va_recv hK.1 hP (ci := 11) (q0 := 0) rfl rfl, PC.pre hK hT hP hD hS hA [0, 1, 2, 3, 4, 5, 6, 7, 8, 9, 10, 11, 12, 13, 14] rfl (by decide)⟩ rfl rfl hl.1 rfl (lv_room (Nat.le_of_ble_eq_true rfl)) dX12_behindOne_75 ⟨Nat.le_of_ble_eq_true rfl, Nat.le_of_ble_eq_true rfl⟩) hP hD hS hA [0, 1, 2, 3, 4, 5, 6, 7, 8, 9, 10, 11, 12, 13, 14] [] rfl rfl (by decide) (by decide) (fun u9 H locs hw hP hD hS => ?_)
    have hw := hw.symm
    subst hw
    have hP : va_P D vwCl (WS_X12_behindOne cI cJ cZ cY a0 a0_a a0_image a0_texts a0_board a0_taken a0_fars a0_before a0_tape a0_pile a0_rows a0_told a0_values a0_truth a0_keeps r_9) H := hP.sub [0, 1, 2, 3, 4, 5, 6, 7, 8, 9, 10, 11, 12, 13, 14] rfl
    have hD : va_D A (WS_X12_behindOne cI cJ cZ cY a0 a0_a a0_image a0_texts a0_board a0_taken a0_fars a0_before a0_tape a0_pile a0_rows a0_told a0_values a0_truth a0_keeps r_9) := hD.sub [0, 1, 2, 3, 4, 5, 6, 7, 8, 9, 10, 11, 12, 13, 14] (by decide) rfl
    refine lv_aload_n hx hb dX12_behindOne_78 rfl (lv_at hl 0 rfl) ?_
    refine lv_iconst (v := 0) hx hb dX12_behindOne_79 (by decide) ?_
    refine va_put (ci := 11) (v := .int 0) (ty := .boolean) (C := RX12) (T := TX12) (N := 43) hx hb htb uX12 tyX12 tyX12_ok nmX12 hown hK.1 hP hD hS 0 rfl rfl 26 (by decide) (htb _ tg_962) (fun _ h9 => h9) rfl (by decide +kernel) rfl rfl (Nat.le_of_ble_eq_true rfl) dX12_behindOne_80 (fun H locs hP hD hS => ?_)
    obtain ⟨v0_10, ev0_10⟩ : ∃ z, z = sX12_isWhole r_9 0 := ⟨_, rfl⟩
    have hP : va_P D vwCl (WS_X12_behindOne cI cJ cZ cY a0 a0_a a0_image a0_texts a0_board a0_taken a0_fars a0_before a0_tape a0_pile a0_rows a0_told a0_values a0_truth a0_keeps v0_10) H := by rw [ev0_10]; exact hP
    have hD : va_D A (WS_X12_behindOne cI cJ cZ cY a0 a0_a a0_image a0_texts a0_board a0_taken a0_fars a0_before a0_tape a0_pile a0_rows a0_told a0_values a0_truth a0_keeps v0_10) := by rw [ev0_10]; exact hD
    have hg := g_lte hg v0_10 ev0_10
    refine lv_goto (tgt := 208) hx hb dX12_behindOne_83 (by decide) ?_
    exact b_208 v0_10 H locs ls hP hD hS (lv_sub hl [0] rfl) hg
  have b_57 : ∀ (x1 : Int32) (v0 : BX12) (H : Heap) (locs : List Loc) (ls : Array Slot), va_P D vwCl (WS_X12_behindOne cI cJ cZ cY a0 a0_a a0_image a0_texts a0_board a0_taken a0_fars a0_before a0_tape a0_pile a0_rows a0_told a0_values a0_truth a0_keeps v0) H → va_D A (WS_X12_behindOne cI cJ cZ cY a0 a0_a a0_image a0_texts a0_board a0_taken a0_fars a0_before a0_tape a0_pile a0_rows a0_told a0_values a0_truth a0_keeps v0) → va_S A s.heap H locs → lv_has ls 3 [(0, .ref a0), (1, .int x1)] → f_X12_behindOne_b57 x1 v0 = some res → W p l e rm_X12_behindOne s m args below meth c H locs 0 0 Q (F0 m 57 ls []) := by
    intro x1 v0 H locs ls hP hD hS hl hg
    unfold f_X12_behindOne_b57 at hg
    refine lv_aload_n hx hb dX12_behindOne_57 rfl (lv_at hl 0 rfl) ?_
    refine lv_iconst (v := 5) hx hb dX12_behindOne_58 (by decide) ?_
    obtain ⟨r_11, hr_11, hg⟩ := g_bd hg
    refine cc_v (va_runV (C := RX12) (As := [.int 5]) (rest := []) ⟨hx, hb, hml, hown, htb⟩ (k_X12_settle a0 a0_a a0_image a0_texts a0_board a0_taken a0_fars a0_before a0_tape a0_pile a0_rows a0_told a0_values a0_truth a0_keeps v0 5 r_11 hr_11) (cw_V 1 htb tg_1268 tg_13 tg_1265 tg_1267 ts_54 rfl rfl (by decide +kernel) ⟨Nat.le_of_ble_eq_true rfl, Nat.le_of_ble_eq_true rfl⟩) ⟨PC.blind, va_recv hK.1 hP (ci := 11) (q0 := 0) rfl rfl, PC.pre hK hT hP hD hS hA [0, 1, 2, 3, 4, 5, 6, 7, 8, 9, 10, 11, 12, 13, 14] rfl (by decide)⟩ rfl rfl hl.1 rfl (lv_room (Nat.le_of_ble_eq_true rfl)) dX12_behindOne_59 ⟨Nat.le_of_ble_eq_true rfl, Nat.le_of_ble_eq_true rfl⟩) hP hD hS hA [0, 1, 2, 3, 4, 5, 6, 7, 8, 9, 10, 11, 12, 13, 14] [] rfl rfl (by decide) (by decide) (fun u9 H locs hw hP hD hS => ?_)
    have hw := hw.symm
    subst hw
    have hP : va_P D vwCl (WS_X12_behindOne cI cJ cZ cY a0 a0_a a0_image a0_texts a0_board a0_taken a0_fars a0_before a0_tape a0_pile a0_rows a0_told a0_values a0_truth a0_keeps r_11) H := hP.sub [0, 1, 2, 3, 4, 5, 6, 7, 8, 9, 10, 11, 12, 13, 14] rfl
    have hD : va_D A (WS_X12_behindOne cI cJ cZ cY a0 a0_a a0_image a0_texts a0_board a0_taken a0_fars a0_before a0_tape a0_pile a0_rows a0_told a0_values a0_truth a0_keeps r_11) := hD.sub [0, 1, 2, 3, 4, 5, 6, 7, 8, 9, 10, 11, 12, 13, 14] (by decide) rfl
    refine lv_aload_n hx hb dX12_behindOne_62 rfl (lv_at hl 0 rfl) ?_
    refine lv_iload_n hx hb dX12_behindOne_63 rfl (lv_at hl 1 rfl) ?_
    refine lv_bipush (v := 42) hx hb dX12_behindOne_64 (by decide) ?_
    refine lv_icmp_ne (tgt := 73) hx hb dX12_behindOne_66 (by decide) (fun c_12 => ?_) (fun c_12 => ?_)
    · have hg := g_if hg c_12
      refine lv_bipush (v := 6) hx hb dX12_behindOne_73 (by decide) ?_
      exact b_75 6 r_11 H locs ls hP hD hS (lv_sub hl [0] rfl) hg
    · have hg := g_it hg c_12
      refine lv_iconst (v := 5) hx hb dX12_behindOne_69 (by decide) ?_
      refine lv_goto (tgt := 75) hx hb dX12_behindOne_70 (by decide) ?_
      exact b_75 5 r_11 H locs ls hP hD hS (lv_sub hl [0] rfl) hg
  have b_34 : ∀ (t1 : Int32) (v0 : BX12) (H : Heap) (locs : List Loc) (ls : Array Slot), va_P D vwCl (WS_X12_behindOne cI cJ cZ cY a0 a0_a a0_image a0_texts a0_board a0_taken a0_fars a0_before a0_tape a0_pile a0_rows a0_told a0_values a0_truth a0_keeps v0) H → va_D A (WS_X12_behindOne cI cJ cZ cY a0 a0_a a0_image a0_texts a0_board a0_taken a0_fars a0_before a0_tape a0_pile a0_rows a0_told a0_values a0_truth a0_keeps v0) → va_S A s.heap H locs → lv_has ls 3 [(0, .ref a0)] → f_X12_behindOne_b34 t1 v0 = some res → W p l e rm_X12_behindOne s m args below meth c H locs 0 0 Q (F0 m 34 ls [.int t1, .ref a0]) := by
    intro t1 v0 H locs ls hP hD hS hl hg
    unfold f_X12_behindOne_b34 at hg
    obtain ⟨r_13, hr_13, hg⟩ := g_bd hg
    refine cc_v (va_runV (C := RX12) (As := [.int t1]) (rest := []) ⟨hx, hb, hml, hown, htb⟩ (k_X12_push a0 a0_a a0_image a0_texts a0_board a0_taken a0_fars a0_before a0_tape a0_pile a0_rows a0_told a0_values a0_truth a0_keeps v0 t1 r_13 hr_13) (cw_V 1 htb tg_1276 tg_13 tg_1273 tg_1275 ts_56 rfl rfl (by decide +kernel) ⟨Nat.le_of_ble_eq_true rfl, Nat.le_of_ble_eq_true rfl⟩) ⟨PC.blind, va_recv hK.1 hP (ci := 11) (q0 := 0) rfl rfl, PC.pre hK hT hP hD hS hA [0, 1, 2, 3, 4, 5, 6, 7, 8, 9, 10, 11, 12, 13, 14] rfl (by decide)⟩ rfl rfl hl.1 rfl (lv_room (Nat.le_of_ble_eq_true rfl)) dX12_behindOne_34 ⟨Nat.le_of_ble_eq_true rfl, Nat.le_of_ble_eq_true rfl⟩) hP hD hS hA [0, 1, 2, 3, 4, 5, 6, 7, 8, 9, 10, 11, 12, 13, 14] [] rfl rfl (by decide) (by decide) (fun u9 H locs hw hP hD hS => ?_)
    have hw := hw.symm
    subst hw
    have hP : va_P D vwCl (WS_X12_behindOne cI cJ cZ cY a0 a0_a a0_image a0_texts a0_board a0_taken a0_fars a0_before a0_tape a0_pile a0_rows a0_told a0_values a0_truth a0_keeps r_13) H := hP.sub [0, 1, 2, 3, 4, 5, 6, 7, 8, 9, 10, 11, 12, 13, 14] rfl
    have hD : va_D A (WS_X12_behindOne cI cJ cZ cY a0 a0_a a0_image a0_texts a0_board a0_taken a0_fars a0_before a0_tape a0_pile a0_rows a0_told a0_values a0_truth a0_keeps r_13) := hD.sub [0, 1, 2, 3, 4, 5, 6, 7, 8, 9, 10, 11, 12, 13, 14] (by decide) rfl
    refine lv_aload_n hx hb dX12_behindOne_37 rfl (lv_at hl 0 rfl) ?_
    refine lv_iconst (v := 0) hx hb dX12_behindOne_38 (by decide) ?_
    refine va_put (ci := 11) (v := .int 0) (ty := .boolean) (C := RX12) (T := TX12) (N := 43) hx hb htb uX12 tyX12 tyX12_ok nmX12 hown hK.1 hP hD hS 0 rfl rfl 26 (by decide) (htb _ tg_962) (fun _ h9 => h9) rfl (by decide +kernel) rfl rfl (Nat.le_of_ble_eq_true rfl) dX12_behindOne_39 (fun H locs hP hD hS => ?_)
    obtain ⟨v0_14, ev0_14⟩ : ∃ z, z = sX12_isWhole r_13 0 := ⟨_, rfl⟩
    have hP : va_P D vwCl (WS_X12_behindOne cI cJ cZ cY a0 a0_a a0_image a0_texts a0_board a0_taken a0_fars a0_before a0_tape a0_pile a0_rows a0_told a0_values a0_truth a0_keeps v0_14) H := by rw [ev0_14]; exact hP
    have hD : va_D A (WS_X12_behindOne cI cJ cZ cY a0 a0_a a0_image a0_texts a0_board a0_taken a0_fars a0_before a0_tape a0_pile a0_rows a0_told a0_values a0_truth a0_keeps v0_14) := by rw [ev0_14]; exact hD
    have hg := g_lte hg v0_14 ev0_14
    refine lv_goto (tgt := 208) hx hb dX12_behindOne_42 (by decide) ?_
    exact b_208 v0_14 H locs ls hP hD hS (lv_sub hl [0] rfl) hg
  have b_17 : ∀ (x1 : Int32) (v0 : BX12) (H : Heap) (locs : List Loc) (ls : Array Slot), va_P D vwCl (WS_X12_behindOne cI cJ cZ cY a0 a0_a a0_image a0_texts a0_board a0_taken a0_fars a0_before a0_tape a0_pile a0_rows a0_told a0_values a0_truth a0_keeps v0) H → va_D A (WS_X12_behindOne cI cJ cZ cY a0 a0_a a0_image a0_texts a0_board a0_taken a0_fars a0_before a0_tape a0_pile a0_rows a0_told a0_values a0_truth a0_keeps v0) → va_S A s.heap H locs → lv_has ls 3 [(0, .ref a0), (1, .int x1)] → f_X12_behindOne_b17 x1 v0 = some res → W p l e rm_X12_behindOne s m args below meth c H locs 0 0 Q (F0 m 17 ls []) := by
    intro x1 v0 H locs ls hP hD hS hl hg
    unfold f_X12_behindOne_b17 at hg
    refine lv_aload_n hx hb dX12_behindOne_17 rfl (lv_at hl 0 rfl) ?_
    refine lv_iconst (v := 3) hx hb dX12_behindOne_18 (by decide) ?_
    obtain ⟨r_15, hr_15, hg⟩ := g_bd hg
    refine cc_v (va_runV (C := RX12) (As := [.int 3]) (rest := []) ⟨hx, hb, hml, hown, htb⟩ (k_X12_settle a0 a0_a a0_image a0_texts a0_board a0_taken a0_fars a0_before a0_tape a0_pile a0_rows a0_told a0_values a0_truth a0_keeps v0 3 r_15 hr_15) (cw_V 1 htb tg_1268 tg_13 tg_1265 tg_1267 ts_54 rfl rfl (by decide +kernel) ⟨Nat.le_of_ble_eq_true rfl, Nat.le_of_ble_eq_true rfl⟩) ⟨PC.blind, va_recv hK.1 hP (ci := 11) (q0 := 0) rfl rfl, PC.pre hK hT hP hD hS hA [0, 1, 2, 3, 4, 5, 6, 7, 8, 9, 10, 11, 12, 13, 14] rfl (by decide)⟩ rfl rfl hl.1 rfl (lv_room (Nat.le_of_ble_eq_true rfl)) dX12_behindOne_19 ⟨Nat.le_of_ble_eq_true rfl, Nat.le_of_ble_eq_true rfl⟩) hP hD hS hA [0, 1, 2, 3, 4, 5, 6, 7, 8, 9, 10, 11, 12, 13, 14] [] rfl rfl (by decide) (by decide) (fun u9 H locs hw hP hD hS => ?_)
    have hw := hw.symm
    subst hw
    have hP : va_P D vwCl (WS_X12_behindOne cI cJ cZ cY a0 a0_a a0_image a0_texts a0_board a0_taken a0_fars a0_before a0_tape a0_pile a0_rows a0_told a0_values a0_truth a0_keeps r_15) H := hP.sub [0, 1, 2, 3, 4, 5, 6, 7, 8, 9, 10, 11, 12, 13, 14] rfl
    have hD : va_D A (WS_X12_behindOne cI cJ cZ cY a0 a0_a a0_image a0_texts a0_board a0_taken a0_fars a0_before a0_tape a0_pile a0_rows a0_told a0_values a0_truth a0_keeps r_15) := hD.sub [0, 1, 2, 3, 4, 5, 6, 7, 8, 9, 10, 11, 12, 13, 14] (by decide) rfl
    refine lv_aload_n hx hb dX12_behindOne_22 rfl (lv_at hl 0 rfl) ?_
    refine lv_iload_n hx hb dX12_behindOne_23 rfl (lv_at hl 1 rfl) ?_
    refine lv_bipush (v := 43) hx hb dX12_behindOne_24 (by decide) ?_
    refine lv_icmp_ne (tgt := 33) hx hb dX12_behindOne_26 (by decide) (fun c_16 => ?_) (fun c_16 => ?_)
    · have hg := g_if hg c_16
      refine lv_iconst (v := 4) hx hb dX12_behindOne_33 (by decide) ?_
      exact b_34 4 r_15 H locs ls hP hD hS (lv_sub hl [0] rfl) hg
    · have hg := g_it hg c_16
      refine lv_iconst (v := 3) hx hb dX12_behindOne_29 (by decide) ?_
      refine lv_goto (tgt := 34) hx hb dX12_behindOne_30 (by decide) ?_
      exact b_34 3 r_15 H locs ls hP hD hS (lv_sub hl [0] rfl) hg
  generalize hHe : s.heap = H at hP ⊢
  have hS : va_S A s.heap H [] := by rw [← hHe]; exact va_S.rf
  generalize ([] : List Loc) = locs at hS ⊢
  unfold f_X12_behindOne at hg
  refine lv_aload_n hx hb dX12_behindOne_0 rfl (lv_at hl 0 rfl) ?_
  refine va_get (ci := 11) (v := .int (pX12_token v0)) (C := RX12) (T := TX12) (N := 43) hx hb htb uX12 hown hK.1 hP 0 rfl rfl 15 (by decide) (htb _ tg_951) (fun _ h9 => h9) rfl dX12_behindOne_1 ?_
  refine lv_topi (fun x1_17 ex1_17 => ?_)
  have hg := g_lte hg x1_17 ex1_17
  refine lv_istore_n (lv' := [(1, .int x1_17), (0, .ref a0)]) hx hb dX12_behindOne_4 rfl hl (by decide) rfl (fun ls hl => ?_)
  refine lv_iload_n hx hb dX12_behindOne_5 rfl (lv_at hl 0 rfl) ?_
  refine lv_bipush (v := 43) hx hb dX12_behindOne_6 (by decide) ?_
  refine lv_icmp_eq (tgt := 17) hx hb dX12_behindOne_8 (by decide) (fun c_18 => ?_) (fun c_18 => ?_)
  · have hg := g_it hg c_18
    exact b_17 x1_17 v0 H locs ls hP hD hS (lv_sub hl [1, 0] rfl) hg
  · have hg := g_if hg c_18
    refine lv_iload_n hx hb dX12_behindOne_11 rfl (lv_at hl 0 rfl) ?_
    refine lv_bipush (v := 45) hx hb dX12_behindOne_12 (by decide) ?_
    refine lv_icmp_ne (tgt := 45) hx hb dX12_behindOne_14 (by decide) (fun c_19 => ?_) (fun c_19 => ?_)
    · have hg := g_if hg c_19
      refine lv_iload_n hx hb dX12_behindOne_45 rfl (lv_at hl 0 rfl) ?_
      refine lv_bipush (v := 42) hx hb dX12_behindOne_46 (by decide) ?_
      refine lv_icmp_eq (tgt := 57) hx hb dX12_behindOne_48 (by decide) (fun c_20 => ?_) (fun c_20 => ?_)
      · have hg := g_it hg c_20
        exact b_57 x1_17 v0 H locs ls hP hD hS (lv_sub hl [1, 0] rfl) hg
      · have hg := g_if hg c_20
        refine lv_iload_n hx hb dX12_behindOne_51 rfl (lv_at hl 0 rfl) ?_
        refine lv_bipush (v := 47) hx hb dX12_behindOne_52 (by decide) ?_
        refine lv_icmp_ne (tgt := 86) hx hb dX12_behindOne_54 (by decide) (fun c_21 => ?_) (fun c_21 => ?_)
        · have hg := g_if hg c_21
          refine lv_aload_n hx hb dX12_behindOne_86 rfl (lv_at hl 1 rfl) ?_
          refine lv_iconst (v := 3) hx hb dX12_behindOne_87 (by decide) ?_
          obtain ⟨r_22, hr_22, hg⟩ := g_bd hg
          refine cc_v (va_runV (C := RX12) (As := [.int 3]) (rest := []) ⟨hx, hb, hml, hown, htb⟩ (k_X12_settle a0 a0_a a0_image a0_texts a0_board a0_taken a0_fars a0_before a0_tape a0_pile a0_rows a0_told a0_values a0_truth a0_keeps v0 3 r_22 hr_22) (cw_V 1 htb tg_1268 tg_13 tg_1265 tg_1267 ts_54 rfl rfl (by decide +kernel) ⟨Nat.le_of_ble_eq_true rfl, Nat.le_of_ble_eq_true rfl⟩) ⟨PC.blind, va_recv hK.1 hP (ci := 11) (q0 := 0) rfl rfl, PC.pre hK hT hP hD hS hA [0, 1, 2, 3, 4, 5, 6, 7, 8, 9, 10, 11, 12, 13, 14] rfl (by decide)⟩ rfl rfl hl.1 rfl (lv_room (Nat.le_of_ble_eq_true rfl)) dX12_behindOne_88 ⟨Nat.le_of_ble_eq_true rfl, Nat.le_of_ble_eq_true rfl⟩) hP hD hS hA [0, 1, 2, 3, 4, 5, 6, 7, 8, 9, 10, 11, 12, 13, 14] [] rfl rfl (by decide) (by decide) (fun u9 H locs hw hP hD hS => ?_)
          have hw := hw.symm
          subst hw
          have hP : va_P D vwCl (WS_X12_behindOne cI cJ cZ cY a0 a0_a a0_image a0_texts a0_board a0_taken a0_fars a0_before a0_tape a0_pile a0_rows a0_told a0_values a0_truth a0_keeps r_22) H := hP.sub [0, 1, 2, 3, 4, 5, 6, 7, 8, 9, 10, 11, 12, 13, 14] rfl
          have hD : va_D A (WS_X12_behindOne cI cJ cZ cY a0 a0_a a0_image a0_texts a0_board a0_taken a0_fars a0_before a0_tape a0_pile a0_rows a0_told a0_values a0_truth a0_keeps r_22) := hD.sub [0, 1, 2, 3, 4, 5, 6, 7, 8, 9, 10, 11, 12, 13, 14] (by decide) rfl
          refine lv_aload_n hx hb dX12_behindOne_91 rfl (lv_at hl 1 rfl) ?_
          refine va_get (ci := 11) (v := .ref a0_pile) (C := RX12) (T := TX12) (N := 43) hx hb htb uX12 hown hK.1 hP 0 rfl rfl 23 (by decide) (htb _ tg_959) (fun _ h9 => h9) rfl dX12_behindOne_92 ?_
          refine lv_aload_n hx hb dX12_behindOne_95 rfl (lv_at hl 1 rfl) ?_
          refine va_get (ci := 11) (v := .int (pX12_piled r_22)) (C := RX12) (T := TX12) (N := 43) hx hb htb uX12 hown hK.1 hP 0 rfl rfl 24 (by decide) (htb _ tg_960) (fun _ h9 => h9) rfl dX12_behindOne_96 ?_
          refine lv_iconst (v := 1) hx hb dX12_behindOne_99 (by decide) ?_
          refine lv_isub hx hb dX12_behindOne_100 ?_
          obtain ⟨h_23, hg⟩ := g_gde hg
          refine va_iald hx hb hK.1 hP 9 0 rfl rfl (inB_vp h_23) dX12_behindOne_101 ?_
          refine lv_topi (fun x2_24 ex2_24 => ?_)
          have hg := g_lte hg x2_24 ex2_24
          refine lv_istore_n (lv' := [(2, .int x2_24), (1, .int x1_17), (0, .ref a0)]) hx hb dX12_behindOne_102 rfl hl (by decide) rfl (fun ls hl => ?_)
          refine lv_iload_n hx hb dX12_behindOne_103 rfl (lv_at hl 1 rfl) ?_
          refine lv_bipush (v := 44) hx hb dX12_behindOne_104 (by decide) ?_
          refine lv_icmp_ne (tgt := 146) hx hb dX12_behindOne_106 (by decide) (fun c_25 => ?_) (fun c_25 => ?_)
          · have hg := g_if hg c_25
            refine lv_iload_n hx hb dX12_behindOne_146 rfl (lv_at hl 0 rfl) ?_
            refine lv_bipush (v := 41) hx hb dX12_behindOne_147 (by decide) ?_
            refine lv_icmp_eq (tgt := 158) hx hb dX12_behindOne_149 (by decide) (fun c_26 => ?_) (fun c_26 => ?_)
            · have hg := g_it hg c_26
              refine lv_iconst (v := 1) hx hb dX12_behindOne_158 (by decide) ?_
              have hg := Option.some.inj hg
              rw [hQ]
              exact W.iret (v := 1) hx hb hr (fun t ht hW => ⟨⟨1, (r_22), rfl, ⟨by rw [← hg], by rw [← hg]⟩, by rw [ht]; exact hP, hD⟩, hS.F ht⟩) hS.2.2 dX12_behindOne_159
            · have hg := g_if hg c_26
              refine lv_iload_n hx hb dX12_behindOne_152 rfl (lv_at hl 0 rfl) ?_
              refine lv_bipush (v := 42) hx hb dX12_behindOne_153 (by decide) ?_
              refine lv_icmp_ne (tgt := 160) hx hb dX12_behindOne_155 (by decide) (fun c_27 => ?_) (fun c_27 => ?_)
              · have hg := g_if hg c_27
                refine lv_aload_n hx hb dX12_behindOne_160 rfl (lv_at hl 2 rfl) ?_
                refine lv_dup hx hb dX12_behindOne_161 rfl ?_
                refine va_get (ci := 11) (v := .int (pX12_piled r_22)) (C := RX12) (T := TX12) (N := 43) hx hb htb uX12 hown hK.1 hP 0 rfl rfl 24 (by decide) (htb _ tg_960) (fun _ h9 => h9) rfl dX12_behindOne_162 ?_
                refine lv_iconst (v := 1) hx hb dX12_behindOne_165 (by decide) ?_
                refine lv_isub hx hb dX12_behindOne_166 ?_
                refine lv_topi (fun x_28 ex_28 => ?_)
                have hg := g_lte hg x_28 ex_28
                refine va_put (ci := 11) (v := .int x_28) (ty := .int) (C := RX12) (T := TX12) (N := 43) hx hb htb uX12 tyX12 tyX12_ok nmX12 hown hK.1 hP hD hS 0 rfl rfl 24 (by decide) (htb _ tg_960) (fun _ h9 => h9) rfl (by decide +kernel) rfl rfl (Nat.le_of_ble_eq_true rfl) dX12_behindOne_167 (fun H locs hP hD hS => ?_)
                obtain ⟨v0_29, ev0_29⟩ : ∃ z, z = sX12_piled r_22 x_28 := ⟨_, rfl⟩
                have hP : va_P D vwCl (WS_X12_behindOne cI cJ cZ cY a0 a0_a a0_image a0_texts a0_board a0_taken a0_fars a0_before a0_tape a0_pile a0_rows a0_told a0_values a0_truth a0_keeps v0_29) H := by rw [ev0_29]; exact hP
                have hD : va_D A (WS_X12_behindOne cI cJ cZ cY a0 a0_a a0_image a0_texts a0_board a0_taken a0_fars a0_before a0_tape a0_pile a0_rows a0_told a0_values a0_truth a0_keeps v0_29) := by rw [ev0_29]; exact hD
                have hg := g_lte hg v0_29 ev0_29
                refine lv_aload_n hx hb dX12_behindOne_170 rfl (lv_at hl 2 rfl) ?_
                refine lv_dup hx hb dX12_behindOne_171 rfl ?_
                refine va_get (ci := 11) (v := .int (pX12_opens v0_29)) (C := RX12) (T := TX12) (N := 43) hx hb htb uX12 hown hK.1 hP 0 rfl rfl 25 (by decide) (htb _ tg_961) (fun _ h9 => h9) rfl dX12_behindOne_172 ?_
                refine lv_iconst (v := 1) hx hb dX12_behindOne_175 (by decide) ?_
                refine lv_isub hx hb dX12_behindOne_176 ?_
                refine lv_topi (fun x_30 ex_30 => ?_)
                have hg := g_lte hg x_30 ex_30
                refine va_put (ci := 11) (v := .int x_30) (ty := .int) (C := RX12) (T := TX12) (N := 43) hx hb htb uX12 tyX12 tyX12_ok nmX12 hown hK.1 hP hD hS 0 rfl rfl 25 (by decide) (htb _ tg_961) (fun _ h9 => h9) rfl (by decide +kernel) rfl rfl (Nat.le_of_ble_eq_true rfl) dX12_behindOne_177 (fun H locs hP hD hS => ?_)
                obtain ⟨v0_31, ev0_31⟩ : ∃ z, z = sX12_opens v0_29 x_30 := ⟨_, rfl⟩
                have hP : va_P D vwCl (WS_X12_behindOne cI cJ cZ cY a0 a0_a a0_image a0_texts a0_board a0_taken a0_fars a0_before a0_tape a0_pile a0_rows a0_told a0_values a0_truth a0_keeps v0_31) H := by rw [ev0_31]; exact hP
                have hD : va_D A (WS_X12_behindOne cI cJ cZ cY a0 a0_a a0_image a0_texts a0_board a0_taken a0_fars a0_before a0_tape a0_pile a0_rows a0_told a0_values a0_truth a0_keeps v0_31) := by rw [ev0_31]; exact hD
                have hg := g_lte hg v0_31 ev0_31
                refine lv_iload_n hx hb dX12_behindOne_180 rfl (lv_at hl 0 rfl) ?_
                refine lv_bipush (v := 40) hx hb dX12_behindOne_181 (by decide) ?_
                refine lv_icmp_le (tgt := 204) hx hb dX12_behindOne_183 (by decide) (fun c_32 => ?_) (fun c_32 => ?_)
                · have hg := g_it hg c_32
                  exact b_204 v0_31 H locs ls hP hD hS (lv_sub hl [2] rfl) hg
                · have hg := g_if hg c_32
                  refine lv_aload_n hx hb dX12_behindOne_186 rfl (lv_at hl 2 rfl) ?_
                  refine lv_iload_n hx hb dX12_behindOne_187 rfl (lv_at hl 0 rfl) ?_
                  refine lv_bipush (v := 43) hx hb dX12_behindOne_188 (by decide) ?_
                  refine lv_icmp_ne (tgt := 198) hx hb dX12_behindOne_190 (by decide) (fun c_33 => ?_) (fun c_33 => ?_)
                  · have hg := g_if hg c_33
                    refine lv_bipush (v := 8) hx hb dX12_behindOne_198 (by decide) ?_
                    exact b_200 8 v0_31 H locs ls hP hD hS (lv_sub hl [2] rfl) hg
                  · have hg := g_it hg c_33
                    refine lv_bipush (v := 7) hx hb dX12_behindOne_193 (by decide) ?_
                    refine lv_goto (tgt := 200) hx hb dX12_behindOne_195 (by decide) ?_
                    exact b_200 7 v0_31 H locs ls hP hD hS (lv_sub hl [2] rfl) hg
              · have hg := g_it hg c_27
                refine lv_iconst (v := 1) hx hb dX12_behindOne_158 (by decide) ?_
                have hg := Option.some.inj hg
                rw [hQ]
                exact W.iret (v := 1) hx hb hr (fun t ht hW => ⟨⟨1, (r_22), rfl, ⟨by rw [← hg], by rw [← hg]⟩, by rw [ht]; exact hP, hD⟩, hS.F ht⟩) hS.2.2 dX12_behindOne_159
          · have hg := g_it hg c_25
            refine lv_iload_n hx hb dX12_behindOne_109 rfl (lv_at hl 0 rfl) ?_
            refine lv_bipush (v := 41) hx hb dX12_behindOne_110 (by decide) ?_
            refine lv_icmp_eq (tgt := 123) hx hb dX12_behindOne_112 (by decide) (fun c_34 => ?_) (fun c_34 => ?_)
            · have hg := g_it hg c_34
              exact b_123 r_22 H locs ls hP hD hS (lv_sub hl [2] rfl) hg
            · have hg := g_if hg c_34
              refine lv_iload_n hx hb dX12_behindOne_115 rfl (lv_at hl 0 rfl) ?_
              refine lv_bipush (v := 42) hx hb dX12_behindOne_116 (by decide) ?_
              refine lv_icmp_eq (tgt := 123) hx hb dX12_behindOne_118 (by decide) (fun c_35 => ?_) (fun c_35 => ?_)
              · have hg := g_it hg c_35
                exact b_123 r_22 H locs ls hP hD hS (lv_sub hl [2] rfl) hg
              · have hg := g_if hg c_35
                refine lv_iconst (v := 1) hx hb dX12_behindOne_121 (by decide) ?_
                have hg := Option.some.inj hg
                rw [hQ]
                exact W.iret (v := 1) hx hb hr (fun t ht hW => ⟨⟨1, (r_22), rfl, ⟨by rw [← hg], by rw [← hg]⟩, by rw [ht]; exact hP, hD⟩, hS.F ht⟩) hS.2.2 dX12_behindOne_122
        · have hg := g_it hg c_21
          exact b_57 x1_17 v0 H locs ls hP hD hS (lv_sub hl [1, 0] rfl) hg
    · have hg := g_it hg c_19
      exact b_17 x1_17 v0 H locs ls hP hD hS (lv_sub hl [1, 0] rfl) hg

/-! ManyEyesModel.summed()I -/
def WS_X12_summed (cI cJ cZ cY : ClassId) (a0 a0_a a0_image a0_texts a0_board a0_taken a0_fars a0_before a0_tape a0_pile a0_rows a0_told a0_values a0_truth a0_keeps : Nat) (v0 : BX12) : va_W := (GX12 cI cJ cZ cY a0 a0_a a0_image a0_texts a0_board a0_taken a0_fars a0_before a0_tape a0_pile a0_rows a0_told a0_values a0_truth a0_keeps v0)
def f_X12_summed_b42 (J10 : (BX12) → Option (Int32 × BX12)) (t0 : Int32) (v0 : BX12) : Option (Int32 × BX12) := if (t0 : Int32) = 0 then (J10 (v0)) else (some (t0, v0))
def f_X12_summed_b24 (J10 : (BX12) → Option (Int32 × BX12)) (v0 : BX12) : Option (Int32 × BX12) := if ((pX12_isWhole v0) : Int32) = 0 then ((f_X12_beginOne v0).bind (fun r_3 => f_X12_summed_b42 J10 r_3.1 r_3.2)) else ((f_X12_behindOne v0).bind (fun r_4 => f_X12_summed_b42 J10 r_4.1 r_4.2))
def f_X12_summed_b10B (J10 : BX12 → Option (Int32 × BX12)) (v0 : BX12) : Option (Int32 × BX12) := if ((pX12_isWhole v0) : Int32) = 0 then (f_X12_summed_b24 J10 v0) else ((f_X12_goesOn v0).bind (fun r_6 => if (r_6 : Int32) = 0 then ((f_X12_settle v0 3).bind (fun r_8 => if ((pX12_piled r_8) : Int32) ≤ 0 then (some (0, r_8)) else (some (1, r_8)))) else (f_X12_summed_b24 J10 v0)))
def f_X12_summed_b10 : Nat → BX12 → Option (Int32 × BX12) := g_lp (fun J z => f_X12_summed_b10B J z)
def f_X12_summed (v0 : BX12) : Option (Int32 × BX12) := g_lt (sX12_piled v0 0) (fun v0_10 => g_lt (sX12_isWhole v0_10 0) (fun v0_11 => f_X12_summed_b10 fU (v0_11)))
abbrev rm_X12_summed : Room := { frames := 5, cells := 0, slots := 0, locals := 106 }
set_option maxHeartbeats 4000000 in
set_option maxRecDepth 100000 in
theorem k_X12_summed {l : Launch} {D : va_G} {cI cJ cZ cY : ClassId} {tX tY : Nat} {sz : Nat} (a0 a0_a a0_image a0_texts a0_board a0_taken a0_fars a0_before a0_tape a0_pile a0_rows a0_told a0_values a0_truth a0_keeps : Nat) (v0 : BX12) (res : Int32 × BX12) (hg : f_X12_summed v0 = some res) : Met l yX12_summed (Cond.code yX12_summed cX12_summed 2 (some .int) :: TB) rm_X12_summed (PC D cI cJ cZ cY tX tY [.ref a0] (WS_X12_summed cI cJ cZ cY a0 a0_a a0_image a0_texts a0_board a0_taken a0_fars a0_before a0_tape a0_pile a0_rows a0_told a0_values a0_truth a0_keeps v0) sz) (va_Qi (fun (r : Int32) (u : BX12) => r = res.1 ∧ u = res.2) (BC D (fun u : BX12 => WS_X12_summed cI cJ cZ cY a0 a0_a a0_image a0_texts a0_board a0_taken a0_fars a0_before a0_tape a0_pile a0_rows a0_told a0_values a0_truth a0_keeps u) (va_A (WS_X12_summed cI cJ cZ cY a0 a0_a a0_image a0_texts a0_board a0_taken a0_fars a0_before a0_tape a0_pile a0_rows a0_told a0_values a0_truth a0_keeps v0) sz)) (va_A (WS_X12_summed cI cJ cZ cY a0 a0_a a0_image a0_texts a0_board a0_taken a0_fars a0_before a0_tape a0_pile a0_rows a0_told a0_values a0_truth a0_keeps v0) sz)) 0 0 (va_A (WS_X12_summed cI cJ cZ cY a0 a0_a a0_image a0_texts a0_board a0_taken a0_fars a0_before a0_tape a0_pile a0_rows a0_told a0_values a0_truth a0_keeps v0) sz) := by
  refine Met.ofW (cc := cX12_summed) (maxL := 2) (ret := (some .int)) (by decide) rfl ?_
  intro p e s m args below meth c s₁ B hml hv
  obtain ⟨hargs, hsz, hP, hK, hD0, hT⟩ := hv
  have hx := B.exec
  have hb := B.bytes
  have hr := B.returns
  have htb : ∀ w ∈ TB, w.before args s = true := fun w h => atoms_spec (ws := Cond.code yX12_summed cX12_summed 2 (some .int) :: TB) B.pre w (List.mem_cons_of_mem _ h)
  have hown : s.vm.findClass "ManyEyesModel" = some m.cls := findClass_of_methodNamed B.named
  have hlocks := B.notSynchronized
  subst hsz
  have hD := hD0.self (sz := s.heap.size)
  generalize hAe : va_A (WS_X12_summed cI cJ cZ cY a0 a0_a a0_image a0_texts a0_board a0_taken a0_fars a0_before a0_tape a0_pile a0_rows a0_told a0_values a0_truth a0_keeps v0) s.heap.size = A at hD hT ⊢
  have hA : ∀ q : Nat, s.heap.size ≤ q → A q := fun q h => by rw [← hAe]; exact Or.inr h
  have hS : va_S A s.heap s.heap [] := va_S.rf
  have hl := lv_entry ([.ref a0]) (n := 2) (Nat.le_of_ble_eq_true rfl)
  have he : entryFrame m args 2 = F0 m 0 (lg_sl ([.ref a0]) ++ List.replicate (2 - (lg_sl ([.ref a0])).length) Slot.unset).toArray [] := by rw [hargs, lg_entry_eq]
  rw [he]
  generalize (lg_sl ([.ref a0]) ++ List.replicate (2 - (lg_sl ([.ref a0])).length) Slot.unset).toArray = ls at hl ⊢
  have hl : lv_has ls 2 [(0, .ref a0)] := hl
  show W p l e rm_X12_summed s m args below meth c s.heap [] 0 0 _ _
  refine W.genQ (fun Q hQ => ?_)
  have b_42 : ∀ (J10 : (BX12) → Option (Int32 × BX12)) (hJ10 : ∀ (v0 : BX12) (H : Heap) (locs : List Loc) (ls : Array Slot), va_P D vwCl (WS_X12_summed cI cJ cZ cY a0 a0_a a0_image a0_texts a0_board a0_taken a0_fars a0_before a0_tape a0_pile a0_rows a0_told a0_values a0_truth a0_keeps v0) H → va_D A (WS_X12_summed cI cJ cZ cY a0 a0_a a0_image a0_texts a0_board a0_taken a0_fars a0_before a0_tape a0_pile a0_rows a0_told a0_values a0_truth a0_keeps v0) → va_S A s.heap H locs → lv_has ls 2 [(0, .ref a0)] → J10 (v0) = some res → W p l e rm_X12_summed s m args below meth c H locs 0 0 Q (F0 m 10 ls [])), ∀ (t0 : Int32) (v0 : BX12) (H : Heap) (locs : List Loc) (ls : Array Slot), va_P D vwCl (WS_X12_summed cI cJ cZ cY a0 a0_a a0_image a0_texts a0_board a0_taken a0_fars a0_before a0_tape a0_pile a0_rows a0_told a0_values a0_truth a0_keeps v0) H → va_D A (WS_X12_summed cI cJ cZ cY a0 a0_a a0_image a0_texts a0_board a0_taken a0_fars a0_before a0_tape a0_pile a0_rows a0_told a0_values a0_truth a0_keeps v0) → va_S A s.heap H locs → lv_has ls 2 [(0, .ref a0)] → f_X12_summed_b42 J10 t0 v0 = some res → W p l e rm_X12_summed s m args below meth c H locs 0 0 Q (F0 m 42 ls [.int t0]) := by
    intro J10 hJ10 t0 v0 H locs ls hP hD hS hl hg
    unfold f_X12_summed_b42 at hg
    refine lv_istore_n (lv' := [(1, .int t0), (0, .ref a0)]) hx hb dX12_summed_42 rfl hl (by decide) rfl (fun ls hl => ?_)
    refine lv_iload_n hx hb dX12_summed_43 rfl (lv_at hl 0 rfl) ?_
    refine lv_if_eq (tgt := 49) hx hb dX12_summed_44 (by decide) (fun c_1 => ?_) (fun c_1 => ?_)
    · have hg := g_it hg c_1
      refine lv_goto (tgt := 10) hx hb dX12_summed_49 (by decide) ?_
      exact hJ10 v0 H locs ls hP hD hS (lv_sub hl [1] rfl) hg
    · have hg := g_if hg c_1
      refine lv_iload_n hx hb dX12_summed_47 rfl (lv_at hl 0 rfl) ?_
      have hg := Option.some.inj hg
      rw [hQ]
      exact W.iret (v := t0) hx hb hr (fun t ht hW => ⟨⟨t0, (v0), rfl, ⟨by rw [← hg], by rw [← hg]⟩, by rw [ht]; exact hP, hD⟩, hS.F ht⟩) hS.2.2 dX12_summed_48
  have b_24 : ∀ (J10 : (BX12) → Option (Int32 × BX12)) (hJ10 : ∀ (v0 : BX12) (H : Heap) (locs : List Loc) (ls : Array Slot), va_P D vwCl (WS_X12_summed cI cJ cZ cY a0 a0_a a0_image a0_texts a0_board a0_taken a0_fars a0_before a0_tape a0_pile a0_rows a0_told a0_values a0_truth a0_keeps v0) H → va_D A (WS_X12_summed cI cJ cZ cY a0 a0_a a0_image a0_texts a0_board a0_taken a0_fars a0_before a0_tape a0_pile a0_rows a0_told a0_values a0_truth a0_keeps v0) → va_S A s.heap H locs → lv_has ls 2 [(0, .ref a0)] → J10 (v0) = some res → W p l e rm_X12_summed s m args below meth c H locs 0 0 Q (F0 m 10 ls [])), ∀ (v0 : BX12) (H : Heap) (locs : List Loc) (ls : Array Slot), va_P D vwCl (WS_X12_summed cI cJ cZ cY a0 a0_a a0_image a0_texts a0_board a0_taken a0_fars a0_before a0_tape a0_pile a0_rows a0_told a0_values a0_truth a0_keeps v0) H → va_D A (WS_X12_summed cI cJ cZ cY a0 a0_a a0_image a0_texts a0_board a0_taken a0_fars a0_before a0_tape a0_pile a0_rows a0_told a0_values a0_truth a0_keeps v0) → va_S A s.heap H locs → lv_has ls 2 [(0, .ref a0)] → f_X12_summed_b24 J10 v0 = some res → W p l e rm_X12_summed s m args below meth c H locs 0 0 Q (F0 m 24 ls []) := by
    intro J10 hJ10 v0 H locs ls hP hD hS hl hg
    unfold f_X12_summed_b24 at hg
    refine lv_aload_n hx hb dX12_summed_24 rfl (lv_at hl 0 rfl) ?_
    refine va_get (ci := 11) (v := .int (pX12_isWhole v0)) (C := RX12) (T := TX12) (N := 43) hx hb htb uX12 hown hK.1 hP 0 rfl rfl 26 (by decide) (htb _ tg_962) (fun _ h9 => h9) rfl dX12_summed_25 ?_
    refine lv_if_eq (tgt := 38) hx hb dX12_summed_28 (by decide) (fun c_2 => ?_) (fun c_2 => ?_)
    · have hg := g_it hg c_2
      refine lv_aload_n hx hb dX12_summed_38 rfl (lv_at hl 0 rfl) ?_
      obtain ⟨r_3, hr_3, hg⟩ := g_bd hg
      refine cc_i (va_runV (C := RX12) (As := []) (rest := []) ⟨hx, hb, hml, hown, htb⟩ (k_X12_beginOne a0 a0_a a0_image a0_texts a0_board a0_taken a0_fars a0_before a0_tape a0_pile a0_rows a0_told a0_values a0_truth a0_keeps v0 r_3 hr_3) (cw_V 0 htb tg_1284 tg_13 tg_1281 tg_1283 ts_58 rfl rfl (by decide +kernel) ⟨Nat.le_of_ble_eq_true rfl, Nat.le_of_ble_eq_true rfl⟩) ⟨PC.blind, va_recv hK.1 hP (ci := 11) (q0 := 0) rfl rfl, PC.pre hK hT hP hD hS hA [0, 1, 2, 3, 4, 5, 6, 7, 8, 9, 10, 11, 12, 13, 14] rfl (by decide)⟩ rfl rfl hl.1 rfl (lv_room (Nat.le_of_ble_eq_true rfl)) dX12_summed_39 ⟨Nat.le_of_ble_eq_true rfl, Nat.le_of_ble_eq_true rfl⟩) hP hD hS hA [0, 1, 2, 3, 4, 5, 6, 7, 8, 9, 10, 11, 12, 13, 14] [] rfl rfl (by decide) (by decide) (fun r9 u9 H locs hw hP hD hS => ?_)
      obtain ⟨rfl, rfl⟩ := hw
      have hP : va_P D vwCl (WS_X12_summed cI cJ cZ cY a0 a0_a a0_image a0_texts a0_board a0_taken a0_fars a0_before a0_tape a0_pile a0_rows a0_told a0_values a0_truth a0_keeps r_3.2) H := hP.sub [0, 1, 2, 3, 4, 5, 6, 7, 8, 9, 10, 11, 12, 13, 14] rfl
      have hD : va_D A (WS_X12_summed cI cJ cZ cY a0 a0_a a0_image a0_texts a0_board a0_taken a0_fars a0_before a0_tape a0_pile a0_rows a0_told a0_values a0_truth a0_keeps r_3.2) := hD.sub [0, 1, 2, 3, 4, 5, 6, 7, 8, 9, 10, 11, 12, 13, 14] (by decide) rfl
      exact b_42 J10 hJ10 r_3.1 r_3.2 H locs ls hP hD hS (lv_sub hl [0] rfl) hg
    · have hg := g_if hg c_2
      refine lv_aload_n hx hb dX12_summed_31 rfl (lv_at hl 0 rfl) ?_
      obtain ⟨r_4, hr_4, hg⟩ := g_bd hg
      refine cc_i (va_runV (C := RX12) (As := []) (rest := []) ⟨hx, hb, hml, hown, htb⟩ (k_X12_behindOne a0 a0_a a0_image a0_texts a0_board a0_taken a0_fars a0_before a0_tape a0_pile a0_rows a0_told a0_values a0_truth a0_keeps v0 r_4 hr_4) (cw_V 0 htb tg_1264 tg_13 tg_1261 tg_1263 ts_53 rfl rfl (by decide +kernel) ⟨Nat.le_of_ble_eq_true rfl, Nat.le_of_ble_eq_true rfl⟩) ⟨PC.blind, va_recv hK.1 hP (ci := 11) (q0 := 0) rfl rfl, PC.pre hK hT hP hD hS hA [0, 1, 2, 3, 4, 5, 6, 7, 8, 9, 10, 11, 12, 13, 14] rfl (by decide)⟩ rfl rfl hl.1 rfl (lv_room (Nat.le_of_ble_eq_true rfl)) dX12_summed_32 ⟨Nat.le_of_ble_eq_true rfl, Nat.le_of_ble_eq_true rfl⟩) hP hD hS hA [0, 1, 2, 3, 4, 5, 6, 7, 8, 9, 10, 11, 12, 13, 14] [] rfl rfl (by decide) (by decide) (fun r9 u9 H locs hw hP hD hS => ?_)
      obtain ⟨rfl, rfl⟩ := hw
      have hP : va_P D vwCl (WS_X12_summed cI cJ cZ cY a0 a0_a a0_image a0_texts a0_board a0_taken a0_fars a0_before a0_tape a0_pile a0_rows a0_told a0_values a0_truth a0_keeps r_4.2) H := hP.sub [0, 1, 2, 3, 4, 5, 6, 7, 8, 9, 10, 11, 12, 13, 14] rfl
      have hD : va_D A (WS_X12_summed cI cJ cZ cY a0 a0_a a0_image a0_texts a0_board a0_taken a0_fars a0_before a0_tape a0_pile a0_rows a0_told a0_values a0_truth a0_keeps r_4.2) := hD.sub [0, 1, 2, 3, 4, 5, 6, 7, 8, 9, 10, 11, 12, 13, 14] (by decide) rfl
      refine lv_goto (tgt := 42) hx hb dX12_summed_35 (by decide) ?_
      exact b_42 J10 hJ10 r_4.1 r_4.2 H locs ls hP hD hS (lv_sub hl [0] rfl) hg
  have b_10 : ∀ (n : Nat), ∀ (v0 : BX12) (H : Heap) (locs : List Loc) (ls : Array Slot), va_P D vwCl (WS_X12_summed cI cJ cZ cY a0 a0_a a0_image a0_texts a0_board a0_taken a0_fars a0_before a0_tape a0_pile a0_rows a0_told a0_values a0_truth a0_keeps v0) H → va_D A (WS_X12_summed cI cJ cZ cY a0 a0_a a0_image a0_texts a0_board a0_taken a0_fars a0_before a0_tape a0_pile a0_rows a0_told a0_values a0_truth a0_keeps v0) → va_S A s.heap H locs → lv_has ls 2 [(0, .ref a0)] → f_X12_summed_b10 n (v0) = some res → W p l e rm_X12_summed s m args below meth c H locs 0 0 Q (F0 m 10 ls []) := by
    intro n
    induction n with
    | zero =>
      intro v0 H locs ls hP hD hS hl hg
      exact (g_lp0 hg).elim
    | succ n ih =>
      intro v0 H locs ls hP hD hS hl hg
      have hg : f_X12_summed_b10B (f_X12_summed_b10 n) v0 = some res := hg
      unfold f_X12_summed_b10B at hg
      refine lv_aload_n hx hb dX12_summed_10 rfl (lv_at hl 0 rfl) ?_
      refine va_get (ci := 11) (v := .int (pX12_isWhole v0)) (C := RX12) (T := TX12) (N := 43) hx hb htb uX12 hown hK.1 hP 0 rfl rfl 26 (by decide) (htb _ tg_962) (fun _ h9 => h9) rfl dX12_summed_11 ?_
      refine lv_if_eq (tgt := 24) hx hb dX12_summed_14 (by decide) (fun c_5 => ?_) (fun c_5 => ?_)
      · have hg := g_it hg c_5
        exact b_24 (f_X12_summed_b10 n) ih v0 H locs ls hP hD hS (lv_sub hl [0] rfl) hg
      · have hg := g_if hg c_5
        refine lv_aload_n hx hb dX12_summed_17 rfl (lv_at hl 0 rfl) ?_
        obtain ⟨r_6, hr_6, hg⟩ := g_bd hg
        refine cc_i (va_runV (C := RX12) (As := []) (rest := []) ⟨hx, hb, hml, hown, htb⟩ (k_X12_goesOn a0 a0_a a0_image a0_texts a0_board a0_taken a0_fars a0_before a0_tape a0_pile a0_rows a0_told a0_values a0_truth a0_keeps v0 r_6 hr_6) (cw_V 0 htb tg_1256 tg_13 tg_1253 tg_1255 ts_51 rfl rfl (by decide +kernel) ⟨Nat.le_of_ble_eq_true rfl, Nat.le_of_ble_eq_true rfl⟩) ⟨PC.blind, va_recv hK.1 hP (ci := 11) (q0 := 0) rfl rfl, PC.pre hK hT hP hD hS hA [0, 1, 2, 3, 4, 5, 6, 7, 8, 9, 10, 11, 12, 13, 14] rfl (by decide)⟩ rfl rfl hl.1 rfl (lv_room (Nat.le_of_ble_eq_true rfl)) dX12_summed_18 ⟨Nat.le_of_ble_eq_true rfl, Nat.le_of_ble_eq_true rfl⟩) hP hD hS hA [0, 1, 2, 3, 4, 5, 6, 7, 8, 9, 10, 11, 12, 13, 14] [] rfl rfl (by decide) (by decide) (fun r9 u9 H locs hw hP hD hS => ?_)
        have hw := hw.symm
        subst hw
        have hP : va_P D vwCl (WS_X12_summed cI cJ cZ cY a0 a0_a a0_image a0_texts a0_board a0_taken a0_fars a0_before a0_tape a0_pile a0_rows a0_told a0_values a0_truth a0_keeps v0) H := hP.sub [0, 1, 2, 3, 4, 5, 6, 7, 8, 9, 10, 11, 12, 13, 14] rfl
        have hD : va_D A (WS_X12_summed cI cJ cZ cY a0 a0_a a0_image a0_texts a0_board a0_taken a0_fars a0_before a0_tape a0_pile a0_rows a0_told a0_values a0_truth a0_keeps v0) := hD.sub [0, 1, 2, 3, 4, 5, 6, 7, 8, 9, 10, 11, 12, 13, 14] (by decide) rfl
        refine lv_if_eq (tgt := 52) hx hb dX12_summed_21 (by decide) (fun c_7 => ?_) (fun c_7 => ?_)
        · have hg := g_it hg c_7
          refine lv_aload_n hx hb dX12_summed_52 rfl (lv_at hl 0 rfl) ?_
          refine lv_iconst (v := 3) hx hb dX12_summed_53 (by decide) ?_
          obtain ⟨r_8, hr_8, hg⟩ := g_bd hg
          refine cc_v (va_runV (C := RX12) (As := [.int 3]) (rest := []) ⟨hx, hb, hml, hown, htb⟩ (k_X12_settle a0 a0_a a0_image a0_texts a0_board a0_taken a0_fars a0_before a0_tape a0_pile a0_rows a0_told a0_values a0_truth a0_keeps v0 3 r_8 hr_8) (cw_V 1 htb tg_1268 tg_13 tg_1265 tg_1267 ts_54 rfl rfl (by decide +kernel) ⟨Nat.le_of_ble_eq_true rfl, Nat.le_of_ble_eq_true rfl⟩) ⟨PC.blind, va_recv hK.1 hP (ci := 11) (q0 := 0) rfl rfl, PC.pre hK hT hP hD hS hA [0, 1, 2, 3, 4, 5, 6, 7, 8, 9, 10, 11, 12, 13, 14] rfl (by decide)⟩ rfl rfl hl.1 rfl (lv_room (Nat.le_of_ble_eq_true rfl)) dX12_summed_54 ⟨Nat.le_of_ble_eq_true rfl, Nat.le_of_ble_eq_true rfl⟩) hP hD hS hA [0, 1, 2, 3, 4, 5, 6, 7, 8, 9, 10, 11, 12, 13, 14] [] rfl rfl (by decide) (by decide) (fun u9 H locs hw hP hD hS => ?_)
          have hw := hw.symm
          subst hw
          have hP : va_P D vwCl (WS_X12_summed cI cJ cZ cY a0 a0_a a0_image a0_texts a0_board a0_taken a0_fars a0_before a0_tape a0_pile a0_rows a0_told a0_values a0_truth a0_keeps r_8) H := hP.sub [0, 1, 2, 3, 4, 5, 6, 7, 8, 9, 10, 11, 12, 13, 14] rfl
          have hD : va_D A (WS_X12_summed cI cJ cZ cY a0 a0_a a0_image a0_texts a0_board a0_taken a0_fars a0_before a0_tape a0_pile a0_rows a0_told a0_values a0_truth a0_keeps r_8) := hD.sub [0, 1, 2, 3, 4, 5, 6, 7, 8, 9, 10, 11, 12, 13, 14] (by decide) rfl
          refine lv_aload_n hx hb dX12_summed_57 rfl (lv_at hl 0 rfl) ?_
          refine va_get (ci := 11) (v := .int (pX12_piled r_8)) (C := RX12) (T := TX12) (N := 43) hx hb htb uX12 hown hK.1 hP 0 rfl rfl 24 (by decide) (htb _ tg_960) (fun _ h9 => h9) rfl dX12_summed_58 ?_
          refine lv_if_le (tgt := 68) hx hb dX12_summed_61 (by decide) (fun c_9 => ?_) (fun c_9 => ?_)
          · have hg := g_it hg c_9
            refine lv_iconst (v := 0) hx hb dX12_summed_68 (by decide) ?_
            have hg := Option.some.inj hg
            rw [hQ]
            exact W.iret (v := 0) hx hb hr (fun t ht hW => ⟨⟨0, (r_8), rfl, ⟨by rw [← hg], by rw [← hg]⟩, by rw [ht]; exact hP, hD⟩, hS.F ht⟩) hS.2.2 dX12_summed_69
          · have hg := g_if hg c_9
            refine lv_iconst (v := 1) hx hb dX12_summed_64 (by decide) ?_
            refine lv_goto (tgt := 69) hx hb dX12_summed_65 (by decide) ?_
            have hg := Option.some.inj hg
            rw [hQ]
            exact W.iret (v := 1) hx hb hr (fun t ht hW => ⟨⟨1, (r_8), rfl, ⟨by rw [← hg], by rw [← hg]⟩, by rw [ht]; exact hP, hD⟩, hS.F ht⟩) hS.2.2 dX12_summed_69
        · have hg := g_if hg c_7
          exact b_24 (f_X12_summed_b10 n) ih v0 H locs ls hP hD hS (lv_sub hl [0] rfl) hg
  generalize hHe : s.heap = H at hP ⊢
  have hS : va_S A s.heap H [] := by rw [← hHe]; exact va_S.rf
  generalize ([] : List Loc) = locs at hS ⊢
  unfold f_X12_summed at hg
  refine lv_aload_n hx hb dX12_summed_0 rfl (lv_at hl 0 rfl) ?_
  refine lv_iconst (v := 0) hx hb dX12_summed_1 (by decide) ?_
  refine va_put (ci := 11) (v := .int 0) (ty := .int) (C := RX12) (T := TX12) (N := 43) hx hb htb uX12 tyX12 tyX12_ok nmX12 hown hK.1 hP hD hS 0 rfl rfl 24 (by decide) (htb _ tg_960) (fun _ h9 => h9) rfl (by decide +kernel) rfl rfl (Nat.le_of_ble_eq_true rfl) dX12_summed_2 (fun H locs hP hD hS => ?_)
  obtain ⟨v0_10, ev0_10⟩ : ∃ z, z = sX12_piled v0 0 := ⟨_, rfl⟩
  have hP : va_P D vwCl (WS_X12_summed cI cJ cZ cY a0 a0_a a0_image a0_texts a0_board a0_taken a0_fars a0_before a0_tape a0_pile a0_rows a0_told a0_values a0_truth a0_keeps v0_10) H := by rw [ev0_10]; exact hP
  have hD : va_D A (WS_X12_summed cI cJ cZ cY a0 a0_a a0_image a0_texts a0_board a0_taken a0_fars a0_before a0_tape a0_pile a0_rows a0_told a0_values a0_truth a0_keeps v0_10) := by rw [ev0_10]; exact hD
  have hg := g_lte hg v0_10 ev0_10
  refine lv_aload_n hx hb dX12_summed_5 rfl (lv_at hl 0 rfl) ?_
  refine lv_iconst (v := 0) hx hb dX12_summed_6 (by decide) ?_
  refine va_put (ci := 11) (v := .int 0) (ty := .boolean) (C := RX12) (T := TX12) (N := 43) hx hb htb uX12 tyX12 tyX12_ok nmX12 hown hK.1 hP hD hS 0 rfl rfl 26 (by decide) (htb _ tg_962) (fun _ h9 => h9) rfl (by decide +kernel) rfl rfl (Nat.le_of_ble_eq_true rfl) dX12_summed_7 (fun H locs hP hD hS => ?_)
  obtain ⟨v0_11, ev0_11⟩ : ∃ z, z = sX12_isWhole v0_10 0 := ⟨_, rfl⟩
  have hP : va_P D vwCl (WS_X12_summed cI cJ cZ cY a0 a0_a a0_image a0_texts a0_board a0_taken a0_fars a0_before a0_tape a0_pile a0_rows a0_told a0_values a0_truth a0_keeps v0_11) H := by rw [ev0_11]; exact hP
  have hD : va_D A (WS_X12_summed cI cJ cZ cY a0 a0_a a0_image a0_texts a0_board a0_taken a0_fars a0_before a0_tape a0_pile a0_rows a0_told a0_values a0_truth a0_keeps v0_11) := by rw [ev0_11]; exact hD
  have hg := g_lte hg v0_11 ev0_11
  exact b_10 fU v0_11 H locs ls hP hD hS (lv_sub hl [0] rfl) hg

/-! ManyEyesModel.compareOf()I -/
def WS_X12_compareOf (cI cJ cZ cY : ClassId) (a0 a0_a a0_image a0_texts a0_board a0_taken a0_fars a0_before a0_tape a0_pile a0_rows a0_told a0_values a0_truth a0_keeps : Nat) (v0 : BX12) : va_W := (GX12 cI cJ cZ cY a0 a0_a a0_image a0_texts a0_board a0_taken a0_fars a0_before a0_tape a0_pile a0_rows a0_told a0_values a0_truth a0_keeps v0)
def f_X12_compareOf (v0 : BX12) : Option (Int32) := if ((pX12_token v0) : Int32) = 60 then (some 10) else (if ((pX12_token v0) : Int32) = 4 then (some 11) else (if ((pX12_token v0) : Int32) = 62 then (some 12) else (if ((pX12_token v0) : Int32) = 5 then (some 13) else (if ((pX12_token v0) : Int32) = 61 then (some 14) else (if ((pX12_token v0) : Int32) = 35 then (some 15) else (some (-1)))))))
abbrev rm_X12_compareOf : Room := { frames := 0, cells := 0, slots := 0, locals := 0 }
set_option maxHeartbeats 4000000 in
set_option maxRecDepth 100000 in
theorem k_X12_compareOf {l : Launch} {D : va_G} {cI cJ cZ cY : ClassId} {tX tY : Nat} {sz : Nat} (a0 a0_a a0_image a0_texts a0_board a0_taken a0_fars a0_before a0_tape a0_pile a0_rows a0_told a0_values a0_truth a0_keeps : Nat) (v0 : BX12) (res : Int32) (hg : f_X12_compareOf v0 = some res) : Met l yX12_compareOf (Cond.code yX12_compareOf cX12_compareOf 1 (some .int) :: TB) rm_X12_compareOf (PC D cI cJ cZ cY tX tY [.ref a0] (WS_X12_compareOf cI cJ cZ cY a0 a0_a a0_image a0_texts a0_board a0_taken a0_fars a0_before a0_tape a0_pile a0_rows a0_told a0_values a0_truth a0_keeps v0) sz) (va_Qi (fun (r : Int32) (_ : Unit) => r = res) (BC D (fun _ : Unit => WS_X12_compareOf cI cJ cZ cY a0 a0_a a0_image a0_texts a0_board a0_taken a0_fars a0_before a0_tape a0_pile a0_rows a0_told a0_values a0_truth a0_keeps v0) (va_A (WS_X12_compareOf cI cJ cZ cY a0 a0_a a0_image a0_texts a0_board a0_taken a0_fars a0_before a0_tape a0_pile a0_rows a0_told a0_values a0_truth a0_keeps v0) sz)) (va_A (WS_X12_compareOf cI cJ cZ cY a0 a0_a a0_image a0_texts a0_board a0_taken a0_fars a0_before a0_tape a0_pile a0_rows a0_told a0_values a0_truth a0_keeps v0) sz)) 0 0 (va_A (WS_X12_compareOf cI cJ cZ cY a0 a0_a a0_image a0_texts a0_board a0_taken a0_fars a0_before a0_tape a0_pile a0_rows a0_told a0_values a0_truth a0_keeps v0) sz) := by
  refine Met.ofW (cc := cX12_compareOf) (maxL := 1) (ret := (some .int)) (by decide) rfl ?_
  intro p e s m args below meth c s₁ B hml hv
  obtain ⟨hargs, hsz, hP, hK, hD0, hT⟩ := hv
  have hx := B.exec
  have hb := B.bytes
  have hr := B.returns
  have htb : ∀ w ∈ TB, w.before args s = true := fun w h => atoms_spec (ws := Cond.code yX12_compareOf cX12_compareOf 1 (some .int) :: TB) B.pre w (List.mem_cons_of_mem _ h)
  have hown : s.vm.findClass "ManyEyesModel" = some m.cls := findClass_of_methodNamed B.named
  have hlocks := B.notSynchronized
  subst hsz
  have hD := hD0.self (sz := s.heap.size)
  generalize hAe : va_A (WS_X12_compareOf cI cJ cZ cY a0 a0_a a0_image a0_texts a0_board a0_taken a0_fars a0_before a0_tape a0_pile a0_rows a0_told a0_values a0_truth a0_keeps v0) s.heap.size = A at hD hT ⊢
  have hA : ∀ q : Nat, s.heap.size ≤ q → A q := fun q h => by rw [← hAe]; exact Or.inr h
  have hS : va_S A s.heap s.heap [] := va_S.rf
  have hl := lv_entry ([.ref a0]) (n := 1) (Nat.le_of_ble_eq_true rfl)
  have he : entryFrame m args 1 = F0 m 0 (lg_sl ([.ref a0]) ++ List.replicate (1 - (lg_sl ([.ref a0])).length) Slot.unset).toArray [] := by rw [hargs, lg_entry_eq]
  rw [he]
  generalize (lg_sl ([.ref a0]) ++ List.replicate (1 - (lg_sl ([.ref a0])).length) Slot.unset).toArray = ls at hl ⊢
  have hl : lv_has ls 1 [(0, .ref a0)] := hl
  show W p l e rm_X12_compareOf s m args below meth c s.heap [] 0 0 _ _
  refine W.genQ (fun Q hQ => ?_)
  generalize hHe : s.heap = H at hP ⊢
  have hS : va_S A s.heap H [] := by rw [← hHe]; exact va_S.rf
  generalize ([] : List Loc) = locs at hS ⊢
  unfold f_X12_compareOf at hg
  refine lv_aload_n hx hb dX12_compareOf_0 rfl (lv_at hl 0 rfl) ?_
  refine va_get (ci := 11) (v := .int (pX12_token v0)) (C := RX12) (T := TX12) (N := 43) hx hb htb uX12 hown hK.1 hP 0 rfl rfl 15 (by decide) (htb _ tg_951) (fun _ h9 => h9) rfl dX12_compareOf_1 ?_
  refine lv_bipush (v := 60) hx hb dX12_compareOf_4 (by decide) ?_
  refine lv_icmp_ne (tgt := 14) hx hb dX12_compareOf_6 (by decide) (fun c_1 => ?_) (fun c_1 => ?_)
  · have hg := g_if hg c_1
    refine lv_aload_n hx hb dX12_compareOf_14 rfl (lv_at hl 0 rfl) ?_
    refine va_get (ci := 11) (v := .int (pX12_token v0)) (C := RX12) (T := TX12) (N := 43) hx hb htb uX12 hown hK.1 hP 0 rfl rfl 15 (by decide) (htb _ tg_951) (fun _ h9 => h9) rfl dX12_compareOf_15 ?_
    refine lv_iconst (v := 4) hx hb dX12_compareOf_18 (by decide) ?_
    refine lv_icmp_ne (tgt := 27) hx hb dX12_compareOf_19 (by decide) (fun c_2 => ?_) (fun c_2 => ?_)
    · have hg := g_if hg c_2
      refine lv_aload_n hx hb dX12_compareOf_27 rfl (lv_at hl 0 rfl) ?_
      refine va_get (ci := 11) (v := .int (pX12_token v0)) (C := RX12) (T := TX12) (N := 43) hx hb htb uX12 hown hK.1 hP 0 rfl rfl 15 (by decide) (htb _ tg_951) (fun _ h9 => h9) rfl dX12_compareOf_28 ?_
      refine lv_bipush (v := 62) hx hb dX12_compareOf_31 (by decide) ?_
      refine lv_icmp_ne (tgt := 41) hx hb dX12_compareOf_33 (by decide) (fun c_3 => ?_) (fun c_3 => ?_)
      · have hg := g_if hg c_3
        refine lv_aload_n hx hb dX12_compareOf_41 rfl (lv_at hl 0 rfl) ?_
        refine va_get (ci := 11) (v := .int (pX12_token v0)) (C := RX12) (T := TX12) (N := 43) hx hb htb uX12 hown hK.1 hP 0 rfl rfl 15 (by decide) (htb _ tg_951) (fun _ h9 => h9) rfl dX12_compareOf_42 ?_
        refine lv_iconst (v := 5) hx hb dX12_compareOf_45 (by decide) ?_
        refine lv_icmp_ne (tgt := 54) hx hb dX12_compareOf_46 (by decide) (fun c_4 => ?_) (fun c_4 => ?_)
        · have hg := g_if hg c_4
          refine lv_aload_n hx hb dX12_compareOf_54 rfl (lv_at hl 0 rfl) ?_
          refine va_get (ci := 11) (v := .int (pX12_token v0)) (C := RX12) (T := TX12) (N := 43) hx hb htb uX12 hown hK.1 hP 0 rfl rfl 15 (by decide) (htb _ tg_951) (fun _ h9 => h9) rfl dX12_compareOf_55 ?_
          refine lv_bipush (v := 61) hx hb dX12_compareOf_58 (by decide) ?_
          refine lv_icmp_ne (tgt := 68) hx hb dX12_compareOf_60 (by decide) (fun c_5 => ?_) (fun c_5 => ?_)
          · have hg := g_if hg c_5
            refine lv_aload_n hx hb dX12_compareOf_68 rfl (lv_at hl 0 rfl) ?_
            refine va_get (ci := 11) (v := .int (pX12_token v0)) (C := RX12) (T := TX12) (N := 43) hx hb htb uX12 hown hK.1 hP 0 rfl rfl 15 (by decide) (htb _ tg_951) (fun _ h9 => h9) rfl dX12_compareOf_69 ?_
            refine lv_bipush (v := 35) hx hb dX12_compareOf_72 (by decide) ?_
            refine lv_icmp_ne (tgt := 82) hx hb dX12_compareOf_74 (by decide) (fun c_6 => ?_) (fun c_6 => ?_)
            · have hg := g_if hg c_6
              refine lv_iconst (v := (-1)) hx hb dX12_compareOf_82 (by decide) ?_
              have hg := Option.some.inj hg
              rw [hQ]
              exact W.iret (v := (-1)) hx hb hr (fun t ht hW => ⟨⟨(-1), (), rfl, hg, by rw [ht]; exact hP, hD⟩, hS.F ht⟩) hS.2.2 dX12_compareOf_83
            · have hg := g_it hg c_6
              refine lv_bipush (v := 15) hx hb dX12_compareOf_77 (by decide) ?_
              refine lv_goto (tgt := 83) hx hb dX12_compareOf_79 (by decide) ?_
              have hg := Option.some.inj hg
              rw [hQ]
              exact W.iret (v := 15) hx hb hr (fun t ht hW => ⟨⟨15, (), rfl, hg, by rw [ht]; exact hP, hD⟩, hS.F ht⟩) hS.2.2 dX12_compareOf_83
          · have hg := g_it hg c_5
            refine lv_bipush (v := 14) hx hb dX12_compareOf_63 (by decide) ?_
            refine lv_goto (tgt := 83) hx hb dX12_compareOf_65 (by decide) ?_
            have hg := Option.some.inj hg
            rw [hQ]
            exact W.iret (v := 14) hx hb hr (fun t ht hW => ⟨⟨14, (), rfl, hg, by rw [ht]; exact hP, hD⟩, hS.F ht⟩) hS.2.2 dX12_compareOf_83
        · have hg := g_it hg c_4
          refine lv_bipush (v := 13) hx hb dX12_compareOf_49 (by decide) ?_
          refine lv_goto (tgt := 83) hx hb dX12_compareOf_51 (by decide) ?_
          have hg := Option.some.inj hg
          rw [hQ]
          exact W.iret (v := 13) hx hb hr (fun t ht hW => ⟨⟨13, (), rfl, hg, by rw [ht]; exact hP, hD⟩, hS.F ht⟩) hS.2.2 dX12_compareOf_83
      · have hg := g_it hg c_3
        refine lv_bipush (v := 12) hx hb dX12_compareOf_36 (by decide) ?_
        refine lv_goto (tgt := 83) hx hb dX12_compareOf_38 (by decide) ?_
        have hg := Option.some.inj hg
        rw [hQ]
        exact W.iret (v := 12) hx hb hr (fun t ht hW => ⟨⟨12, (), rfl, hg, by rw [ht]; exact hP, hD⟩, hS.F ht⟩) hS.2.2 dX12_compareOf_83
    · have hg := g_it hg c_2
      refine lv_bipush (v := 11) hx hb dX12_compareOf_22 (by decide) ?_
      refine lv_goto (tgt := 83) hx hb dX12_compareOf_24 (by decide) ?_
      have hg := Option.some.inj hg
      rw [hQ]
      exact W.iret (v := 11) hx hb hr (fun t ht hW => ⟨⟨11, (), rfl, hg, by rw [ht]; exact hP, hD⟩, hS.F ht⟩) hS.2.2 dX12_compareOf_83
  · have hg := g_it hg c_1
    refine lv_bipush (v := 10) hx hb dX12_compareOf_9 (by decide) ?_
    refine lv_goto (tgt := 83) hx hb dX12_compareOf_11 (by decide) ?_
    have hg := Option.some.inj hg
    rw [hQ]
    exact W.iret (v := 10) hx hb hr (fun t ht hW => ⟨⟨10, (), rfl, hg, by rw [ht]; exact hP, hD⟩, hS.F ht⟩) hS.2.2 dX12_compareOf_83

/-! ManyEyesModel.ask()I -/
def WS_X12_ask (cI cJ cZ cY : ClassId) (a0 a0_a a0_image a0_texts a0_board a0_taken a0_fars a0_before a0_tape a0_pile a0_rows a0_told a0_values a0_truth a0_keeps : Nat) (v0 : BX12) : va_W := (GX12 cI cJ cZ cY a0 a0_a a0_image a0_texts a0_board a0_taken a0_fars a0_before a0_tape a0_pile a0_rows a0_told a0_values a0_truth a0_keeps v0)
def f_X12_ask_b105B (J105 : Int32 × Int32 × BX12 → Option (Int32 × BX12)) (x1 : Int32) (x4 : Int32) (v0 : BX12) : Option (Int32 × BX12) := if (x1 : Int32) ≤ x4 then (some (0, v0)) else ((f_X12_emit v0 20 0).bind (fun r_2 => g_lt (x4 + 1 : Int32) (fun x4_3 => J105 (x1, x4_3, r_2))))
def f_X12_ask_b105 : Nat → (Int32 × Int32 × BX12) → Option (Int32 × BX12) := g_lp (fun J z => f_X12_ask_b105B J z.1 z.2.1 z.2.2)
def f_X12_ask_b2B (J2 : Int32 × BX12 → Option (Int32 × BX12)) (x1 : Int32) (v0 : BX12) : Option (Int32 × BX12) := (f_X12_w3 110 111 116).bind (fun r_4 => (f_X12_isWord v0 r_4).bind (fun r_5 => if (r_5 : Int32) = 0 then ((f_X12_summed v0).bind (fun r_7 => if (r_7.1 : Int32) = 0 then ((f_X12_compareOf r_7.2).bind (fun r_9 => if (0 : Int32) ≤ r_9 then ((f_X12_nextToken r_7.2).bind (fun r_11 => (f_X12_summed r_11).bind (fun r_12 => if (r_12.1 : Int32) = 0 then ((f_X12_emit r_12.2 r_9 0).bind (fun r_14 => g_lt (((pX12_opens r_14) - x1) : Int32) (fun x_15 => g_lt (sX12_opens r_14 x_15) (fun v0_16 => f_X12_ask_b105 fU (x1, 0, v0_16))))) else (some (r_12.1, r_12.2))))) else (some (1, r_7.2)))) else (some (r_7.1, r_7.2)))) else (if ((pX12_opens v0) : Int32) = 8 then (some (3, v0)) else (g_lt (((pX12_opens v0) + 1) : Int32) (fun x_18 => g_lt (sX12_opens v0 x_18) (fun v0_19 => g_lt (x1 + 1 : Int32) (fun x1_20 => (f_X12_nextToken v0_19).bind (fun r_21 => J2 (x1_20, r_21)))))))))
def f_X12_ask_b2 : Nat → (Int32 × BX12) → Option (Int32 × BX12) := g_lp (fun J z => f_X12_ask_b2B J z.1 z.2)
def f_X12_ask (v0 : BX12) : Option (Int32 × BX12) := f_X12_ask_b2 fU (0, v0)
abbrev rm_X12_ask : Room := { frames := 6, cells := 0, slots := 0, locals := 127 }
set_option maxHeartbeats 4000000 in
set_option maxRecDepth 100000 in
theorem k_X12_ask {l : Launch} {D : va_G} {cI cJ cZ cY : ClassId} {tX tY : Nat} {sz : Nat} (a0 a0_a a0_image a0_texts a0_board a0_taken a0_fars a0_before a0_tape a0_pile a0_rows a0_told a0_values a0_truth a0_keeps : Nat) (v0 : BX12) (res : Int32 × BX12) (hg : f_X12_ask v0 = some res) : Met l yX12_ask (Cond.code yX12_ask cX12_ask 5 (some .int) :: TB) rm_X12_ask (PC D cI cJ cZ cY tX tY [.ref a0] (WS_X12_ask cI cJ cZ cY a0 a0_a a0_image a0_texts a0_board a0_taken a0_fars a0_before a0_tape a0_pile a0_rows a0_told a0_values a0_truth a0_keeps v0) sz) (va_Qi (fun (r : Int32) (u : BX12) => r = res.1 ∧ u = res.2) (BC D (fun u : BX12 => WS_X12_ask cI cJ cZ cY a0 a0_a a0_image a0_texts a0_board a0_taken a0_fars a0_before a0_tape a0_pile a0_rows a0_told a0_values a0_truth a0_keeps u) (va_A (WS_X12_ask cI cJ cZ cY a0 a0_a a0_image a0_texts a0_board a0_taken a0_fars a0_before a0_tape a0_pile a0_rows a0_told a0_values a0_truth a0_keeps v0) sz)) (va_A (WS_X12_ask cI cJ cZ cY a0 a0_a a0_image a0_texts a0_board a0_taken a0_fars a0_before a0_tape a0_pile a0_rows a0_told a0_values a0_truth a0_keeps v0) sz)) 0 0 (va_A (WS_X12_ask cI cJ cZ cY a0 a0_a a0_image a0_texts a0_board a0_taken a0_fars a0_before a0_tape a0_pile a0_rows a0_told a0_values a0_truth a0_keeps v0) sz) := by
  refine Met.ofW (cc := cX12_ask) (maxL := 5) (ret := (some .int)) (by decide) rfl ?_
  intro p e s m args below meth c s₁ B hml hv
  obtain ⟨hargs, hsz, hP, hK, hD0, hT⟩ := hv
  have hx := B.exec
  have hb := B.bytes
  have hr := B.returns
  have htb : ∀ w ∈ TB, w.before args s = true := fun w h => atoms_spec (ws := Cond.code yX12_ask cX12_ask 5 (some .int) :: TB) B.pre w (List.mem_cons_of_mem _ h)
  have hown : s.vm.findClass "ManyEyesModel" = some m.cls := findClass_of_methodNamed B.named
  have hlocks := B.notSynchronized
  subst hsz
  have hD := hD0.self (sz := s.heap.size)
  generalize hAe : va_A (WS_X12_ask cI cJ cZ cY a0 a0_a a0_image a0_texts a0_board a0_taken a0_fars a0_before a0_tape a0_pile a0_rows a0_told a0_values a0_truth a0_keeps v0) s.heap.size = A at hD hT ⊢
  have hA : ∀ q : Nat, s.heap.size ≤ q → A q := fun q h => by rw [← hAe]; exact Or.inr h
  have hS : va_S A s.heap s.heap [] := va_S.rf
  have hl := lv_entry ([.ref a0]) (n := 5) (Nat.le_of_ble_eq_true rfl)
  have he : entryFrame m args 5 = F0 m 0 (lg_sl ([.ref a0]) ++ List.replicate (5 - (lg_sl ([.ref a0])).length) Slot.unset).toArray [] := by rw [hargs, lg_entry_eq]
  rw [he]
  generalize (lg_sl ([.ref a0]) ++ List.replicate (5 - (lg_sl ([.ref a0])).length) Slot.unset).toArray = ls at hl ⊢
  have hl : lv_has ls 5 [(0, .ref a0)] := hl
  show W p l e rm_X12_ask s m args below meth c s.heap [] 0 0 _ _
  refine W.genQ (fun Q hQ => ?_)
  have b_105 : ∀ (n : Nat), ∀ (x1 : Int32) (x4 : Int32) (v0 : BX12) (H : Heap) (locs : List Loc) (ls : Array Slot), va_P D vwCl (WS_X12_ask cI cJ cZ cY a0 a0_a a0_image a0_texts a0_board a0_taken a0_fars a0_before a0_tape a0_pile a0_rows a0_told a0_values a0_truth a0_keeps v0) H → va_D A (WS_X12_ask cI cJ cZ cY a0 a0_a a0_image a0_texts a0_board a0_taken a0_fars a0_before a0_tape a0_pile a0_rows a0_told a0_values a0_truth a0_keeps v0) → va_S A s.heap H locs → lv_has ls 5 [(0, .ref a0), (1, .int x1), (4, .int x4)] → f_X12_ask_b105 n (x1, x4, v0) = some res → W p l e rm_X12_ask s m args below meth c H locs 0 0 Q (F0 m 105 ls []) := by
    intro n
    induction n with
    | zero =>
      intro x1 x4 v0 H locs ls hP hD hS hl hg
      exact (g_lp0 hg).elim
    | succ n ih =>
      intro x1 x4 v0 H locs ls hP hD hS hl hg
      have hg : f_X12_ask_b105B (f_X12_ask_b105 n) x1 x4 v0 = some res := hg
      unfold f_X12_ask_b105B at hg
      refine lv_iload hx hb dX12_ask_105 (lv_at hl 2 rfl) ?_
      refine lv_iload_n hx hb dX12_ask_107 rfl (lv_at hl 1 rfl) ?_
      refine lv_icmp_ge (tgt := 124) hx hb dX12_ask_108 (by decide) (fun c_1 => ?_) (fun c_1 => ?_)
      · have hg := g_it hg c_1
        refine lv_iconst (v := 0) hx hb dX12_ask_124 (by decide) ?_
        have hg := Option.some.inj hg
        rw [hQ]
        exact W.iret (v := 0) hx hb hr (fun t ht hW => ⟨⟨0, (v0), rfl, ⟨by rw [← hg], by rw [← hg]⟩, by rw [ht]; exact hP, hD⟩, hS.F ht⟩) hS.2.2 dX12_ask_125
      · have hg := g_if hg c_1
        refine lv_aload_n hx hb dX12_ask_111 rfl (lv_at hl 0 rfl) ?_
        refine lv_bipush (v := 20) hx hb dX12_ask_112 (by decide) ?_
        refine lv_iconst (v := 0) hx hb dX12_ask_114 (by decide) ?_
        obtain ⟨r_2, hr_2, hg⟩ := g_bd hg
        refine cc_v (va_runV (C := RX12) (As := [.int 20, .int 0]) (rest := []) ⟨hx, hb, hml, hown, htb⟩ (k_X12_emit a0 a0_a a0_image a0_texts a0_board a0_taken a0_fars a0_before a0_tape a0_pile a0_rows a0_told a0_values a0_truth a0_keeps v0 20 0 r_2 hr_2) (cw_V 2 htb tg_1272 tg_13 tg_1269 tg_1271 ts_55 rfl rfl (by decide +kernel) ⟨Nat.le_of_ble_eq_true rfl, Nat.le_of_ble_eq_true rfl⟩) ⟨PC.blind, va_recv hK.1 hP (ci := 11) (q0 := 0) rfl rfl, PC.pre hK hT hP hD hS hA [0, 1, 2, 3, 4, 5, 6, 7, 8, 9, 10, 11, 12, 13, 14] rfl (by decide)⟩ rfl rfl hl.1 rfl (lv_room (Nat.le_of_ble_eq_true rfl)) dX12_ask_115 ⟨Nat.le_of_ble_eq_true rfl, Nat.le_of_ble_eq_true rfl⟩) hP hD hS hA [0, 1, 2, 3, 4, 5, 6, 7, 8, 9, 10, 11, 12, 13, 14] [] rfl rfl (by decide) (by decide) (fun u9 H locs hw hP hD hS => ?_)
        have hw := hw.symm
        subst hw
        have hP : va_P D vwCl (WS_X12_ask cI cJ cZ cY a0 a0_a a0_image a0_texts a0_board a0_taken a0_fars a0_before a0_tape a0_pile a0_rows a0_told a0_values a0_truth a0_keeps r_2) H := hP.sub [0, 1, 2, 3, 4, 5, 6, 7, 8, 9, 10, 11, 12, 13, 14] rfl
        have hD : va_D A (WS_X12_ask cI cJ cZ cY a0 a0_a a0_image a0_texts a0_board a0_taken a0_fars a0_before a0_tape a0_pile a0_rows a0_told a0_values a0_truth a0_keeps r_2) := hD.sub [0, 1, 2, 3, 4, 5, 6, 7, 8, 9, 10, 11, 12, 13, 14] (by decide) rfl
        obtain ⟨x4_3, ex4_3⟩ : ∃ z : Int32, z = x4 + 1 := ⟨_, rfl⟩
        have hg := g_lte hg x4_3 ex4_3
        refine lv_iinc (v := x4_3) (lv' := [(4, .int x4_3), (0, .ref a0), (1, .int x1)]) hx hb dX12_ask_118 hl (k := 2) rfl (by rw [ex4_3]; rfl) (by decide) rfl (fun ls hl => ?_)
        refine lv_goto (tgt := 105) hx hb dX12_ask_121 (by decide) ?_
        exact ih x1 x4_3 r_2 H locs ls hP hD hS (lv_sub hl [1, 2, 0] rfl) hg
  have b_2 : ∀ (n : Nat), ∀ (x1 : Int32) (v0 : BX12) (H : Heap) (locs : List Loc) (ls : Array Slot), va_P D vwCl (WS_X12_ask cI cJ cZ cY a0 a0_a a0_image a0_texts a0_board a0_taken a0_fars a0_before a0_tape a0_pile a0_rows a0_told a0_values a0_truth a0_keeps v0) H → va_D A (WS_X12_ask cI cJ cZ cY a0 a0_a a0_image a0_texts a0_board a0_taken a0_fars a0_before a0_tape a0_pile a0_rows a0_told a0_values a0_truth a0_keeps v0) → va_S A s.heap H locs → lv_has ls 5 [(0, .ref a0), (1, .int x1)] → f_X12_ask_b2 n (x1, v0) = some res → W p l e rm_X12_ask s m args below meth c H locs 0 0 Q (F0 m 2 ls []) := by
    intro n
    induction n with
    | zero =>
      intro x1 v0 H locs ls hP hD hS hl hg
      exact (g_lp0 hg).elim
    | succ n ih =>
      intro x1 v0 H locs ls hP hD hS hl hg
      have hg : f_X12_ask_b2B (f_X12_ask_b2 n) x1 v0 = some res := hg
      unfold f_X12_ask_b2B at hg
      refine lv_aload_n hx hb dX12_ask_2 rfl (lv_at hl 0 rfl) ?_
      refine lv_bipush (v := 110) hx hb dX12_ask_3 (by decide) ?_
      refine lv_bipush (v := 111) hx hb dX12_ask_5 (by decide) ?_
      refine lv_bipush (v := 116) hx hb dX12_ask_7 (by decide) ?_
      obtain ⟨r_4, hr_4, hg⟩ := g_bd hg
      refine cc_l (va_runS (As := [.int 110, .int 111, .int 116]) (rest := [.ref a0]) ⟨hx, hb, hml, hown, htb⟩ (k_X12_w3 110 111 116 r_4 hr_4) (cw_S 3 htb tg_1226 tg_13 tg_1224 tg_1225 rfl rfl (by decide +kernel) ⟨Nat.le_of_ble_eq_true rfl, Nat.le_of_ble_eq_true rfl⟩) ⟨PC.blind, PC.pre hK hT hP hD hS hA [] rfl (by decide)⟩ rfl rfl hl.1 rfl (lv_room (Nat.le_of_ble_eq_true rfl)) dX12_ask_9 ⟨Nat.le_of_ble_eq_true rfl, Nat.le_of_ble_eq_true rfl⟩) hP hD hS hA [] [0, 1, 2, 3, 4, 5, 6, 7, 8, 9, 10, 11, 12, 13, 14] rfl rfl (by decide) (by decide) (fun r9 u9 H locs hw hP hD hS => ?_)
      have hw := hw.symm
      subst hw
      have hP : va_P D vwCl (WS_X12_ask cI cJ cZ cY a0 a0_a a0_image a0_texts a0_board a0_taken a0_fars a0_before a0_tape a0_pile a0_rows a0_told a0_values a0_truth a0_keeps v0) H := hP.sub [0, 1, 2, 3, 4, 5, 6, 7, 8, 9, 10, 11, 12, 13, 14] rfl
      have hD : va_D A (WS_X12_ask cI cJ cZ cY a0 a0_a a0_image a0_texts a0_board a0_taken a0_fars a0_before a0_tape a0_pile a0_rows a0_told a0_values a0_truth a0_keeps v0) := hD.sub [0, 1, 2, 3, 4, 5, 6, 7, 8, 9, 10, 11, 12, 13, 14] (by decide) rfl
      obtain ⟨r_5, hr_5, hg⟩ := g_bd hg
      refine cc_i (va_runV (C := RX12) (As := [.long r_4]) (rest := []) ⟨hx, hb, hml, hown, htb⟩ (k_X12_isWord a0 a0_a a0_image a0_texts a0_board a0_taken a0_fars a0_before a0_tape a0_pile a0_rows a0_told a0_values a0_truth a0_keeps v0 r_4 r_5 hr_5) (cw_V 1 htb tg_1248 tg_13 tg_1245 tg_1247 ts_49 rfl rfl (by decide +kernel) ⟨Nat.le_of_ble_eq_true rfl, Nat.le_of_ble_eq_true rfl⟩) ⟨PC.blind, va_recv hK.1 hP (ci := 11) (q0 := 0) rfl rfl, PC.pre hK hT hP hD hS hA [0, 1, 2, 3, 4, 5, 6, 7, 8, 9, 10, 11, 12, 13, 14] rfl (by decide)⟩ rfl rfl hl.1 rfl (lv_room (Nat.le_of_ble_eq_true rfl)) dX12_ask_12 ⟨Nat.le_of_ble_eq_true rfl, Nat.le_of_ble_eq_true rfl⟩) hP hD hS hA [0, 1, 2, 3, 4, 5, 6, 7, 8, 9, 10, 11, 12, 13, 14] [] rfl rfl (by decide) (by decide) (fun r9 u9 H locs hw hP hD hS => ?_)
      have hw := hw.symm
      subst hw
      have hP : va_P D vwCl (WS_X12_ask cI cJ cZ cY a0 a0_a a0_image a0_texts a0_board a0_taken a0_fars a0_before a0_tape a0_pile a0_rows a0_told a0_values a0_truth a0_keeps v0) H := hP.sub [0, 1, 2, 3, 4, 5, 6, 7, 8, 9, 10, 11, 12, 13, 14] rfl
      have hD : va_D A (WS_X12_ask cI cJ cZ cY a0 a0_a a0_image a0_texts a0_board a0_taken a0_fars a0_before a0_tape a0_pile a0_rows a0_told a0_values a0_truth a0_keeps v0) := hD.sub [0, 1, 2, 3, 4, 5, 6, 7, 8, 9, 10, 11, 12, 13, 14] (by decide) rfl
      refine lv_if_eq (tgt := 49) hx hb dX12_ask_15 (by decide) (fun c_6 => ?_) (fun c_6 => ?_)
      · have hg := g_it hg c_6
        refine lv_aload_n hx hb dX12_ask_49 rfl (lv_at hl 0 rfl) ?_
        obtain ⟨r_7, hr_7, hg⟩ := g_bd hg
        refine cc_i (va_runV (C := RX12) (As := []) (rest := []) ⟨hx, hb, hml, hown, htb⟩ (k_X12_summed a0 a0_a a0_image a0_texts a0_board a0_taken a0_fars a0_before a0_tape a0_pile a0_rows a0_told a0_values a0_truth a0_keeps v0 r_7 hr_7) (cw_V 0 htb tg_1252 tg_13 tg_1249 tg_1251 ts_50 rfl rfl (by decide +kernel) ⟨Nat.le_of_ble_eq_true rfl, Nat.le_of_ble_eq_true rfl⟩) ⟨PC.blind, va_recv hK.1 hP (ci := 11) (q0 := 0) rfl rfl, PC.pre hK hT hP hD hS hA [0, 1, 2, 3, 4, 5, 6, 7, 8, 9, 10, 11, 12, 13, 14] rfl (by decide)⟩ rfl rfl hl.1 rfl (lv_room (Nat.le_of_ble_eq_true rfl)) dX12_ask_50 ⟨Nat.le_of_ble_eq_true rfl, Nat.le_of_ble_eq_true rfl⟩) hP hD hS hA [0, 1, 2, 3, 4, 5, 6, 7, 8, 9, 10, 11, 12, 13, 14] [] rfl rfl (by decide) (by decide) (fun r9 u9 H locs hw hP hD hS => ?_)
        obtain ⟨rfl, rfl⟩ := hw
        have hP : va_P D vwCl (WS_X12_ask cI cJ cZ cY a0 a0_a a0_image a0_texts a0_board a0_taken a0_fars a0_before a0_tape a0_pile a0_rows a0_told a0_values a0_truth a0_keeps r_7.2) H := hP.sub [0, 1, 2, 3, 4, 5, 6, 7, 8, 9, 10, 11, 12, 13, 14] rfl
        have hD : va_D A (WS_X12_ask cI cJ cZ cY a0 a0_a a0_image a0_texts a0_board a0_taken a0_fars a0_before a0_tape a0_pile a0_rows a0_told a0_values a0_truth a0_keeps r_7.2) := hD.sub [0, 1, 2, 3, 4, 5, 6, 7, 8, 9, 10, 11, 12, 13, 14] (by decide) rfl
        refine lv_istore_n (lv' := [(2, .int r_7.1), (0, .ref a0), (1, .int x1)]) hx hb dX12_ask_53 rfl hl (by decide) rfl (fun ls hl => ?_)
        refine lv_iload_n hx hb dX12_ask_54 rfl (lv_at hl 0 rfl) ?_
        refine lv_if_eq (tgt := 60) hx hb dX12_ask_55 (by decide) (fun c_8 => ?_) (fun c_8 => ?_)
        · have hg := g_it hg c_8
          refine lv_aload_n hx hb dX12_ask_60 rfl (lv_at hl 1 rfl) ?_
          obtain ⟨r_9, hr_9, hg⟩ := g_bd hg
          refine cc_i (va_runV (C := RX12) (As := []) (rest := []) ⟨hx, hb, hml, hown, htb⟩ (k_X12_compareOf a0 a0_a a0_image a0_texts a0_board a0_taken a0_fars a0_before a0_tape a0_pile a0_rows a0_told a0_values a0_truth a0_keeps r_7.2 r_9 hr_9) (cw_V 0 htb tg_1292 tg_13 tg_1289 tg_1291 ts_60 rfl rfl (by decide +kernel) ⟨Nat.le_of_ble_eq_true rfl, Nat.le_of_ble_eq_true rfl⟩) ⟨PC.blind, va_recv hK.1 hP (ci := 11) (q0 := 0) rfl rfl, PC.pre hK hT hP hD hS hA [0, 1, 2, 3, 4, 5, 6, 7, 8, 9, 10, 11, 12, 13, 14] rfl (by decide)⟩ rfl rfl hl.1 rfl (lv_room (Nat.le_of_ble_eq_true rfl)) dX12_ask_61 ⟨Nat.le_of_ble_eq_true rfl, Nat.le_of_ble_eq_true rfl⟩) hP hD hS hA [0, 1, 2, 3, 4, 5, 6, 7, 8, 9, 10, 11, 12, 13, 14] [] rfl rfl (by decide) (by decide) (fun r9 u9 H locs hw hP hD hS => ?_)
          have hw := hw.symm
          subst hw
          have hP : va_P D vwCl (WS_X12_ask cI cJ cZ cY a0 a0_a a0_image a0_texts a0_board a0_taken a0_fars a0_before a0_tape a0_pile a0_rows a0_told a0_values a0_truth a0_keeps r_7.2) H := hP.sub [0, 1, 2, 3, 4, 5, 6, 7, 8, 9, 10, 11, 12, 13, 14] rfl
          have hD : va_D A (WS_X12_ask cI cJ cZ cY a0 a0_a a0_image a0_texts a0_board a0_taken a0_fars a0_before a0_tape a0_pile a0_rows a0_told a0_values a0_truth a0_keeps r_7.2) := hD.sub [0, 1, 2, 3, 4, 5, 6, 7, 8, 9, 10, 11, 12, 13, 14] (by decide) rfl
          refine lv_istore_n (lv' := [(3, .int r_9), (2, .int r_7.1), (0, .ref a0), (1, .int x1)]) hx hb dX12_ask_64 rfl hl (by decide) rfl (fun ls hl => ?_)
          refine lv_iload_n hx hb dX12_ask_65 rfl (lv_at hl 0 rfl) ?_
          refine lv_if_ge (tgt := 71) hx hb dX12_ask_66 (by decide) (fun c_10 => ?_) (fun c_10 => ?_)
          · have hg := g_it hg c_10
            refine lv_aload_n hx hb dX12_ask_71 rfl (lv_at hl 2 rfl) ?_
            obtain ⟨r_11, hr_11, hg⟩ := g_bd hg
            refine cc_v (va_runV (C := RX12) (As := []) (rest := []) ⟨hx, hb, hml, hown, htb⟩ (k_X12_nextToken a0 a0_a a0_image a0_texts a0_board a0_taken a0_fars a0_before a0_tape a0_pile a0_rows a0_told a0_values a0_truth a0_keeps r_7.2 r_11 hr_11) (cw_V 0 htb tg_1204 tg_13 tg_1201 tg_1203 ts_42 rfl rfl (by decide +kernel) ⟨Nat.le_of_ble_eq_true rfl, Nat.le_of_ble_eq_true rfl⟩) ⟨PC.blind, va_recv hK.1 hP (ci := 11) (q0 := 0) rfl rfl, PC.pre hK hT hP hD hS hA [0, 1, 2, 3, 4, 5, 6, 7, 8, 9, 10, 11, 12, 13, 14] rfl (by decide)⟩ rfl rfl hl.1 rfl (lv_room (Nat.le_of_ble_eq_true rfl)) dX12_ask_72 ⟨Nat.le_of_ble_eq_true rfl, Nat.le_of_ble_eq_true rfl⟩) hP hD hS hA [0, 1, 2, 3, 4, 5, 6, 7, 8, 9, 10, 11, 12, 13, 14] [] rfl rfl (by decide) (by decide) (fun u9 H locs hw hP hD hS => ?_)
            have hw := hw.symm
            subst hw
            have hP : va_P D vwCl (WS_X12_ask cI cJ cZ cY a0 a0_a a0_image a0_texts a0_board a0_taken a0_fars a0_before a0_tape a0_pile a0_rows a0_told a0_values a0_truth a0_keeps r_11) H := hP.sub [0, 1, 2, 3, 4, 5, 6, 7, 8, 9, 10, 11, 12, 13, 14] rfl
            have hD : va_D A (WS_X12_ask cI cJ cZ cY a0 a0_a a0_image a0_texts a0_board a0_taken a0_fars a0_before a0_tape a0_pile a0_rows a0_told a0_values a0_truth a0_keeps r_11) := hD.sub [0, 1, 2, 3, 4, 5, 6, 7, 8, 9, 10, 11, 12, 13, 14] (by decide) rfl
            refine lv_aload_n hx hb dX12_ask_75 rfl (lv_at hl 2 rfl) ?_
            obtain ⟨r_12, hr_12, hg⟩ := g_bd hg
            refine cc_i (va_runV (C := RX12) (As := []) (rest := []) ⟨hx, hb, hml, hown, htb⟩ (k_X12_summed a0 a0_a a0_image a0_texts a0_board a0_taken a0_fars a0_before a0_tape a0_pile a0_rows a0_told a0_values a0_truth a0_keeps r_11 r_12 hr_12) (cw_V 0 htb tg_1252 tg_13 tg_1249 tg_1251 ts_50 rfl rfl (by decide +kernel) ⟨Nat.le_of_ble_eq_true rfl, Nat.le_of_ble_eq_true rfl⟩) ⟨PC.blind, va_recv hK.1 hP (ci := 11) (q0 := 0) rfl rfl, PC.pre hK hT hP hD hS hA [0, 1, 2, 3, 4, 5, 6, 7, 8, 9, 10, 11, 12, 13, 14] rfl (by decide)⟩ rfl rfl hl.1 rfl (lv_room (Nat.le_of_ble_eq_true rfl)) dX12_ask_76 ⟨Nat.le_of_ble_eq_true rfl, Nat.le_of_ble_eq_true rfl⟩) hP hD hS hA [0, 1, 2, 3, 4, 5, 6, 7, 8, 9, 10, 11, 12, 13, 14] [] rfl rfl (by decide) (by decide) (fun r9 u9 H locs hw hP hD hS => ?_)
            obtain ⟨rfl, rfl⟩ := hw
            have hP : va_P D vwCl (WS_X12_ask cI cJ cZ cY a0 a0_a a0_image a0_texts a0_board a0_taken a0_fars a0_before a0_tape a0_pile a0_rows a0_told a0_values a0_truth a0_keeps r_12.2) H := hP.sub [0, 1, 2, 3, 4, 5, 6, 7, 8, 9, 10, 11, 12, 13, 14] rfl
            have hD : va_D A (WS_X12_ask cI cJ cZ cY a0 a0_a a0_image a0_texts a0_board a0_taken a0_fars a0_before a0_tape a0_pile a0_rows a0_told a0_values a0_truth a0_keeps r_12.2) := hD.sub [0, 1, 2, 3, 4, 5, 6, 7, 8, 9, 10, 11, 12, 13, 14] (by decide) rfl
            refine lv_istore_n (lv' := [(2, .int r_12.1), (3, .int r_9), (0, .ref a0), (1, .int x1)]) hx hb dX12_ask_79 rfl hl (by decide) rfl (fun ls hl => ?_)
            refine lv_iload_n hx hb dX12_ask_80 rfl (lv_at hl 0 rfl) ?_
            refine lv_if_eq (tgt := 86) hx hb dX12_ask_81 (by decide) (fun c_13 => ?_) (fun c_13 => ?_)
            · have hg := g_it hg c_13
              refine lv_aload_n hx hb dX12_ask_86 rfl (lv_at hl 2 rfl) ?_
              refine lv_iload_n hx hb dX12_ask_87 rfl (lv_at hl 1 rfl) ?_
              refine lv_iconst (v := 0) hx hb dX12_ask_88 (by decide) ?_
              obtain ⟨r_14, hr_14, hg⟩ := g_bd hg
              refine cc_v (va_runV (C := RX12) (As := [.int r_9, .int 0]) (rest := []) ⟨hx, hb, hml, hown, htb⟩ (k_X12_emit a0 a0_a a0_image a0_texts a0_board a0_taken a0_fars a0_before a0_tape a0_pile a0_rows a0_told a0_values a0_truth a0_keeps r_12.2 r_9 0 r_14 hr_14) (cw_V 2 htb tg_1272 tg_13 tg_1269 tg_1271 ts_55 rfl rfl (by decide +kernel) ⟨Nat.le_of_ble_eq_true rfl, Nat.le_of_ble_eq_true rfl⟩) ⟨PC.blind, va_recv hK.1 hP (ci := 11) (q0 := 0) rfl rfl, PC.pre hK hT hP hD hS hA [0, 1, 2, 3, 4, 5, 6, 7, 8, 9, 10, 11, 12, 13, 14] rfl (by decide)⟩ rfl rfl hl.1 rfl (lv_room (Nat.le_of_ble_eq_true rfl)) dX12_ask_89 ⟨Nat.le_of_ble_eq_true rfl, Nat.le_of_ble_eq_true rfl⟩) hP hD hS hA [0, 1, 2, 3, 4, 5, 6, 7, 8, 9, 10, 11, 12, 13, 14] [] rfl rfl (by decide) (by decide) (fun u9 H locs hw hP hD hS => ?_)
              have hw := hw.symm
              subst hw
              have hP : va_P D vwCl (WS_X12_ask cI cJ cZ cY a0 a0_a a0_image a0_texts a0_board a0_taken a0_fars a0_before a0_tape a0_pile a0_rows a0_told a0_values a0_truth a0_keeps r_14) H := hP.sub [0, 1, 2, 3, 4, 5, 6, 7, 8, 9, 10, 11, 12, 13, 14] rfl
              have hD : va_D A (WS_X12_ask cI cJ cZ cY a0 a0_a a0_image a0_texts a0_board a0_taken a0_fars a0_before a0_tape a0_pile a0_rows a0_told a0_values a0_truth a0_keeps r_14) := hD.sub [0, 1, 2, 3, 4, 5, 6, 7, 8, 9, 10, 11, 12, 13, 14] (by decide) rfl
              refine lv_aload_n hx hb dX12_ask_92 rfl (lv_at hl 2 rfl) ?_
              refine lv_dup hx hb dX12_ask_93 rfl ?_
              refine va_get (ci := 11) (v := .int (pX12_opens r_14)) (C := RX12) (T := TX12) (N := 43) hx hb htb uX12 hown hK.1 hP 0 rfl rfl 25 (by decide) (htb _ tg_961) (fun _ h9 => h9) rfl dX12_ask_94 ?_
              refine lv_iload_n hx hb dX12_ask_97 rfl (lv_at hl 3 rfl) ?_
              refine lv_isub hx hb dX12_ask_98 ?_
              refine lv_topi (fun x_15 ex_15 => ?_)
              have hg := g_lte hg x_15 ex_15
              refine va_put (ci := 11) (v := .int x_15) (ty := .int) (C := RX12) (T := TX12) (N := 43) hx hb htb uX12 tyX12 tyX12_ok nmX12 hown hK.1 hP hD hS 0 rfl rfl 25 (by decide) (htb _ tg_961) (fun _ h9 => h9) rfl (by decide +kernel) rfl rfl (Nat.le_of_ble_eq_true rfl) dX12_ask_99 (fun H locs hP hD hS => ?_)
              obtain ⟨v0_16, ev0_16⟩ : ∃ z, z = sX12_opens r_14 x_15 := ⟨_, rfl⟩
              have hP : va_P D vwCl (WS_X12_ask cI cJ cZ cY a0 a0_a a0_image a0_texts a0_board a0_taken a0_fars a0_before a0_tape a0_pile a0_rows a0_told a0_values a0_truth a0_keeps v0_16) H := by rw [ev0_16]; exact hP
              have hD : va_D A (WS_X12_ask cI cJ cZ cY a0 a0_a a0_image a0_texts a0_board a0_taken a0_fars a0_before a0_tape a0_pile a0_rows a0_told a0_values a0_truth a0_keeps v0_16) := by rw [ev0_16]; exact hD
              have hg := g_lte hg v0_16 ev0_16
              refine lv_iconst (v := 0) hx hb dX12_ask_102 (by decide) ?_
              refine lv_istore (lv' := [(4, .int 0), (2, .int r_12.1), (3, .int r_9), (0, .ref a0), (1, .int x1)]) hx hb dX12_ask_103 hl (by decide) rfl (fun ls hl => ?_)
              exact b_105 fU x1 0 v0_16 H locs ls hP hD hS (lv_sub hl [3, 4, 0] rfl) hg
            · have hg := g_if hg c_13
              refine lv_iload_n hx hb dX12_ask_84 rfl (lv_at hl 0 rfl) ?_
              have hg := Option.some.inj hg
              rw [hQ]
              exact W.iret (v := r_12.1) hx hb hr (fun t ht hW => ⟨⟨r_12.1, (r_12.2), rfl, ⟨by rw [← hg], by rw [← hg]⟩, by rw [ht]; exact hP, hD⟩, hS.F ht⟩) hS.2.2 dX12_ask_85
          · have hg := g_if hg c_10
            refine lv_iconst (v := 1) hx hb dX12_ask_69 (by decide) ?_
            have hg := Option.some.inj hg
            rw [hQ]
            exact W.iret (v := 1) hx hb hr (fun t ht hW => ⟨⟨1, (r_7.2), rfl, ⟨by rw [← hg], by rw [← hg]⟩, by rw [ht]; exact hP, hD⟩, hS.F ht⟩) hS.2.2 dX12_ask_70
        · have hg := g_if hg c_8
          refine lv_iload_n hx hb dX12_ask_58 rfl (lv_at hl 0 rfl) ?_
          have hg := Option.some.inj hg
          rw [hQ]
          exact W.iret (v := r_7.1) hx hb hr (fun t ht hW => ⟨⟨r_7.1, (r_7.2), rfl, ⟨by rw [← hg], by rw [← hg]⟩, by rw [ht]; exact hP, hD⟩, hS.F ht⟩) hS.2.2 dX12_ask_59
      · have hg := g_if hg c_6
        refine lv_aload_n hx hb dX12_ask_18 rfl (lv_at hl 0 rfl) ?_
        refine va_get (ci := 11) (v := .int (pX12_opens v0)) (C := RX12) (T := TX12) (N := 43) hx hb htb uX12 hown hK.1 hP 0 rfl rfl 25 (by decide) (htb _ tg_961) (fun _ h9 => h9) rfl dX12_ask_19 ?_
        refine lv_bipush (v := 8) hx hb dX12_ask_22 (by decide) ?_
        refine lv_icmp_ne (tgt := 29) hx hb dX12_ask_24 (by decide) (fun c_17 => ?_) (fun c_17 => ?_)
        · have hg := g_if hg c_17
          refine lv_aload_n hx hb dX12_ask_29 rfl (lv_at hl 0 rfl) ?_
          refine lv_dup hx hb dX12_ask_30 rfl ?_
          refine va_get (ci := 11) (v := .int (pX12_opens v0)) (C := RX12) (T := TX12) (N := 43) hx hb htb uX12 hown hK.1 hP 0 rfl rfl 25 (by decide) (htb _ tg_961) (fun _ h9 => h9) rfl dX12_ask_31 ?_
          refine lv_iconst (v := 1) hx hb dX12_ask_34 (by decide) ?_
          refine lv_iadd hx hb dX12_ask_35 ?_
          refine lv_topi (fun x_18 ex_18 => ?_)
          have hg := g_lte hg x_18 ex_18
          refine va_put (ci := 11) (v := .int x_18) (ty := .int) (C := RX12) (T := TX12) (N := 43) hx hb htb uX12 tyX12 tyX12_ok nmX12 hown hK.1 hP hD hS 0 rfl rfl 25 (by decide) (htb _ tg_961) (fun _ h9 => h9) rfl (by decide +kernel) rfl rfl (Nat.le_of_ble_eq_true rfl) dX12_ask_36 (fun H locs hP hD hS => ?_)
          obtain ⟨v0_19, ev0_19⟩ : ∃ z, z = sX12_opens v0 x_18 := ⟨_, rfl⟩
          have hP : va_P D vwCl (WS_X12_ask cI cJ cZ cY a0 a0_a a0_image a0_texts a0_board a0_taken a0_fars a0_before a0_tape a0_pile a0_rows a0_told a0_values a0_truth a0_keeps v0_19) H := by rw [ev0_19]; exact hP
          have hD : va_D A (WS_X12_ask cI cJ cZ cY a0 a0_a a0_image a0_texts a0_board a0_taken a0_fars a0_before a0_tape a0_pile a0_rows a0_told a0_values a0_truth a0_keeps v0_19) := by rw [ev0_19]; exact hD
          have hg := g_lte hg v0_19 ev0_19
          obtain ⟨x1_20, ex1_20⟩ : ∃ z : Int32, z = x1 + 1 := ⟨_, rfl⟩
          have hg := g_lte hg x1_20 ex1_20
          refine lv_iinc (v := x1_20) (lv' := [(1, .int x1_20), (0, .ref a0)]) hx hb dX12_ask_39 hl (k := 1) rfl (by rw [ex1_20]; rfl) (by decide) rfl (fun ls hl => ?_)
          refine lv_aload_n hx hb dX12_ask_42 rfl (lv_at hl 1 rfl) ?_
          obtain ⟨r_21, hr_21, hg⟩ := g_bd hg
          refine cc_v (va_runV (C := RX12) (As := []) (rest := []) ⟨hx, hb, hml, hown, htb⟩ (k_X12_nextToken a0 a0_a a0_image a0_texts a0_board a0_taken a0_fars a0_before a0_tape a0_pile a0_rows a0_told a0_values a0_truth a0_keeps v0_19 r_21 hr_21) (cw_V 0 htb tg_1204 tg_13 tg_1201 tg_1203 ts_42 rfl rfl (by decide +kernel) ⟨Nat.le_of_ble_eq_true rfl, Nat.le_of_ble_eq_true rfl⟩) ⟨PC.blind, va_recv hK.1 hP (ci := 11) (q0 := 0) rfl rfl, PC.pre hK hT hP hD hS hA [0, 1, 2, 3, 4, 5, 6, 7, 8, 9, 10, 11, 12, 13, 14] rfl (by decide)⟩ rfl rfl hl.1 rfl (lv_room (Nat.le_of_ble_eq_true rfl)) dX12_ask_43 ⟨Nat.le_of_ble_eq_true rfl, Nat.le_of_ble_eq_true rfl⟩) hP hD hS hA [0, 1, 2, 3, 4, 5, 6, 7, 8, 9, 10, 11, 12, 13, 14] [] rfl rfl (by decide) (by decide) (fun u9 H locs hw hP hD hS => ?_)
          have hw := hw.symm
          subst hw
          have hP : va_P D vwCl (WS_X12_ask cI cJ cZ cY a0 a0_a a0_image a0_texts a0_board a0_taken a0_fars a0_before a0_tape a0_pile a0_rows a0_told a0_values a0_truth a0_keeps r_21) H := hP.sub [0, 1, 2, 3, 4, 5, 6, 7, 8, 9, 10, 11, 12, 13, 14] rfl
          have hD : va_D A (WS_X12_ask cI cJ cZ cY a0 a0_a a0_image a0_texts a0_board a0_taken a0_fars a0_before a0_tape a0_pile a0_rows a0_told a0_values a0_truth a0_keeps r_21) := hD.sub [0, 1, 2, 3, 4, 5, 6, 7, 8, 9, 10, 11, 12, 13, 14] (by decide) rfl
          refine lv_goto (tgt := 2) hx hb dX12_ask_46 (by decide) ?_
          exact ih x1_20 r_21 H locs ls hP hD hS (lv_sub hl [1, 0] rfl) hg
        · have hg := g_it hg c_17
          refine lv_iconst (v := 3) hx hb dX12_ask_27 (by decide) ?_
          have hg := Option.some.inj hg
          rw [hQ]
          exact W.iret (v := 3) hx hb hr (fun t ht hW => ⟨⟨3, (v0), rfl, ⟨by rw [← hg], by rw [← hg]⟩, by rw [ht]; exact hP, hD⟩, hS.F ht⟩) hS.2.2 dX12_ask_28
  generalize hHe : s.heap = H at hP ⊢
  have hS : va_S A s.heap H [] := by rw [← hHe]; exact va_S.rf
  generalize ([] : List Loc) = locs at hS ⊢
  unfold f_X12_ask at hg
  refine lv_iconst (v := 0) hx hb dX12_ask_0 (by decide) ?_
  refine lv_istore_n (lv' := [(1, .int 0), (0, .ref a0)]) hx hb dX12_ask_1 rfl hl (by decide) rfl (fun ls hl => ?_)
  exact b_2 fU 0 v0 H locs ls hP hD hS (lv_sub hl [1, 0] rfl) hg
