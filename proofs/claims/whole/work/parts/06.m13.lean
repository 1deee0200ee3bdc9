/-! ManyEyesModel.run(IIIII)V -/
def WS_X12_run (cI cJ cZ cY : ClassId) (a0 a0_a a0_image a0_texts a0_board a0_taken a0_fars a0_before a0_tape a0_pile a0_rows a0_told a0_values a0_truth a0_keeps : Nat) (v0 : BX12) : va_W := (GX12 cI cJ cZ cY a0 a0_a a0_image a0_texts a0_board a0_taken a0_fars a0_before a0_tape a0_pile a0_rows a0_told a0_values a0_truth a0_keeps v0)
def f_X12_run_b293 (J36 : (Int32 × Int32 × BX12) → Option (BX12)) (x1 : Int32) (x5 : Int32) (t1 : Int32) (v0 : BX12) : Option (BX12) := g_gd (t1 = 0 ∨ t1 = 1) (g_lt (sX12_hit v0 t1) (fun v0_2 => J36 (x1, x5, v0_2)))
def f_X12_run_b288 (J36 : (Int32 × Int32 × BX12) → Option (BX12)) (x1 : Int32) (x5 : Int32) (v0 : BX12) : Option (BX12) := f_X12_run_b293 J36 x1 x5 1 v0
def f_X12_run_b36B (J36 : Int32 × Int32 × BX12 → Option (BX12)) (x1 : Int32) (x5 : Int32) (v0 : BX12) : Option (BX12) := if (x5 : Int32) ≤ (pX12_ticks v0) then (some (v0)) else (if ((pX12_hit v0) : Int32) = 0 then (if ((pX12_rested v0) : Int32) = 0 then (g_lt ((pX12_ticks v0) : Int32) (fun x_6 => g_lt (sX12_now v0 x_6) (fun v0_7 => (f_X12_see_ v0_7).bind (fun r_8 => (f_X12_think r_8 x1).bind (fun r_9 => g_gd (r_9.1 = 0 ∨ r_9.1 = 1) (g_lt (sX12_rested r_9.2 r_9.1) (fun v0_11 => if ((pX12_rested v0_11) : Int32) = 0 then (g_lt (((38 : Int32) * (pX12_now v0_11)) : Int32) (fun x6_13 => g_lt ((pX12_turn v0_11) : Int32) (fun x_14 => g_gd (inB x6_13 2280) (g_lt (sX12_rows v0_11 (upd (pX12_rows v0_11) (x6_13 : Int32).toNatClampNeg x_14)) (fun v0_16 => g_lt ((pX12_go v0_16) : Int32) (fun x_17 => g_gd (inB (x6_13 + 1) 2280) (g_lt (sX12_rows v0_16 (upd (pX12_rows v0_16) ((x6_13 + 1) : Int32).toNatClampNeg x_17)) (fun v0_19 => g_lt ((pX12_atX v0_19) : Int32) (fun x_20 => g_gd (inB (x6_13 + 2) 2280) (g_lt (sX12_rows v0_19 (upd (pX12_rows v0_19) ((x6_13 + 2) : Int32).toNatClampNeg x_20)) (fun v0_22 => g_lt ((pX12_atY v0_22) : Int32) (fun x_23 => g_gd (inB (x6_13 + 3) 2280) (g_lt (sX12_rows v0_22 (upd (pX12_rows v0_22) ((x6_13 + 3) : Int32).toNatClampNeg x_23)) (fun v0_25 => g_lt ((pX12_heading v0_25) : Int32) (fun x_26 => g_gd (inB (x6_13 + 4) 2280) (g_lt (sX12_rows v0_25 (upd (pX12_rows v0_25) ((x6_13 + 4) : Int32).toNatClampNeg x_26)) (fun v0_28 => g_lt (((((pX12_heading v0_28) + (pX12_turn v0_28)) + 64) - (((pX12_heading v0_28) + (pX12_turn v0_28)) + 64) / 64 * 64) : Int32) (fun x_30 => g_lt (sX12_heading v0_28 x_30) (fun v0_31 => (f_X12_wayX (pX12_heading v0_31)).bind (fun r_32 => (f_X12_floor ((pX12_go v0_31) * r_32) 16).bind (fun r_33 => g_lt (((pX12_atX v0_31) + r_33) : Int32) (fun x_34 => g_lt (sX12_atX v0_31 x_34) (fun v0_35 => (f_X12_wayY (pX12_heading v0_35)).bind (fun r_36 => (f_X12_floor ((pX12_go v0_35) * r_36) 16).bind (fun r_37 => g_lt (((pX12_atY v0_35) + r_37) : Int32) (fun x_38 => g_lt (sX12_atY v0_35 x_38) (fun v0_39 => g_lt (((pX12_ticks v0_39) + 1) : Int32) (fun x_40 => g_lt (sX12_ticks v0_39 x_40) (fun v0_41 => (f_X12_isPlace v0_41 (pX12_atX v0_41) (pX12_atY v0_41)).bind (fun r_42 => if (r_42 : Int32) = 0 then (f_X12_run_b288 J36 x1 x5 v0_41) else ((f_X12_markAt v0_41 ((((pX12_atY v0_41) / 16) * (pX12_w v0_41)) + ((pX12_atX v0_41) / 16)) (pX12_ticks v0_41)).bind (fun r_46 => if (r_46 : Int32) ≤ 0 then (f_X12_run_b293 J36 x1 x5 0 v0_41) else (f_X12_run_b288 J36 x1 x5 v0_41))))))))))))))))))))))))))))))))) else (some (v0_11))))))))) else (some (v0))) else (some (v0)))
def f_X12_run_b36 : Nat → (Int32 × Int32 × BX12) → Option (BX12) := g_lp (fun J z => f_X12_run_b36B J z.1 z.2.1 z.2.2)
def f_X12_run (v0 : BX12) (p0 : Int32) (p1 : Int32) (p2 : Int32) (p3 : Int32) (p4 : Int32) : Option (BX12) := g_lt (sX12_ticks v0 0) (fun v0_48 => g_lt (sX12_atX v0_48 p1) (fun v0_49 => g_lt (sX12_atY v0_49 p2) (fun v0_50 => g_lt (sX12_heading v0_50 p3) (fun v0_51 => g_lt (sX12_hit v0_51 0) (fun v0_52 => g_lt (sX12_rested v0_52 0) (fun v0_53 => g_lt (sX12_over v0_53 0) (fun v0_54 => f_X12_run_b36 fU (p0, p4, v0_54))))))))
abbrev rm_X12_run : Room := { frames := 5, cells := 0, slots := 0, locals := 116 }
set_option maxHeartbeats 4000000 in
set_option maxRecDepth 100000 in
theorem k_X12_run {l : Launch} {D : va_G} {cI cJ cZ cY : ClassId} {tX tY : Nat} {sz : Nat} (a0 a0_a a0_image a0_texts a0_board a0_taken a0_fars a0_before a0_tape a0_pile a0_rows a0_told a0_values a0_truth a0_keeps : Nat) (v0 : BX12) (p0 : Int32) (p1 : Int32) (p2 : Int32) (p3 : Int32) (p4 : Int32) (res : BX12) (hg : f_X12_run v0 p0 p1 p2 p3 p4 = some res) : Met l yX12_run (Cond.code yX12_run cX12_run 7 none :: TB) rm_X12_run (PC D cI cJ cZ cY tX tY [.ref a0, .int p0, .int p1, .int p2, .int p3, .int p4] (WS_X12_run cI cJ cZ cY a0 a0_a a0_image a0_texts a0_board a0_taken a0_fars a0_before a0_tape a0_pile a0_rows a0_told a0_values a0_truth a0_keeps v0) sz) (va_Qv (fun (u : BX12) => u = res) (BC D (fun u : BX12 => WS_X12_run cI cJ cZ cY a0 a0_a a0_image a0_texts a0_board a0_taken a0_fars a0_before a0_tape a0_pile a0_rows a0_told a0_values a0_truth a0_keeps u) (va_A (WS_X12_run cI cJ cZ cY a0 a0_a a0_image a0_texts a0_board a0_taken a0_fars a0_before a0_tape a0_pile a0_rows a0_told a0_values a0_truth a0_keeps v0) sz)) (va_A (WS_X12_run cI cJ cZ cY a0 a0_a a0_image a0_texts a0_board a0_taken a0_fars a0_before a0_tape a0_pile a0_rows a0_told a0_values a0_truth a0_keeps v0) sz)) 0 0 (va_A (WS_X12_run cI cJ cZ cY a0 a0_a a0_image a0_texts a0_board a0_taken a0_fars a0_before a0_tape a0_pile a0_rows a0_told a0_values a0_truth a0_keeps v0) sz) := by
  refine Met.ofW (cc := cX12_run) (maxL := 7) (ret := none) (by decide) rfl ?_
  intro p e s m args below meth c s₁ B hml hv
  obtain ⟨hargs, hsz, hP, hK, hD0, hT⟩ := hv
  have hx := B.exec
  have hb := B.bytes
  have hr := B.returns
  have htb : ∀ w ∈ TB, w.before args s = true := fun w h => atoms_spec (ws := Cond.code yX12_run cX12_run 7 none :: TB) B.pre w (List.mem_cons_of_mem _ h)
  have hown : s.vm.findClass "ManyEyesModel" = some m.cls := findClass_of_methodNamed B.named
  have hlocks := B.notSynchronized
  subst hsz
  have hD := hD0.self (sz := s.heap.size)
  generalize hAe : va_A (WS_X12_run cI cJ cZ cY a0 a0_a a0_image a0_texts a0_board a0_taken a0_fars a0_before a0_tape a0_pile a0_rows a0_told a0_values a0_truth a0_keeps v0) s.heap.size = A at hD hT ⊢
  have hA : ∀ q : Nat, s.heap.size ≤ q → A q := fun q h => by rw [← hAe]; exact Or.inr h
  have hS : va_S A s.heap s.heap [] := va_S.rf
  have hl := lv_entry ([.ref a0, .int p0, .int p1, .int p2, .int p3, .int p4]) (n := 7) (Nat.le_of_ble_eq_true rfl)
  have he : entryFrame m args 7 = F0 m 0 (lg_sl ([.ref a0, .int p0, .int p1, .int p2, .int p3, .int p4]) ++ List.replicate (7 - (lg_sl ([.ref a0, .int p0, .int p1, .int p2, .int p3, .int p4])).length) Slot.unset).toArray [] := by rw [hargs, lg_entry_eq]
  rw [he]
  generalize (lg_sl ([.ref a0, .int p0, .int p1, .int p2, .int p3, .int p4]) ++ List.replicate (7 - (lg_sl ([.ref a0, .int p0, .int p1, .int p2, .int p3, .int p4])).length) Slot.unset).toArray = ls at hl ⊢
  have hl : lv_has ls 7 [(0, .ref a0), (1, .int p0), (2, .int p1), (3, .int p2), (4, .int p3), (5, .int p4)] := hl
  show W p l e rm_X12_run s m args below meth c s.heap [] 0 0 _ _
  refine W.genQ (fun Q hQ => ?_)
  have b_293 : ∀ (J36 : (Int32 × Int32 × BX12) → Option (BX12)) (hJ36 : ∀ (x1 : Int32) (x5 : Int32) (v0 : BX12) (H : Heap) (locs : List Loc) (ls : Array Slot), va_P D vwCl (WS_X12_run cI cJ cZ cY a0 a0_a a0_image a0_texts a0_board a0_taken a0_fars a0_before a0_tape a0_pile a0_rows a0_told a0_values a0_truth a0_keeps v0) H → va_D A (WS_X12_run cI cJ cZ cY a0 a0_a a0_image a0_texts a0_board a0_taken a0_fars a0_before a0_tape a0_pile a0_rows a0_told a0_values a0_truth a0_keeps v0) → va_S A s.heap H locs → lv_has ls 7 [(0, .ref a0), (1, .int x1), (5, .int x5)] → J36 (x1, x5, v0) = some res → W p l e rm_X12_run s m args below meth c H locs 0 0 Q (F0 m 36 ls [])), ∀ (x1 : Int32) (x5 : Int32) (t1 : Int32) (v0 : BX12) (H : Heap) (locs : List Loc) (ls : Array Slot), va_P D vwCl (WS_X12_run cI cJ cZ cY a0 a0_a a0_image a0_texts a0_board a0_taken a0_fars a0_before a0_tape a0_pile a0_rows a0_told a0_values a0_truth a0_keeps v0) H → va_D A (WS_X12_run cI cJ cZ cY a0 a0_a a0_image a0_texts a0_board a0_taken a0_fars a0_before a0_tape a0_pile a0_rows a0_told a0_values a0_truth a0_keeps v0) → va_S A s.heap H locs → lv_has ls 7 [(0, .ref a0), (1, .int x1), (5, .int x5)] → f_X12_run_b293 J36 x1 x5 t1 v0 = some res → W p l e rm_X12_run s m args below meth c H locs 0 0 Q (F0 m 293 ls [.int t1, .ref a0]) := by
    intro J36 hJ36 x1 x5 t1 v0 H locs ls hP hD hS hl hg
    unfold f_X12_run_b293 at hg
    obtain ⟨h_1, hg⟩ := g_gde hg
    refine va_put (ci := 11) (v := .int t1) (ty := .boolean) (C := RX12) (T := TX12) (N := 43) hx hb htb uX12 tyX12 tyX12_ok nmX12 hown hK.1 hP hD hS 0 rfl rfl 33 (by decide) (htb _ tg_969) (fun _ h9 => h9) rfl (by decide +kernel) (bool_nar h_1) (bool_fit h_1) (Nat.le_of_ble_eq_true rfl) dX12_run_293 (fun H locs hP hD hS => ?_)
    obtain ⟨v0_2, ev0_2⟩ : ∃ z, z = sX12_hit v0 t1 := ⟨_, rfl⟩
    have hP : va_P D vwCl (WS_X12_run cI cJ cZ cY a0 a0_a a0_image a0_texts a0_board a0_taken a0_fars a0_before a0_tape a0_pile a0_rows a0_told a0_values a0_truth a0_keeps v0_2) H := by rw [ev0_2]; exact hP
    have hD : va_D A (WS_X12_run cI cJ cZ cY a0 a0_a a0_image a0_texts a0_board a0_taken a0_fars a0_before a0_tape a0_pile a0_rows a0_told a0_values a0_truth a0_keeps v0_2) := by rw [ev0_2]; exact hD
    have hg := g_lte hg v0_2 ev0_2
    refine lv_goto (tgt := 36) hx hb dX12_run_296 (by decide) ?_
    exact hJ36 x1 x5 v0_2 H locs ls hP hD hS (lv_sub hl [0, 1, 2] rfl) hg
  have b_288 : ∀ (J36 : (Int32 × Int32 × BX12) → Option (BX12)) (hJ36 : ∀ (x1 : Int32) (x5 : Int32) (v0 : BX12) (H : Heap) (locs : List Loc) (ls : Array Slot), va_P D vwCl (WS_X12_run cI cJ cZ cY a0 a0_a a0_image a0_texts a0_board a0_taken a0_fars a0_before a0_tape a0_pile a0_rows a0_told a0_values a0_truth a0_keeps v0) H → va_D A (WS_X12_run cI cJ cZ cY a0 a0_a a0_image a0_texts a0_board a0_taken a0_fars a0_before a0_tape a0_pile a0_rows a0_told a0_values a0_truth a0_keeps v0) → va_S A s.heap H locs → lv_has ls 7 [(0, .ref a0), (1, .int x1), (5, .int x5)] → J36 (x1, x5, v0) = some res → W p l e rm_X12_run s m args below meth c H locs 0 0 Q (F0 m 36 ls [])), ∀ (x1 : Int32) (x5 : Int32) (v0 : BX12) (H : Heap) (locs : List Loc) (ls : Array Slot), va_P D vwCl (WS_X12_run cI cJ cZ cY a0 a0_a a0_image a0_texts a0_board a0_taken a0_fars a0_before a0_tape a0_pile a0_rows a0_told a0_values a0_truth a0_keeps v0) H → va_D A (WS_X12_run cI cJ cZ cY a0 a0_a a0_image a0_texts a0_board a0_taken a0_fars a0_before a0_tape a0_pile a0_rows a0_told a0_values a0_truth a0_keeps v0) → va_S A s.heap H locs → lv_has ls 7 [(0, .ref a0), (1, .int x1), (5, .int x5)] → f_X12_run_b288 J36 x1 x5 v0 = some res → W p l e rm_X12_run s m args below meth c H locs 0 0 Q (F0 m 288 ls [.ref a0]) := by
    intro J36 hJ36 x1 x5 v0 H locs ls hP hD hS hl hg
    unfold f_X12_run_b288 at hg
    refine lv_iconst (v := 1) hx hb dX12_run_288 (by decide) ?_
    refine lv_goto (tgt := 293) hx hb dX12_run_289 (by decide) ?_
    exact b_293 J36 hJ36 x1 x5 1 v0 H locs ls hP hD hS (lv_sub hl [0, 1, 2] rfl) hg
  have b_36 : ∀ (n : Nat), ∀ (x1 : Int32) (x5 : Int32) (v0 : BX12) (H : Heap) (locs : List Loc) (ls : Array Slot), va_P D vwCl (WS_X12_run cI cJ cZ cY a0 a0_a a0_image a0_texts a0_board a0_taken a0_fars a0_before a0_tape a0_pile a0_rows a0_told a0_values a0_truth a0_keeps v0) H → va_D A (WS_X12_run cI cJ cZ cY a0 a0_a a0_image a0_texts a0_board a0_taken a0_fars a0_before a0_tape a0_pile a0_rows a0_told a0_values a0_truth a0_keeps v0) → va_S A s.heap H locs → lv_has ls 7 [(0, .ref a0), (1, .int x1), (5, .int x5)] → f_X12_run_b36 n (x1, x5, v0) = some res → W p l e rm_X12_run s m args below meth c H locs 0 0 Q (F0 m 36 ls []) := by
    intro n
    induction n with
    | zero =>
      intro x1 x5 v0 H locs ls hP hD hS hl hg
      exact (g_lp0 hg).elim
    | succ n ih =>
      intro x1 x5 v0 H locs ls hP hD hS hl hg
      have hg : f_X12_run_b36B (f_X12_run_b36 n) x1 x5 v0 = some res := hg
      unfold f_X12_run_b36B at hg
      refine lv_aload_n hx hb dX12_run_36 rfl (lv_at hl 0 rfl) ?_
      refine va_get (ci := 11) (v := .int (pX12_ticks v0)) (C := RX12) (T := TX12) (N := 43) hx hb htb uX12 hown hK.1 hP 0 rfl rfl 29 (by decide) (htb _ tg_965) (fun _ h9 => h9) rfl dX12_run_37 ?_
      refine lv_iload hx hb dX12_run_40 (lv_at hl 2 rfl) ?_
      refine lv_icmp_ge (tgt := 299) hx hb dX12_run_42 (by decide) (fun c_3 => ?_) (fun c_3 => ?_)
      · have hg := g_it hg c_3
        have hg := Option.some.inj hg
        rw [hQ]
        exact W.vret hx hb hr (fun t ht hW => ⟨⟨(v0), rfl, hg, by rw [ht]; exact hP, hD⟩, hS.F ht⟩) hS.2.2 dX12_run_299
      · have hg := g_if hg c_3
        refine lv_aload_n hx hb dX12_run_45 rfl (lv_at hl 0 rfl) ?_
        refine va_get (ci := 11) (v := .int (pX12_hit v0)) (C := RX12) (T := TX12) (N := 43) hx hb htb uX12 hown hK.1 hP 0 rfl rfl 33 (by decide) (htb _ tg_969) (fun _ h9 => h9) rfl dX12_run_46 ?_
        refine lv_if_ne (tgt := 299) hx hb dX12_run_49 (by decide) (fun c_4 => ?_) (fun c_4 => ?_)
        · have hg := g_if hg c_4
          have hg := Option.some.inj hg
          rw [hQ]
          exact W.vret hx hb hr (fun t ht hW => ⟨⟨(v0), rfl, hg, by rw [ht]; exact hP, hD⟩, hS.F ht⟩) hS.2.2 dX12_run_299
        · have hg := g_it hg c_4
          refine lv_aload_n hx hb dX12_run_52 rfl (lv_at hl 0 rfl) ?_
          refine va_get (ci := 11) (v := .int (pX12_rested v0)) (C := RX12) (T := TX12) (N := 43) hx hb htb uX12 hown hK.1 hP 0 rfl rfl 34 (by decide) (htb _ tg_970) (fun _ h9 => h9) rfl dX12_run_53 ?_
          refine lv_if_ne (tgt := 299) hx hb dX12_run_56 (by decide) (fun c_5 => ?_) (fun c_5 => ?_)
          · have hg := g_if hg c_5
            have hg := Option.some.inj hg
            rw [hQ]
            exact W.vret hx hb hr (fun t ht hW => ⟨⟨(v0), rfl, hg, by rw [ht]; exact hP, hD⟩, hS.F ht⟩) hS.2.2 dX12_run_299
          · have hg := g_it hg c_5
            refine lv_aload_n hx hb dX12_run_59 rfl (lv_at hl 0 rfl) ?_
            refine lv_aload_n hx hb dX12_run_60 rfl (lv_at hl 0 rfl) ?_
            refine va_get (ci := 11) (v := .int (pX12_ticks v0)) (C := RX12) (T := TX12) (N := 43) hx hb htb uX12 hown hK.1 hP 0 rfl rfl 29 (by decide) (htb _ tg_965) (fun _ h9 => h9) rfl dX12_run_61 ?_
            refine lv_topi (fun x_6 ex_6 => ?_)
            have hg := g_lte hg x_6 ex_6
            refine va_put (ci := 11) (v := .int x_6) (ty := .int) (C := RX12) (T := TX12) (N := 43) hx hb htb uX12 tyX12 tyX12_ok nmX12 hown hK.1 hP hD hS 0 rfl rfl 39 (by decide) (htb _ tg_975) (fun _ h9 => h9) rfl (by decide +kernel) rfl rfl (Nat.le_of_ble_eq_true rfl) dX12_run_64 (fun H locs hP hD hS => ?_)
            obtain ⟨v0_7, ev0_7⟩ : ∃ z, z = sX12_now v0 x_6 := ⟨_, rfl⟩
            have hP : va_P D vwCl (WS_X12_run cI cJ cZ cY a0 a0_a a0_image a0_texts a0_board a0_taken a0_fars a0_before a0_tape a0_pile a0_rows a0_told a0_values a0_truth a0_keeps v0_7) H := by rw [ev0_7]; exact hP
            have hD : va_D A (WS_X12_run cI cJ cZ cY a0 a0_a a0_image a0_texts a0_board a0_taken a0_fars a0_before a0_tape a0_pile a0_rows a0_told a0_values a0_truth a0_keeps v0_7) := by rw [ev0_7]; exact hD
            have hg := g_lte hg v0_7 ev0_7
            refine lv_aload_n hx hb dX12_run_67 rfl (lv_at hl 0 rfl) ?_
            obtain ⟨r_8, hr_8, hg⟩ := g_bd hg
            refine cc_v (va_runV (C := RX12) (As := []) (rest := []) ⟨hx, hb, hml, hown, htb⟩ (k_X12_see_ a0 a0_a a0_image a0_texts a0_board a0_taken a0_fars a0_before a0_tape a0_pile a0_rows a0_told a0_values a0_truth a0_keeps v0_7 r_8 hr_8) (cw_V 0 htb tg_1318 tg_13 tg_1315 tg_1317 ts_64 rfl rfl (by decide +kernel) ⟨Nat.le_of_ble_eq_true rfl, Nat.le_of_ble_eq_true rfl⟩) ⟨PC.blind, va_recv hK.1 hP (ci := 11) (q0 := 0) rfl rfl, PC.pre hK hT hP hD hS hA [0, 1, 2, 3, 4, 5, 6, 7, 8, 9, 10, 11, 12, 13, 14] rfl (by decide)⟩ rfl rfl hl.1 rfl (lv_room (Nat.le_of_ble_eq_true rfl)) dX12_run_68 ⟨Nat.le_of_ble_eq_true rfl, Nat.le_of_ble_eq_true rfl⟩) hP hD hS hA [0, 1, 2, 3, 4, 5, 6, 7, 8, 9, 10, 11, 12, 13, 14] [] rfl rfl (by decide) (by decide) (fun u9 H locs hw hP hD hS => ?_)
            have hw := hw.symm
            subst hw
            have hP : va_P D vwCl (WS_X12_run cI cJ cZ cY a0 a0_a a0_image a0_texts a0_board a0_taken a0_fars a0_before a0_tape a0_pile a0_rows a0_told a0_values a0_truth a0_keeps r_8) H := hP.sub [0, 1, 2, 3, 4, 5, 6, 7, 8, 9, 10, 11, 12, 13, 14] rfl
            have hD : va_D A (WS_X12_run cI cJ cZ cY a0 a0_a a0_image a0_texts a0_board a0_taken a0_fars a0_before a0_tape a0_pile a0_rows a0_told a0_values a0_truth a0_keeps r_8) := hD.sub [0, 1, 2, 3, 4, 5, 6, 7, 8, 9, 10, 11, 12, 13, 14] (by decide) rfl
            refine lv_aload_n hx hb dX12_run_71 rfl (lv_at hl 0 rfl) ?_
            refine lv_aload_n hx hb dX12_run_72 rfl (lv_at hl 0 rfl) ?_
            refine lv_iload_n hx hb dX12_run_73 rfl (lv_at hl 1 rfl) ?_
            obtain ⟨r_9, hr_9, hg⟩ := g_bd hg
            refine cc_i (va_runV (C := RX12) (As := [.int x1]) (rest := [.ref a0]) ⟨hx, hb, hml, hown, htb⟩ (k_X12_think a0 a0_a a0_image a0_texts a0_board a0_taken a0_fars a0_before a0_tape a0_pile a0_rows a0_told a0_values a0_truth a0_keeps r_8 x1 r_9 hr_9) (cw_V 1 htb tg_1322 tg_13 tg_1319 tg_1321 ts_65 rfl rfl (by decide +kernel) ⟨Nat.le_of_ble_eq_true rfl, Nat.le_of_ble_eq_true rfl⟩) ⟨PC.blind, va_recv hK.1 hP (ci := 11) (q0 := 0) rfl rfl, PC.pre hK hT hP hD hS hA [0, 1, 2, 3, 4, 5, 6, 7, 8, 9, 10, 11, 12, 13, 14] rfl (by decide)⟩ rfl rfl hl.1 rfl (lv_room (Nat.le_of_ble_eq_true rfl)) dX12_run_74 ⟨Nat.le_of_ble_eq_true rfl, Nat.le_of_ble_eq_true rfl⟩) hP hD hS hA [0, 1, 2, 3, 4, 5, 6, 7, 8, 9, 10, 11, 12, 13, 14] [] rfl rfl (by decide) (by decide) (fun r9 u9 H locs hw hP hD hS => ?_)
            obtain ⟨rfl, rfl⟩ := hw
            have hP : va_P D vwCl (WS_X12_run cI cJ cZ cY a0 a0_a a0_image a0_texts a0_board a0_taken a0_fars a0_before a0_tape a0_pile a0_rows a0_told a0_values a0_truth a0_keeps r_9.2) H := hP.sub [0, 1, 2, 3, 4, 5, 6, 7, 8, 9, 10, 11, 12, 13, 14] rfl
            have hD : va_D A (WS_X12_run cI cJ cZ cY a0 a0_a a0_image a0_texts a0_board a0_taken a0_fars a0_before a0_tape a0_pile a0_rows a0_told a0_values a0_truth a0_keeps r_9.2) := hD.sub [0, 1, 2, 3, 4, 5, 6, 7, 8, 9, 10, 11, 12, 13, 14] (by decide) rfl
            obtain ⟨h_10, hg⟩ := g_gde hg
            refine va_put (ci := 11) (v := .int r_9.1) (ty := .boolean) (C := RX12) (T := TX12) (N := 43) hx hb htb uX12 tyX12 tyX12_ok nmX12 hown hK.1 hP hD hS 0 rfl rfl 34 (by decide) (htb _ tg_970) (fun _ h9 => h9) rfl (by decide +kernel) (bool_nar h_10) (bool_fit h_10) (Nat.le_of_ble_eq_true rfl) dX12_run_77 (fun H locs hP hD hS => ?_)
            obtain ⟨v0_11, ev0_11⟩ : ∃ z, z = sX12_rested r_9.2 r_9.1 := ⟨_, rfl⟩
            have hP : va_P D vwCl (WS_X12_run cI cJ cZ cY a0 a0_a a0_image a0_texts a0_board a0_taken a0_fars a0_before a0_tape a0_pile a0_rows a0_told a0_values a0_truth a0_keeps v0_11) H := by rw [ev0_11]; exact hP
            have hD : va_D A (WS_X12_run cI cJ cZ cY a0 a0_a a0_image a0_texts a0_board a0_taken a0_fars a0_before a0_tape a0_pile a0_rows a0_told a0_values a0_truth a0_keeps v0_11) := by rw [ev0_11]; exact hD
            have hg := g_lte hg v0_11 ev0_11
            refine lv_aload_n hx hb dX12_run_80 rfl (lv_at hl 0 rfl) ?_
            refine va_get (ci := 11) (v := .int (pX12_rested v0_11)) (C := RX12) (T := TX12) (N := 43) hx hb htb uX12 hown hK.1 hP 0 rfl rfl 34 (by decide) (htb _ tg_970) (fun _ h9 => h9) rfl dX12_run_81 ?_
            refine lv_if_eq (tgt := 88) hx hb dX12_run_84 (by decide) (fun c_12 => ?_) (fun c_12 => ?_)
            · have hg := g_it hg c_12
              refine lv_bipush (v := 38) hx hb dX12_run_88 (by decide) ?_
              refine lv_aload_n hx hb dX12_run_90 rfl (lv_at hl 0 rfl) ?_
              refine va_get (ci := 11) (v := .int (pX12_now v0_11)) (C := RX12) (T := TX12) (N := 43) hx hb htb uX12 hown hK.1 hP 0 rfl rfl 39 (by decide) (htb _ tg_975) (fun _ h9 => h9) rfl dX12_run_91 ?_
              refine lv_imul hx hb dX12_run_94 ?_
              refine lv_topi (fun x6_13 ex6_13 => ?_)
              have hg := g_lte hg x6_13 ex6_13
              refine lv_istore (lv' := [(6, .int x6_13), (0, .ref a0), (1, .int x1), (5, .int x5)]) hx hb dX12_run_95 hl (by decide) rfl (fun ls hl => ?_)
              refine lv_aload_n hx hb dX12_run_97 rfl (lv_at hl 1 rfl) ?_
              refine va_get (ci := 11) (v := .ref a0_rows) (C := RX12) (T := TX12) (N := 43) hx hb htb uX12 hown hK.1 hP 0 rfl rfl 35 (by decide) (htb _ tg_971) (fun _ h9 => h9) rfl dX12_run_98 ?_
              refine lv_iload hx hb dX12_run_101 (lv_at hl 0 rfl) ?_
              refine lv_aload_n hx hb dX12_run_103 rfl (lv_at hl 1 rfl) ?_
              refine va_get (ci := 11) (v := .int (pX12_turn v0_11)) (C := RX12) (T := TX12) (N := 43) hx hb htb uX12 hown hK.1 hP 0 rfl rfl 40 (by decide) (htb _ tg_976) (fun _ h9 => h9) rfl dX12_run_104 ?_
              refine lv_topi (fun x_14 ex_14 => ?_)
              have hg := g_lte hg x_14 ex_14
              obtain ⟨h_15, hg⟩ := g_gde hg
              refine va_iast hx hb hK.1 hP hD hS 10 0 rfl rfl (inB_vp h_15) dX12_run_107 (fun H locs hP hD hS => ?_)
              obtain ⟨v0_16, ev0_16⟩ : ∃ z, z = sX12_rows v0_11 (upd (pX12_rows v0_11) (x6_13 : Int32).toNatClampNeg x_14) := ⟨_, rfl⟩
              have hP : va_P D vwCl (WS_X12_run cI cJ cZ cY a0 a0_a a0_image a0_texts a0_board a0_taken a0_fars a0_before a0_tape a0_pile a0_rows a0_told a0_values a0_truth a0_keeps v0_16) H := by rw [ev0_16]; exact hP
              have hD : va_D A (WS_X12_run cI cJ cZ cY a0 a0_a a0_image a0_texts a0_board a0_taken a0_fars a0_before a0_tape a0_pile a0_rows a0_told a0_values a0_truth a0_keeps v0_16) := by rw [ev0_16]; exact hD
              have hg := g_lte hg v0_16 ev0_16
              refine lv_aload_n hx hb dX12_run_108 rfl (lv_at hl 1 rfl) ?_
              refine va_get (ci := 11) (v := .ref a0_rows) (C := RX12) (T := TX12) (N := 43) hx hb htb uX12 hown hK.1 hP 0 rfl rfl 35 (by decide) (htb _ tg_971) (fun _ h9 => h9) rfl dX12_run_109 ?_
              refine lv_iload hx hb dX12_run_112 (lv_at hl 0 rfl) ?_
              refine lv_iconst (v := 1) hx hb dX12_run_114 (by decide) ?_
              refine lv_iadd hx hb dX12_run_115 ?_
              refine lv_aload_n hx hb dX12_run_116 rfl (lv_at hl 1 rfl) ?_
              refine va_get (ci := 11) (v := .int (pX12_go v0_16)) (C := RX12) (T := TX12) (N := 43) hx hb htb uX12 hown hK.1 hP 0 rfl rfl 41 (by decide) (htb _ tg_977) (fun _ h9 => h9) rfl dX12_run_117 ?_
              refine lv_topi (fun x_17 ex_17 => ?_)
              have hg := g_lte hg x_17 ex_17
              obtain ⟨h_18, hg⟩ := g_gde hg
              refine va_iast hx hb hK.1 hP hD hS 10 0 rfl rfl (inB_vp h_18) dX12_run_120 (fun H locs hP hD hS => ?_)
              obtain ⟨v0_19, ev0_19⟩ : ∃ z, z = sX12_rows v0_16 (upd (pX12_rows v0_16) ((x6_13 + 1) : Int32).toNatClampNeg x_17) := ⟨_, rfl⟩
              have hP : va_P D vwCl (WS_X12_run cI cJ cZ cY a0 a0_a a0_image a0_texts a0_board a0_taken a0_fars a0_before a0_tape a0_pile a0_rows a0_told a0_values a0_truth a0_keeps v0_19) H := by rw [ev0_19]; exact hP
              have hD : va_D A (WS_X12_run cI cJ cZ cY a0 a0_a a0_image a0_texts a0_board a0_taken a0_fars a0_before a0_tape a0_pile a0_rows a0_told a0_values a0_truth a0_keeps v0_19) := by rw [ev0_19]; exact hD
              have hg := g_lte hg v0_19 ev0_19
              refine lv_aload_n hx hb dX12_run_121 rfl (lv_at hl 1 rfl) ?_
              refine va_get (ci := 11) (v := .ref a0_rows) (C := RX12) (T := TX12) (N := 43) hx hb htb uX12 hown hK.1 hP 0 rfl rfl 35 (by decide) (htb _ tg_971) (fun _ h9 => h9) rfl dX12_run_122 ?_
              refine lv_iload hx hb dX12_run_125 (lv_at hl 0 rfl) ?_
              refine lv_iconst (v := 2) hx hb dX12_run_127 (by decide) ?_
              refine lv_iadd hx hb dX12_run_128 ?_
              refine lv_aload_n hx hb dX12_run_129 rfl (lv_at hl 1 rfl) ?_
              refine va_get (ci := 11) (v := .int (pX12_atX v0_19)) (C := RX12) (T := TX12) (N := 43) hx hb htb uX12 hown hK.1 hP 0 rfl rfl 30 (by decide) (htb _ tg_966) (fun _ h9 => h9) rfl dX12_run_130 ?_
              refine lv_topi (fun x_20 ex_20 => ?_)
              have hg := g_lte hg x_20 ex_20
              obtain ⟨h_21, hg⟩ := g_gde hg
              refine va_iast hx hb hK.1 hP hD hS 10 0 rfl rfl (inB_vp h_21) dX12_run_133 (fun H locs hP hD hS => ?_)
              obtain ⟨v0_22, ev0_22⟩ : ∃ z, z = sX12_rows v0_19 (upd (pX12_rows v0_19) ((x6_13 + 2) : Int32).toNatClampNeg x_20) := ⟨_, rfl⟩
              have hP : va_P D vwCl (WS_X12_run cI cJ cZ cY a0 a0_a a0_image a0_texts a0_board a0_taken a0_fars a0_before a0_tape a0_pile a0_rows a0_told a0_values a0_truth a0_keeps v0_22) H := by rw [ev0_22]; exact hP
              have hD : va_D A (WS_X12_run cI cJ cZ cY a0 a0_a a0_image a0_texts a0_board a0_taken a0_fars a0_before a0_tape a0_pile a0_rows a0_told a0_values a0_truth a0_keeps v0_22) := by rw [ev0_22]; exact hD
              have hg := g_lte hg v0_22 ev0_22
              refine lv_aload_n hx hb dX12_run_134 rfl (lv_at hl 1 rfl) ?_
              refine va_get (ci := 11) (v := .ref a0_rows) (C := RX12) (T := TX12) (N := 43) hx hb htb uX12 hown hK.1 hP 0 rfl rfl 35 (by decide) (htb _ tg_971) (fun _ h9 => h9) rfl dX12_run_135 ?_
              refine lv_iload hx hb dX12_run_138 (lv_at hl 0 rfl) ?_
              refine lv_iconst (v := 3) hx hb dX12_run_140 (by decide) ?_
              refine lv_iadd hx hb dX12_run_141 ?_
              refine lv_aload_n hx hb dX12_run_142 rfl (lv_at hl 1 rfl) ?_
              refine va_get (ci := 11) (v := .int (pX12_atY v0_22)) (C := RX12) (T := TX12) (N := 43) hx hb htb uX12 hown hK.1 hP 0 rfl rfl 31 (by decide) (htb _ tg_967) (fun _ h9 => h9) rfl dX12_run_143 ?_
              refine lv_topi (fun x_23 ex_23 => ?_)
              have hg := g_lte hg x_23 ex_23
              obtain ⟨h_24, hg⟩ := g_gde hg
              refine va_iast hx hb hK.1 hP hD hS 10 0 rfl rfl (inB_vp h_24) dX12_run_146 (fun H locs hP hD hS => ?_)
              obtain ⟨v0_25, ev0_25⟩ : ∃ z, z = sX12_rows v0_22 (upd (pX12_rows v0_22) ((x6_13 + 3) : Int32).toNatClampNeg x_23) := ⟨_, rfl⟩
              have hP : va_P D vwCl (WS_X12_run cI cJ cZ cY a0 a0_a a0_image a0_texts a0_board a0_taken a0_fars a0_before a0_tape a0_pile a0_rows a0_told a0_values a0_truth a0_keeps v0_25) H := by rw [ev0_25]; exact hP
              have hD : va_D A (WS_X12_run cI cJ cZ cY a0 a0_a a0_image a0_texts a0_board a0_taken a0_fars a0_before a0_tape a0_pile a0_rows a0_told a0_values a0_truth a0_keeps v0_25) := by rw [ev0_25]; exact hD
              have hg := g_lte hg v0_25 ev0_25
              refine lv_aload_n hx hb dX12_run_147 rfl (lv_at hl 1 rfl) ?_
              refine va_get (ci := 11) (v := .ref a0_rows) (C := RX12) (T := TX12) (N := 43) hx hb htb uX12 hown hK.1 hP 0 rfl rfl 35 (by decide) (htb _ tg_971) (fun _ h9 => h9) rfl dX12_run_148 ?_
              refine lv_iload hx hb dX12_run_151 (lv_at hl 0 rfl) ?_
              refine lv_iconst (v := 4) hx hb dX12_run_153 (by decide) ?_
              refine lv_iadd hx hb dX12_run_154 ?_
              refine lv_aload_n hx hb dX12_run_155 rfl (lv_at hl 1 rfl) ?_
              refine va_get (ci := 11) (v := .int (pX12_heading v0_25)) (C := RX12) (T := TX12) (N := 43) hx hb htb uX12 hown hK.1 hP 0 rfl rfl 32 (by decide) (htb _ tg_968) (fun _ h9 => h9) rfl dX12_run_156 ?_
              refine lv_topi (fun x_26 ex_26 => ?_)
              have hg := g_lte hg x_26 ex_26
              obtain ⟨h_27, hg⟩ := g_gde hg
              refine va_iast hx hb hK.1 hP hD hS 10 0 rfl rfl (inB_vp h_27) dX12_run_159 (fun H locs hP hD hS => ?_)
              obtain ⟨v0_28, ev0_28⟩ : ∃ z, z = sX12_rows v0_25 (upd (pX12_rows v0_25) ((x6_13 + 4) : Int32).toNatClampNeg x_26) := ⟨_, rfl⟩
              have hP : va_P D vwCl (WS_X12_run cI cJ cZ cY a0 a0_a a0_image a0_texts a0_board a0_taken a0_fars a0_before a0_tape a0_pile a0_rows a0_told a0_values a0_truth a0_keeps v0_28) H := by rw [ev0_28]; exact hP
              have hD : va_D A (WS_X12_run cI cJ cZ cY a0 a0_a a0_image a0_texts a0_board a0_taken a0_fars a0_before a0_tape a0_pile a0_rows a0_told a0_values a0_truth a0_keeps v0_28) := by rw [ev0_28]; exact hD
              have hg := g_lte hg v0_28 ev0_28
              refine lv_aload_n hx hb dX12_run_160 rfl (lv_at hl 1 rfl) ?_
              refine lv_aload_n hx hb dX12_run_161 rfl (lv_at hl 1 rfl) ?_
              refine va_get (ci := 11) (v := .int (pX12_heading v0_28)) (C := RX12) (T := TX12) (N := 43) hx hb htb uX12 hown hK.1 hP 0 rfl rfl 32 (by decide) (htb _ tg_968) (fun _ h9 => h9) rfl dX12_run_162 ?_
              refine lv_aload_n hx hb dX12_run_165 rfl (lv_at hl 1 rfl) ?_
              refine va_get (ci := 11) (v := .int (pX12_turn v0_28)) (C := RX12) (T := TX12) (N := 43) hx hb htb uX12 hown hK.1 hP 0 rfl rfl 40 (by decide) (htb _ tg_976) (fun _ h9 => h9) rfl dX12_run_166 ?_
              refine lv_iadd hx hb dX12_run_169 ?_
              refine lv_bipush (v := 64) hx hb dX12_run_170 (by decide) ?_
              refine lv_iadd hx hb dX12_run_172 ?_
              refine lv_bipush (v := 64) hx hb dX12_run_173 (by decide) ?_
              refine lv_irem hx hb dX12_run_175 (by decide) ?_
              refine lv_topi (fun x_30 ex_30 => ?_)
              have hg := g_lte hg x_30 ex_30
              refine va_put (ci := 11) (v := .int x_30) (ty := .int) (C := RX12) (T := TX12) (N := 43) hx hb htb uX12 tyX12 tyX12_ok nmX12 hown hK.1 hP hD hS 0 rfl rfl 32 (by decide) (htb _ tg_968) (fun _ h9 => h9) rfl (by decide +kernel) rfl rfl (Nat.le_of_ble_eq_true rfl) dX12_run_176 (fun H locs hP hD hS => ?_)
              obtain ⟨v0_31, ev0_31⟩ : ∃ z, z = sX12_heading v0_28 x_30 := ⟨_, rfl⟩
              have hP : va_P D vwCl (WS_X12_run cI cJ cZ cY a0 a0_a a0_image a0_texts a0_board a0_taken a0_fars a0_before a0_tape a0_pile a0_rows a0_told a0_values a0_truth a0_keeps v0_31) H := by rw [ev0_31]; exact hP
              have hD : va_D A (WS_X12_run cI cJ cZ cY a0 a0_a a0_image a0_texts a0_board a0_taken a0_fars a0_before a0_tape a0_pile a0_rows a0_told a0_values a0_truth a0_keeps v0_31) := by rw [ev0_31]; exact hD
              have hg := g_lte hg v0_31 ev0_31
              refine lv_aload_n hx hb dX12_run_179 rfl (lv_at hl 1 rfl) ?_
              refine lv_dup hx hb dX12_run_180 rfl ?_
              refine va_get (ci := 11) (v := .int (pX12_atX v0_31)) (C := RX12) (T := TX12) (N := 43) hx hb htb uX12 hown hK.1 hP 0 rfl rfl 30 (by decide) (htb _ tg_966) (fun _ h9 => h9) rfl dX12_run_181 ?_
              refine lv_aload_n hx hb dX12_run_184 rfl (lv_at hl 1 rfl) ?_
              refine va_get (ci := 11) (v := .int (pX12_go v0_31)) (C := RX12) (T := TX12) (N := 43) hx hb htb uX12 hown hK.1 hP 0 rfl rfl 41 (by decide) (htb _ tg_977) (fun _ h9 => h9) rfl dX12_run_185 ?_
              refine lv_aload_n hx hb dX12_run_188 rfl (lv_at hl 1 rfl) ?_
              refine va_get (ci := 11) (v := .int (pX12_heading v0_31)) (C := RX12) (T := TX12) (N := 43) hx hb htb uX12 hown hK.1 hP 0 rfl rfl 32 (by decide) (htb _ tg_968) (fun _ h9 => h9) rfl dX12_run_189 ?_
              obtain ⟨r_32, hr_32, hg⟩ := g_bd hg
              refine cc_i (va_runS (As := [.int (pX12_heading v0_31)]) (rest := [.int (pX12_go v0_31), .int (pX12_atX v0_31), .ref a0]) ⟨hx, hb, hml, hown, htb⟩ (k_X12_wayX (pX12_heading v0_31) r_32 hr_32) (cw_S 1 htb tg_1119 tg_13 tg_1117 tg_1118 rfl rfl (by decide +kernel) ⟨Nat.le_of_ble_eq_true rfl, Nat.le_of_ble_eq_true rfl⟩) ⟨PC.blind, PC.pre hK hT hP hD hS hA [] rfl (by decide)⟩ rfl rfl hl.1 rfl (lv_room (Nat.le_of_ble_eq_true rfl)) dX12_run_192 ⟨Nat.le_of_ble_eq_true rfl, Nat.le_of_ble_eq_true rfl⟩) hP hD hS hA [] [0, 1, 2, 3, 4, 5, 6, 7, 8, 9, 10, 11, 12, 13, 14] rfl rfl (by decide) (by decide) (fun r9 u9 H locs hw hP hD hS => ?_)
              have hw := hw.symm
              subst hw
              have hP : va_P D vwCl (WS_X12_run cI cJ cZ cY a0 a0_a a0_image a0_texts a0_board a0_taken a0_fars a0_before a0_tape a0_pile a0_rows a0_told a0_values a0_truth a0_keeps v0_31) H := hP.sub [0, 1, 2, 3, 4, 5, 6, 7, 8, 9, 10, 11, 12, 13, 14] rfl
              have hD : va_D A (WS_X12_run cI cJ cZ cY a0 a0_a a0_image a0_texts a0_board a0_taken a0_fars a0_before a0_tape a0_pile a0_rows a0_told a0_values a0_truth a0_keeps v0_31) := hD.sub [0, 1, 2, 3, 4, 5, 6, 7, 8, 9, 10, 11, 12, 13, 14] (by decide) rfl
              refine lv_imul hx hb dX12_run_195 ?_
              refine lv_bipush (v := 16) hx hb dX12_run_196 (by decide) ?_
              obtain ⟨r_33, hr_33, hg⟩ := g_bd hg
              refine cc_i (va_runS (As := [.int ((pX12_go v0_31) * r_32), .int 16]) (rest := [.int (pX12_atX v0_31), .ref a0]) ⟨hx, hb, hml, hown, htb⟩ (k_X12_floor ((pX12_go v0_31) * r_32) 16 r_33 hr_33) (cw_S 2 htb tg_1122 tg_13 tg_1120 tg_1121 rfl rfl (by decide +kernel) ⟨Nat.le_of_ble_eq_true rfl, Nat.le_of_ble_eq_true rfl⟩) ⟨PC.blind, PC.pre hK hT hP hD hS hA [] rfl (by decide)⟩ rfl rfl hl.1 rfl (lv_room (Nat.le_of_ble_eq_true rfl)) dX12_run_198 ⟨Nat.le_of_ble_eq_true rfl, Nat.le_of_ble_eq_true rfl⟩) hP hD hS hA [] [0, 1, 2, 3, 4, 5, 6, 7, 8, 9, 10, 11, 12, 13, 14] rfl rfl (by decide) (by decide) (fun r9 u9 H locs hw hP hD hS => ?_)
              have hw := hw.symm
              subst hw
              have hP : va_P D vwCl (WS_X12_run cI cJ cZ cY a0 a0_a a0_image a0_texts a0_board a0_taken a0_fars a0_before a0_tape a0_pile a0_rows a0_told a0_values a0_truth a0_keeps v0_31) H := hP.sub [0, 1, 2, 3, 4, 5, 6, 7, 8, 9, 10, 11, 12, 13, 14] rfl
              have hD : va_D A (WS_X12_run cI cJ cZ cY a0 a0_a a0_image a0_texts a0_board a0_taken a0_fars a0_before a0_tape a0_pile a0_rows a0_told a0_values a0_truth a0_keeps v0_31) := hD.sub [0, 1, 2, 3, 4, 5, 6, 7, 8, 9, 10, 11, 12, 13, 14] (by decide) rfl
              refine lv_iadd hx hb dX12_run_201 ?_
              refine lv_topi (fun x_34 ex_34 => ?_)
              have hg := g_lte hg x_34 ex_34
              refine va_put (ci := 11) (v := .int x_34) (ty := .int) (C := RX12) (T := TX12) (N := 43) hx hb htb uX12 tyX12 tyX12_ok nmX12 hown hK.1 hP hD hS 0 rfl rfl 30 (by decide) (htb _ tg_966) (fun _ h9 => h9) rfl (by decide +kernel) rfl rfl (Nat.le_of_ble_eq_true rfl) dX12_run_202 (fun H locs hP hD hS => ?_)
              obtain ⟨v0_35, ev0_35⟩ : ∃ z, z = sX12_atX v0_31 x_34 := ⟨_, rfl⟩
              have hP : va_P D vwCl (WS_X12_run cI cJ cZ cY a0 a0_a a0_image a0_texts a0_board a0_taken a0_fars a0_before a0_tape a0_pile a0_rows a0_told a0_values a0_truth a0_keeps v0_35) H := by rw [ev0_35]; exact hP
              have hD : va_D A (WS_X12_run cI cJ cZ cY a0 a0_a a0_image a0_texts a0_board a0_taken a0_fars a0_before a0_tape a0_pile a0_rows a0_told a0_values a0_truth a0_keeps v0_35) := by rw [ev0_35]; exact hD
              have hg := g_lte hg v0_35 ev0_35
              refine lv_aload_n hx hb dX12_run_205 rfl (lv_at hl 1 rfl) ?_
              refine lv_dup hx hb dX12_run_206 rfl ?_
              refine va_get (ci := 11) (v := .int (pX12_atY v0_35)) (C := RX12) (T := TX12) (N := 43) hx hb htb uX12 hown hK.1 hP 0 rfl rfl 31 (by decide) (htb _ tg_967) (fun _ h9 => h9) rfl dX12_run_207 ?_
              refine lv_aload_n hx hb dX12_run_210 rfl (lv_at hl 1 rfl) ?_
              refine va_get (ci := 11) (v := .int (pX12_go v0_35)) (C := RX12) (T := TX12) (N := 43) hx hb htb uX12 hown hK.1 hP 0 rfl rfl 41 (by decide) (htb _ tg_977) (fun _ h9 => h9) rfl dX12_run_211 ?_
              refine lv_aload_n hx hb dX12_run_214 rfl (lv_at hl 1 rfl) ?_
              refine va_get (ci := 11) (v := .int (pX12_heading v0_35)) (C := RX12) (T := TX12) (N := 43) hx hb htb uX12 hown hK.1 hP 0 rfl rfl 32 (by decide) (htb _ tg_968) (fun _ h9 => h9) rfl dX12_run_215 ?_
              obtain ⟨r_36, hr_36, hg⟩ := g_bd hg
              refine cc_i (va_runS (As := [.int (pX12_heading v0_35)]) (rest := [.int (pX12_go v0_35), .int (pX12_atY v0_35), .ref a0]) ⟨hx, hb, hml, hown, htb⟩ (k_X12_wayY (pX12_heading v0_35) r_36 hr_36) (cw_S 1 htb tg_1125 tg_13 tg_1123 tg_1124 rfl rfl (by decide +kernel) ⟨Nat.le_of_ble_eq_true rfl, Nat.le_of_ble_eq_true rfl⟩) ⟨PC.blind, PC.pre hK hT hP hD hS hA [] rfl (by decide)⟩ rfl rfl hl.1 rfl (lv_room (Nat.le_of_ble_eq_true rfl)) dX12_run_218 ⟨Nat.le_of_ble_eq_true rfl, Nat.le_of_ble_eq_true rfl⟩) hP hD hS hA [] [0, 1, 2, 3, 4, 5, 6, 7, 8, 9, 10, 11, 12, 13, 14] rfl rfl (by decide) (by decide) (fun r9 u9 H locs hw hP hD hS => ?_)
              have hw := hw.symm
              subst hw
              have hP : va_P D vwCl (WS_X12_run cI cJ cZ cY a0 a0_a a0_image a0_texts a0_board a0_taken a0_fars a0_before a0_tape a0_pile a0_rows a0_told a0_values a0_truth a0_keeps v0_35) H := hP.sub [0, 1, 2, 3, 4, 5, 6, 7, 8, 9, 10, 11, 12, 13, 14] rfl
              have hD : va_D A (WS_X12_run cI cJ cZ cY a0 a0_a a0_image a0_texts a0_board a0_taken a0_fars a0_before a0_tape a0_pile a0_rows a0_told a0_values a0_truth a0_keeps v0_35) := hD.sub [0, 1, 2, 3, 4, 5, 6, 7, 8, 9, 10, 11, 12, 13, 14] (by decide) rfl
              refine lv_imul hx hb dX12_run_221 ?_
              refine lv_bipush (v := 16) hx hb dX12_run_222 (by decide) ?_
              obtain ⟨r_37, hr_37, hg⟩ := g_bd hg
              refine cc_i (va_runS (As := [.int ((pX12_go v0_35) * r_36), .int 16]) (rest := [.int (pX12_atY v0_35), .ref a0]) ⟨hx, hb, hml, hown, htb⟩ (k_X12_floor ((pX12_go v0_35) * r_36) 16 r_37 hr_37) (cw_S 2 htb tg_1122 tg_13 tg_1120 tg_1121 rfl rfl (by decide +kernel) ⟨Nat.le_of_ble_eq_true rfl, Nat.le_of_ble_eq_true rfl⟩) ⟨PC.blind, PC.pre hK hT hP hD hS hA [] rfl (by decide)⟩ rfl rfl hl.1 rfl (lv_room (Nat.le_of_ble_eq_true rfl)) dX12_run_224 ⟨Nat.le_of_ble_eq_true rfl, Nat.le_of_ble_eq_true rfl⟩) hP hD hS hA [] [0, 1, 2, 3, 4, 5, 6, 7, 8, 9, 10, 11, 12, 13, 14] rfl rfl (by decide) (by decide) (fun r9 u9 H locs hw hP hD hS => ?_)
              have hw := hw.symm
              subst hw
              have hP : va_P D vwCl (WS_X12_run cI cJ cZ cY a0 a0_a a0_image a0_texts a0_board a0_taken a0_fars a0_before a0_tape a0_pile a0_rows a0_told a0_values a0_truth a0_keeps v0_35) H := hP.sub [0, 1, 2, 3, 4, 5, 6, 7, 8, 9, 10, 11, 12, 13, 14] rfl
              have hD : va_D A (WS_X12_run cI cJ cZ cY a0 a0_a a0_image a0_texts a0_board a0_taken a0_fars a0_before a0_tape a0_pile a0_rows a0_told a0_values a0_truth a0_keeps v0_35) := hD.sub [0, 1, 2, 3, 4, 5, 6, 7, 8, 9, 10, 11, 12, 13, 14] (by decide) rfl
              refine lv_iadd hx hb dX12_run_227 ?_
              refine lv_topi (fun x_38 ex_38 => ?_)
              have hg := g_lte hg x_38 ex_38
              refine va_put (ci := 11) (v := .int x_38) (ty := .int) (C := RX12) (T := TX12) (N := 43) hx hb htb uX12 tyX12 tyX12_ok nmX12 hown hK.1 hP hD hS 0 rfl rfl 31 (by decide) (htb _ tg_967) (fun _ h9 => h9) rfl (by decide +kernel) rfl rfl (Nat.le_of_ble_eq_true rfl) dX12_run_228 (fun H locs hP hD hS => ?_)
              obtain ⟨v0_39, ev0_39⟩ : ∃ z, z = sX12_atY v0_35 x_38 := ⟨_, rfl⟩
              have hP : va_P D vwCl (WS_X12_run cI cJ cZ cY a0 a0_a a0_image a0_texts a0_board a0_taken a0_fars a0_before a0_tape a0_pile a0_rows a0_told a0_values a0_truth a0_keeps v0_39) H := by rw [ev0_39]; exact hP
              have hD : va_D A (WS_X12_run cI cJ cZ cY a0 a0_a a0_image a0_texts a0_board a0_taken a0_fars a0_before a0_tape a0_pile a0_rows a0_told a0_values a0_truth a0_keeps v0_39) := by rw [ev0_39]; exact hD
              have hg := g_lte hg v0_39 ev0_39
              refine lv_aload_n hx hb dX12_run_231 rfl (lv_at hl 1 rfl) ?_
              refine lv_dup hx hb dX12_run_232 rfl ?_
              refine va_get (ci := 11) (v := .int (pX12_ticks v0_39)) (C := RX12) (T := TX12) (N := 43) hx hb htb uX12 hown hK.1 hP 0 rfl rfl 29 (by decide) (htb _ tg_965) (fun _ h9 => h9) rfl dX12_run_233 ?_
              refine lv_iconst (v := 1) hx hb dX12_run_236 (by decide) ?_
              refine lv_iadd hx hb dX12_run_237 ?_
              refine lv_topi (fun x_40 ex_40 => ?_)
              have hg := g_lte hg x_40 ex_40
              refine va_put (ci := 11) (v := .int x_40) (ty := .int) (C := RX12) (T := TX12) (N := 43) hx hb htb uX12 tyX12 tyX12_ok nmX12 hown hK.1 hP hD hS 0 rfl rfl 29 (by decide) (htb _ tg_965) (fun _ h9 => h9) rfl (by decide +kernel) rfl rfl (Nat.le_of_ble_eq_true rfl) dX12_run_238 (fun H locs hP hD hS => ?_)
              obtain ⟨v0_41, ev0_41⟩ : ∃ z, z = sX12_ticks v0_39 x_40 := ⟨_, rfl⟩
              have hP : va_P D vwCl (WS_X12_run cI cJ cZ cY a0 a0_a a0_image a0_texts a0_board a0_taken a0_fars a0_before a0_tape a0_pile a0_rows a0_told a0_values a0_truth a0_keeps v0_41) H := by rw [ev0_41]; exact hP
              have hD : va_D A (WS_X12_run cI cJ cZ cY a0 a0_a a0_image a0_texts a0_board a0_taken a0_fars a0_before a0_tape a0_pile a0_rows a0_told a0_values a0_truth a0_keeps v0_41) := by rw [ev0_41]; exact hD
              have hg := g_lte hg v0_41 ev0_41
              refine lv_aload_n hx hb dX12_run_241 rfl (lv_at hl 1 rfl) ?_
              refine lv_aload_n hx hb dX12_run_242 rfl (lv_at hl 1 rfl) ?_
              refine lv_aload_n hx hb dX12_run_243 rfl (lv_at hl 1 rfl) ?_
              refine va_get (ci := 11) (v := .int (pX12_atX v0_41)) (C := RX12) (T := TX12) (N := 43) hx hb htb uX12 hown hK.1 hP 0 rfl rfl 30 (by decide) (htb _ tg_966) (fun _ h9 => h9) rfl dX12_run_244 ?_
              refine lv_aload_n hx hb dX12_run_247 rfl (lv_at hl 1 rfl) ?_
              refine va_get (ci := 11) (v := .int (pX12_atY v0_41)) (C := RX12) (T := TX12) (N := 43) hx hb htb uX12 hown hK.1 hP 0 rfl rfl 31 (by decide) (htb _ tg_967) (fun _ h9 => h9) rfl dX12_run_248 ?_
              obtain ⟨r_42, hr_42, hg⟩ := g_bd hg
              refine cc_i (va_runV (C := RX12) (As := [.int (pX12_atX v0_41), .int (pX12_atY v0_41)]) (rest := [.ref a0]) ⟨hx, hb, hml, hown, htb⟩ (k_X12_isPlace a0 a0_a a0_image a0_texts a0_board a0_taken a0_fars a0_before a0_tape a0_pile a0_rows a0_told a0_values a0_truth a0_keeps v0_41 (pX12_atX v0_41) (pX12_atY v0_41) r_42 hr_42) (cw_V 2 htb tg_1105 tg_13 tg_1102 tg_1104 ts_31 rfl rfl (by decide +kernel) ⟨Nat.le_of_ble_eq_true rfl, Nat.le_of_ble_eq_true rfl⟩) ⟨PC.blind, va_recv hK.1 hP (ci := 11) (q0 := 0) rfl rfl, PC.pre hK hT hP hD hS hA [0, 1, 2, 3, 4, 5, 6, 7, 8, 9, 10, 11, 12, 13, 14] rfl (by decide)⟩ rfl rfl hl.1 rfl (lv_room (Nat.le_of_ble_eq_true rfl)) dX12_run_251 ⟨Nat.le_of_ble_eq_true rfl, Nat.le_of_ble_eq_true rfl⟩) hP hD hS hA [0, 1, 2, 3, 4, 5, 6, 7, 8, 9, 10, 11, 12, 13, 14] [] rfl rfl (by decide) (by decide) (fun r9 u9 H locs hw hP hD hS => ?_)
              have hw := hw.symm
              subst hw
              have hP : va_P D vwCl (WS_X12_run cI cJ cZ cY a0 a0_a a0_image a0_texts a0_board a0_taken a0_fars a0_before a0_tape a0_pile a0_rows a0_told a0_values a0_truth a0_keeps v0_41) H := hP.sub [0, 1, 2, 3, 4, 5, 6, 7, 8, 9, 10, 11, 12, 13, 14] rfl
              have hD : va_D A (WS_X12_run cI cJ cZ cY a0 a0_a a0_image a0_texts a0_board a0_taken a0_fars a0_before a0_tape a0_pile a0_rows a0_told a0_values a0_truth a0_keeps v0_41) := hD.sub [0, 1, 2, 3, 4, 5, 6, 7, 8, 9, 10, 11, 12, 13, 14] (by decide) rfl
              refine lv_if_eq (tgt := 288) hx hb dX12_run_254 (by decide) (fun c_43 => ?_) (fun c_43 => ?_)
              · have hg := g_it hg c_43
                exact b_288 (f_X12_run_b36 n) ih x1 x5 v0_41 H locs ls hP hD hS (lv_sub hl [1, 2, 3] rfl) hg
              · have hg := g_if hg c_43
                refine lv_aload_n hx hb dX12_run_257 rfl (lv_at hl 1 rfl) ?_
                refine lv_aload_n hx hb dX12_run_258 rfl (lv_at hl 1 rfl) ?_
                refine va_get (ci := 11) (v := .int (pX12_atY v0_41)) (C := RX12) (T := TX12) (N := 43) hx hb htb uX12 hown hK.1 hP 0 rfl rfl 31 (by decide) (htb _ tg_967) (fun _ h9 => h9) rfl dX12_run_259 ?_
                refine lv_bipush (v := 16) hx hb dX12_run_262 (by decide) ?_
                refine lv_idiv hx hb dX12_run_264 (by decide) ?_
                refine lv_aload_n hx hb dX12_run_265 rfl (lv_at hl 1 rfl) ?_
                refine va_get (ci := 11) (v := .int (pX12_w v0_41)) (C := RX12) (T := TX12) (N := 43) hx hb htb uX12 hown hK.1 hP 0 rfl rfl 0 (by decide) (htb _ tg_936) (fun _ h9 => h9) rfl dX12_run_266 ?_
                refine lv_imul hx hb dX12_run_269 ?_
                refine lv_aload_n hx hb dX12_run_270 rfl (lv_at hl 1 rfl) ?_
                refine va_get (ci := 11) (v := .int (pX12_atX v0_41)) (C := RX12) (T := TX12) (N := 43) hx hb htb uX12 hown hK.1 hP 0 rfl rfl 30 (by decide) (htb _ tg_966) (fun _ h9 => h9) rfl dX12_run_271 ?_
                refine lv_bipush (v := 16) hx hb dX12_run_274 (by decide) ?_
                refine lv_idiv hx hb dX12_run_276 (by decide) ?_
                refine lv_iadd hx hb dX12_run_277 ?_
                refine lv_aload_n hx hb dX12_run_278 rfl (lv_at hl 1 rfl) ?_
                refine va_get (ci := 11) (v := .int (pX12_ticks v0_41)) (C := RX12) (T := TX12) (N := 43) hx hb htb uX12 hown hK.1 hP 0 rfl rfl 29 (by decide) (htb _ tg_965) (fun _ h9 => h9) rfl dX12_run_279 ?_
                obtain ⟨r_46, hr_46, hg⟩ := g_bd hg
                refine cc_i (va_runV (C := RX12) (As := [.int ((((pX12_atY v0_41) / 16) * (pX12_w v0_41)) + ((pX12_atX v0_41) / 16)), .int (pX12_ticks v0_41)]) (rest := [.ref a0]) ⟨hx, hb, hml, hown, htb⟩ (k_X12_markAt a0 a0_a a0_image a0_texts a0_board a0_taken a0_fars a0_before a0_tape a0_pile a0_rows a0_told a0_values a0_truth a0_keeps v0_41 ((((pX12_atY v0_41) / 16) * (pX12_w v0_41)) + ((pX12_atX v0_41) / 16)) (pX12_ticks v0_41) r_46 hr_46) (cw_V 2 htb tg_1093 tg_13 tg_1090 tg_1092 ts_29 rfl rfl (by decide +kernel) ⟨Nat.le_of_ble_eq_true rfl, Nat.le_of_ble_eq_true rfl⟩) ⟨PC.blind, va_recv hK.1 hP (ci := 11) (q0 := 0) rfl rfl, PC.pre hK hT hP hD hS hA [0, 1, 2, 3, 4, 5, 6, 7, 8, 9, 10, 11, 12, 13, 14] rfl (by decide)⟩ rfl rfl hl.1 rfl (lv_room (Nat.le_of_ble_eq_true rfl)) dX12_run_282 ⟨Nat.le_of_ble_eq_true rfl, Nat.le_of_ble_eq_true rfl⟩) hP hD hS hA [0, 1, 2, 3, 4, 5, 6, 7, 8, 9, 10, 11, 12, 13, 14] [] rfl rfl (by decide) (by decide) (fun r9 u9 H locs hw hP hD hS => ?_)
                have hw := hw.symm
                subst hw
                have hP : va_P D vwCl (WS_X12_run cI cJ cZ cY a0 a0_a a0_image a0_texts a0_board a0_taken a0_fars a0_before a0_tape a0_pile a0_rows a0_told a0_values a0_truth a0_keeps v0_41) H := hP.sub [0, 1, 2, 3, 4, 5, 6, 7, 8, 9, 10, 11, 12, 13, 14] rfl
                have hD : va_D A (WS_X12_run cI cJ cZ cY a0 a0_a a0_image a0_texts a0_board a0_taken a0_fars a0_before a0_tape a0_pile a0_rows a0_told a0_values a0_truth a0_keeps v0_41) := hD.sub [0, 1, 2, 3, 4, 5, 6, 7, 8, 9, 10, 11, 12, 13, 14] (by decide) rfl
                refine lv_if_le (tgt := 292) hx hb dX12_run_285 (by decide) (fun c_47 => ?_) (fun c_47 => ?_)
                · have hg := g_it hg c_47
                  refine lv_iconst (v := 0) hx hb dX12_run_292 (by decide) ?_
                  exact b_293 (f_X12_run_b36 n) ih x1 x5 0 v0_41 H locs ls hP hD hS (lv_sub hl [1, 2, 3] rfl) hg
                · have hg := g_if hg c_47
                  exact b_288 (f_X12_run_b36 n) ih x1 x5 v0_41 H locs ls hP hD hS (lv_sub hl [1, 2, 3] rfl) hg
            · have hg := g_if hg c_12
              have hg := Option.some.inj hg
              rw [hQ]
              exact W.vret hx hb hr (fun t ht hW => ⟨⟨(v0_11), rfl, hg, by rw [ht]; exact hP, hD⟩, hS.F ht⟩) hS.2.2 dX12_run_87
  generalize hHe : s.heap = H at hP ⊢
  have hS : va_S A s.heap H [] := by rw [← hHe]; exact va_S.rf
  generalize ([] : List Loc) = locs at hS ⊢
  unfold f_X12_run at hg
  refine lv_aload_n hx hb dX12_run_0 rfl (lv_at hl 0 rfl) ?_
  refine lv_iconst (v := 0) hx hb dX12_run_1 (by decide) ?_
  refine va_put (ci := 11) (v := .int 0) (ty := .int) (C := RX12) (T := TX12) (N := 43) hx hb htb uX12 tyX12 tyX12_ok nmX12 hown hK.1 hP hD hS 0 rfl rfl 29 (by decide) (htb _ tg_965) (fun _ h9 => h9) rfl (by decide +kernel) rfl rfl (Nat.le_of_ble_eq_true rfl) dX12_run_2 (fun H locs hP hD hS => ?_)
  obtain ⟨v0_48, ev0_48⟩ : ∃ z, z = sX12_ticks v0 0 := ⟨_, rfl⟩
  have hP : va_P D vwCl (WS_X12_run cI cJ cZ cY a0 a0_a a0_image a0_texts a0_board a0_taken a0_fars a0_before a0_tape a0_pile a0_rows a0_told a0_values a0_truth a0_keeps v0_48) H := by rw [ev0_48]; exact hP
  have hD : va_D A (WS_X12_run cI cJ cZ cY a0 a0_a a0_image a0_texts a0_board a0_taken a0_fars a0_before a0_tape a0_pile a0_rows a0_told a0_values a0_truth a0_keeps v0_48) := by rw [ev0_48]; exact hD
  have hg := g_lte hg v0_48 ev0_48
  refine lv_aload_n hx hb dX12_run_5 rfl (lv_at hl 0 rfl) ?_
  refine lv_iload_n hx hb dX12_run_6 rfl (lv_at hl 2 rfl) ?_
  refine va_put (ci := 11) (v := .int p1) (ty := .int) (C := RX12) (T := TX12) (N := 43) hx hb htb uX12 tyX12 tyX12_ok nmX12 hown hK.1 hP hD hS 0 rfl rfl 30 (by decide) (htb _ tg_966) (fun _ h9 => h9) rfl (by decide +kernel) rfl rfl (Nat.le_of_ble_eq_true rfl) dX12_run_7 (fun H locs hP hD hS => ?_)
  obtain ⟨v0_49, ev0_49⟩ : ∃ z, z = sX12_atX v0_48 p1 := ⟨_, rfl⟩
  have hP : va_P D vwCl (WS_X12_run cI cJ cZ cY a0 a0_a a0_image a0_texts a0_board a0_taken a0_fars a0_before a0_tape a0_pile a0_rows a0_told a0_values a0_truth a0_keeps v0_49) H := by rw [ev0_49]; exact hP
  have hD : va_D A (WS_X12_run cI cJ cZ cY a0 a0_a a0_image a0_texts a0_board a0_taken a0_fars a0_before a0_tape a0_pile a0_rows a0_told a0_values a0_truth a0_keeps v0_49) := by rw [ev0_49]; exact hD
  have hg := g_lte hg v0_49 ev0_49
  refine lv_aload_n hx hb dX12_run_10 rfl (lv_at hl 0 rfl) ?_
  refine lv_iload_n hx hb dX12_run_11 rfl (lv_at hl 3 rfl) ?_
  refine va_put (ci := 11) (v := .int p2) (ty := .int) (C := RX12) (T := TX12) (N := 43) hx hb htb uX12 tyX12 tyX12_ok nmX12 hown hK.1 hP hD hS 0 rfl rfl 31 (by decide) (htb _ tg_967) (fun _ h9 => h9) rfl (by decide +kernel) rfl rfl (Nat.le_of_ble_eq_true rfl) dX12_run_12 (fun H locs hP hD hS => ?_)
  obtain ⟨v0_50, ev0_50⟩ : ∃ z, z = sX12_atY v0_49 p2 := ⟨_, rfl⟩
  have hP : va_P D vwCl (WS_X12_run cI cJ cZ cY a0 a0_a a0_image a0_texts a0_board a0_taken a0_fars a0_before a0_tape a0_pile a0_rows a0_told a0_values a0_truth a0_keeps v0_50) H := by rw [ev0_50]; exact hP
  have hD : va_D A (WS_X12_run cI cJ cZ cY a0 a0_a a0_image a0_texts a0_board a0_taken a0_fars a0_before a0_tape a0_pile a0_rows a0_told a0_values a0_truth a0_keeps v0_50) := by rw [ev0_50]; exact hD
  have hg := g_lte hg v0_50 ev0_50
  refine lv_aload_n hx hb dX12_run_15 rfl (lv_at hl 0 rfl) ?_
  refine lv_iload hx hb dX12_run_16 (lv_at hl 4 rfl) ?_
  refine va_put (ci := 11) (v := .int p3) (ty := .int) (C := RX12) (T := TX12) (N := 43) hx hb htb uX12 tyX12 tyX12_ok nmX12 hown hK.1 hP hD hS 0 rfl rfl 32 (by decide) (htb _ tg_968) (fun _ h9 => h9) rfl (by decide +kernel) rfl rfl (Nat.le_of_ble_eq_true rfl) dX12_run_18 (fun H locs hP hD hS => ?_)
  obtain ⟨v0_51, ev0_51⟩ : ∃ z, z = sX12_heading v0_50 p3 := ⟨_, rfl⟩
  have hP : va_P D vwCl (WS_X12_run cI cJ cZ cY a0 a0_a a0_image a0_texts a0_board a0_taken a0_fars a0_before a0_tape a0_pile a0_rows a0_told a0_values a0_truth a0_keeps v0_51) H := by rw [ev0_51]; exact hP
  have hD : va_D A (WS_X12_run cI cJ cZ cY a0 a0_a a0_image a0_texts a0_board a0_taken a0_fars a0_before a0_tape a0_pile a0_rows a0_told a0_values a0_truth a0_keeps v0_51) := by rw [ev0_51]; exact hD
  have hg := g_lte hg v0_51 ev0_51
  refine lv_aload_n hx hb dX12_run_21 rfl (lv_at hl 0 rfl) ?_
  refine lv_iconst (v := 0) hx hb dX12_run_22 (by decide) ?_
  refine va_put (ci := 11) (v := .int 0) (ty := .boolean) (C := RX12) (T := TX12) (N := 43) hx hb htb uX12 tyX12 tyX12_ok nmX12 hown hK.1 hP hD hS 0 rfl rfl 33 (by decide) (htb _ tg_969) (fun _ h9 => h9) rfl (by decide +kernel) rfl rfl (Nat.le_of_ble_eq_true rfl) dX12_run_23 (fun H locs hP hD hS => ?_)
  obtain ⟨v0_52, ev0_52⟩ : ∃ z, z = sX12_hit v0_51 0 := ⟨_, rfl⟩
  have hP : va_P D vwCl (WS_X12_run cI cJ cZ cY a0 a0_a a0_image a0_texts a0_board a0_taken a0_fars a0_before a0_tape a0_pile a0_rows a0_told a0_values a0_truth a0_keeps v0_52) H := by rw [ev0_52]; exact hP
  have hD : va_D A (WS_X12_run cI cJ cZ cY a0 a0_a a0_image a0_texts a0_board a0_taken a0_fars a0_before a0_tape a0_pile a0_rows a0_told a0_values a0_truth a0_keeps v0_52) := by rw [ev0_52]; exact hD
  have hg := g_lte hg v0_52 ev0_52
  refine lv_aload_n hx hb dX12_run_26 rfl (lv_at hl 0 rfl) ?_
  refine lv_iconst (v := 0) hx hb dX12_run_27 (by decide) ?_
  refine va_put (ci := 11) (v := .int 0) (ty := .boolean) (C := RX12) (T := TX12) (N := 43) hx hb htb uX12 tyX12 tyX12_ok nmX12 hown hK.1 hP hD hS 0 rfl rfl 34 (by decide) (htb _ tg_970) (fun _ h9 => h9) rfl (by decide +kernel) rfl rfl (Nat.le_of_ble_eq_true rfl) dX12_run_28 (fun H locs hP hD hS => ?_)
  obtain ⟨v0_53, ev0_53⟩ : ∃ z, z = sX12_rested v0_52 0 := ⟨_, rfl⟩
  have hP : va_P D vwCl (WS_X12_run cI cJ cZ cY a0 a0_a a0_image a0_texts a0_board a0_taken a0_fars a0_before a0_tape a0_pile a0_rows a0_told a0_values a0_truth a0_keeps v0_53) H := by rw [ev0_53]; exact hP
  have hD : va_D A (WS_X12_run cI cJ cZ cY a0 a0_a a0_image a0_texts a0_board a0_taken a0_fars a0_before a0_tape a0_pile a0_rows a0_told a0_values a0_truth a0_keeps v0_53) := by rw [ev0_53]; exact hD
  have hg := g_lte hg v0_53 ev0_53
  refine lv_aload_n hx hb dX12_run_31 rfl (lv_at hl 0 rfl) ?_
  refine lv_iconst (v := 0) hx hb dX12_run_32 (by decide) ?_
  refine va_put (ci := 11) (v := .int 0) (ty := .int) (C := RX12) (T := TX12) (N := 43) hx hb htb uX12 tyX12 tyX12_ok nmX12 hown hK.1 hP hD hS 0 rfl rfl 28 (by decide) (htb _ tg_964) (fun _ h9 => h9) rfl (by decide +kernel) rfl rfl (Nat.le_of_ble_eq_true rfl) dX12_run_33 (fun H locs hP hD hS => ?_)
  obtain ⟨v0_54, ev0_54⟩ : ∃ z, z = sX12_over v0_53 0 := ⟨_, rfl⟩
  have hP : va_P D vwCl (WS_X12_run cI cJ cZ cY a0 a0_a a0_image a0_texts a0_board a0_taken a0_fars a0_before a0_tape a0_pile a0_rows a0_told a0_values a0_truth a0_keeps v0_54) H := by rw [ev0_54]; exact hP
  have hD : va_D A (WS_X12_run cI cJ cZ cY a0 a0_a a0_image a0_texts a0_board a0_taken a0_fars a0_before a0_tape a0_pile a0_rows a0_told a0_values a0_truth a0_keeps v0_54) := by rw [ev0_54]; exact hD
  have hg := g_lte hg v0_54 ev0_54
  exact b_36 fU p0 p4 v0_54 H locs ls hP hD hS (lv_sub hl [0, 1, 5] rfl) hg

/-! ManyEyesModel.isRule(I)Z -/
def WS_X12_isRule (cI cJ cZ cY : ClassId) (a0 a0_a a0_image a0_texts a0_board a0_taken a0_fars a0_before a0_tape a0_pile a0_rows a0_told a0_values a0_truth a0_keeps : Nat) (v0 : BX12) : va_W := (GX12 cI cJ cZ cY a0 a0_a a0_image a0_texts a0_board a0_taken a0_fars a0_before a0_tape a0_pile a0_rows a0_told a0_values a0_truth a0_keeps v0)
def f_X12_isRule (v0 : BX12) (p0 : Int32) : Option (Int32) := g_gd (inB 3 3170) ((f_X12_isIn p0 0 (((pX12_a v0) (3 : Int32).toNatClampNeg) - 1)).bind (fun r_2 => g_gd (r_2 = 0 ∨ r_2 = 1) (some r_2)))
abbrev rm_X12_isRule : Room := { frames := 1, cells := 0, slots := 0, locals := 22 }
set_option maxHeartbeats 4000000 in
set_option maxRecDepth 100000 in
theorem k_X12_isRule {l : Launch} {D : va_G} {cI cJ cZ cY : ClassId} {tX tY : Nat} {sz : Nat} (a0 a0_a a0_image a0_texts a0_board a0_taken a0_fars a0_before a0_tape a0_pile a0_rows a0_told a0_values a0_truth a0_keeps : Nat) (v0 : BX12) (p0 : Int32) (res : Int32) (hg : f_X12_isRule v0 p0 = some res) : Met l yX12_isRule (Cond.code yX12_isRule cX12_isRule 2 (some .boolean) :: TB) rm_X12_isRule (PC D cI cJ cZ cY tX tY [.ref a0, .int p0] (WS_X12_isRule cI cJ cZ cY a0 a0_a a0_image a0_texts a0_board a0_taken a0_fars a0_before a0_tape a0_pile a0_rows a0_told a0_values a0_truth a0_keeps v0) sz) (va_Qi (fun (r : Int32) (_ : Unit) => r = res) (BC D (fun _ : Unit => WS_X12_isRule cI cJ cZ cY a0 a0_a a0_image a0_texts a0_board a0_taken a0_fars a0_before a0_tape a0_pile a0_rows a0_told a0_values a0_truth a0_keeps v0) (va_A (WS_X12_isRule cI cJ cZ cY a0 a0_a a0_image a0_texts a0_board a0_taken a0_fars a0_before a0_tape a0_pile a0_rows a0_told a0_values a0_truth a0_keeps v0) sz)) (va_A (WS_X12_isRule cI cJ cZ cY a0 a0_a a0_image a0_texts a0_board a0_taken a0_fars a0_before a0_tape a0_pile a0_rows a0_told a0_values a0_truth a0_keeps v0) sz)) 0 0 (va_A (WS_X12_isRule cI cJ cZ cY a0 a0_a a0_image a0_texts a0_board a0_taken a0_fars a0_before a0_tape a0_pile a0_rows a0_told a0_values a0_truth a0_keeps v0) sz) := by
  refine Met.ofW (cc := cX12_isRule) (maxL := 2) (ret := (some .boolean)) (by decide) rfl ?_
  intro p e s m args below meth c s₁ B hml hv
  obtain ⟨hargs, hsz, hP, hK, hD0, hT⟩ := hv
  have hx := B.exec
  have hb := B.bytes
  have hr := B.returns
  have htb : ∀ w ∈ TB, w.before args s = true := fun w h => atoms_spec (ws := Cond.code yX12_isRule cX12_isRule 2 (some .boolean) :: TB) B.pre w (List.mem_cons_of_mem _ h)
  have hown : s.vm.findClass "ManyEyesModel" = some m.cls := findClass_of_methodNamed B.named
  have hlocks := B.notSynchronized
  subst hsz
  have hD := hD0.self (sz := s.heap.size)
  generalize hAe : va_A (WS_X12_isRule cI cJ cZ cY a0 a0_a a0_image a0_texts a0_board a0_taken a0_fars a0_before a0_tape a0_pile a0_rows a0_told a0_values a0_truth a0_keeps v0) s.heap.size = A at hD hT ⊢
  have hA : ∀ q : Nat, s.heap.size ≤ q → A q := fun q h => by rw [← hAe]; exact Or.inr h
  have hS : va_S A s.heap s.heap [] := va_S.rf
  have hl := lv_entry ([.ref a0, .int p0]) (n := 2) (Nat.le_of_ble_eq_true rfl)
  have he : entryFrame m args 2 = F0 m 0 (lg_sl ([.ref a0, .int p0]) ++ List.replicate (2 - (lg_sl ([.ref a0, .int p0])).length) Slot.unset).toArray [] := by rw [hargs, lg_entry_eq]
  rw [he]
  generalize (lg_sl ([.ref a0, .int p0]) ++ List.replicate (2 - (lg_sl ([.ref a0, .int p0])).length) Slot.unset).toArray = ls at hl ⊢
  have hl : lv_has ls 2 [(0, .ref a0), (1, .int p0)] := hl
  show W p l e rm_X12_isRule s m args below meth c s.heap [] 0 0 _ _
  refine W.genQ (fun Q hQ => ?_)
  generalize hHe : s.heap = H at hP ⊢
  have hS : va_S A s.heap H [] := by rw [← hHe]; exact va_S.rf
  generalize ([] : List Loc) = locs at hS ⊢
  unfold f_X12_isRule at hg
  refine lv_iload_n hx hb dX12_isRule_0 rfl (lv_at hl 1 rfl) ?_
  refine lv_iconst (v := 0) hx hb dX12_isRule_1 (by decide) ?_
  refine lv_aload_n hx hb dX12_isRule_2 rfl (lv_at hl 0 rfl) ?_
  refine va_get (ci := 11) (v := .ref a0_a) (C := RX12) (T := TX12) (N := 43) hx hb htb uX12 hown hK.1 hP 0 rfl rfl 2 (by decide) (htb _ tg_938) (fun _ h9 => h9) rfl dX12_isRule_3 ?_
  refine lv_iconst (v := 3) hx hb dX12_isRule_6 (by decide) ?_
  obtain ⟨h_1, hg⟩ := g_gde hg
  refine va_iald hx hb hK.1 hP 1 0 rfl rfl (inB_vp h_1) dX12_isRule_7 ?_
  refine lv_iconst (v := 1) hx hb dX12_isRule_8 (by decide) ?_
  refine lv_isub hx hb dX12_isRule_9 ?_
  obtain ⟨r_2, hr_2, hg⟩ := g_bd hg
  refine cc_i (va_runS (As := [.int p0, .int 0, .int (((pX12_a v0) (3 : Int32).toNatClampNeg) - 1)]) (rest := []) ⟨hx, hb, hml, hown, htb⟩ (k_X12_isIn p0 0 (((pX12_a v0) (3 : Int32).toNatClampNeg) - 1) r_2 hr_2) (cw_S 3 htb tg_1078 tg_13 tg_1076 tg_1077 rfl rfl (by decide +kernel) ⟨Nat.le_of_ble_eq_true rfl, Nat.le_of_ble_eq_true rfl⟩) ⟨PC.blind, PC.pre hK hT hP hD hS hA [] rfl (by decide)⟩ rfl rfl hl.1 rfl (lv_room (Nat.le_of_ble_eq_true rfl)) dX12_isRule_10 ⟨Nat.le_of_ble_eq_true rfl, Nat.le_of_ble_eq_true rfl⟩) hP hD hS hA [] [0, 1, 2, 3, 4, 5, 6, 7, 8, 9, 10, 11, 12, 13, 14] rfl rfl (by decide) (by decide) (fun r9 u9 H locs hw hP hD hS => ?_)
  have hw := hw.symm
  subst hw
  have hP : va_P D vwCl (WS_X12_isRule cI cJ cZ cY a0 a0_a a0_image a0_texts a0_board a0_taken a0_fars a0_before a0_tape a0_pile a0_rows a0_told a0_values a0_truth a0_keeps v0) H := hP.sub [0, 1, 2, 3, 4, 5, 6, 7, 8, 9, 10, 11, 12, 13, 14] rfl
  have hD : va_D A (WS_X12_isRule cI cJ cZ cY a0 a0_a a0_image a0_texts a0_board a0_taken a0_fars a0_before a0_tape a0_pile a0_rows a0_told a0_values a0_truth a0_keeps v0) := hD.sub [0, 1, 2, 3, 4, 5, 6, 7, 8, 9, 10, 11, 12, 13, 14] (by decide) rfl
  obtain ⟨h_3, hg⟩ := g_gde hg
  have hg := Option.some.inj hg
  rw [hQ]
  exact W.zret (v := r_2) (ty := .boolean) hx hb hr (bool_nar h_3) (fun t ht hW => ⟨⟨r_2, (), rfl, hg, by rw [ht]; exact hP, hD⟩, hS.F ht⟩) hS.2.2 dX12_isRule_13

/-! ManyEyesModel.fly(IIIIII)I -/
def WS_X12_fly (cI cJ cZ cY : ClassId) (a0 a0_a a0_image a0_texts a0_board a0_taken a0_fars a0_before a0_tape a0_pile a0_rows a0_told a0_values a0_truth a0_keeps : Nat) (v0 : BX12) : va_W := (GX12 cI cJ cZ cY a0 a0_a a0_image a0_texts a0_board a0_taken a0_fars a0_before a0_tape a0_pile a0_rows a0_told a0_values a0_truth a0_keeps v0)
def f_X12_fly_b219B (J219 : Int32 × BX12 → Option (Int32 × BX12)) (x7 : Int32) (v0 : BX12) : Option (Int32 × BX12) := if (((38 : Int32) * (pX12_ticks v0)) : Int32) ≤ x7 then (some ((pX12_ticks v0), v0)) else (g_gd (inB x7 2280) (g_lt (((pX12_rows v0) (x7 : Int32).toNatClampNeg) : Int32) (fun x_3 => g_gd (inB ((890 : Int32) + x7) 3170) (g_lt (sX12_a v0 (upd (pX12_a v0) (((890 : Int32) + x7) : Int32).toNatClampNeg x_3)) (fun v0_5 => g_lt (x7 + 1 : Int32) (fun x7_6 => J219 (x7_6, v0_5)))))))
def f_X12_fly_b219 : Nat → (Int32 × BX12) → Option (Int32 × BX12) := g_lp (fun J z => f_X12_fly_b219B J z.1 z.2)
def f_X12_fly_b175 (t1 : Int32) (t2 : Int32) (v0 : BX12) : Option (Int32 × BX12) := g_gd (inB t1 3170) (g_lt (sX12_a v0 (upd (pX12_a v0) (t1 : Int32).toNatClampNeg t2)) (fun v0_8 => g_lt ((pX12_over v0_8) : Int32) (fun x_9 => g_gd (inB 886 3170) (g_lt (sX12_a v0_8 (upd (pX12_a v0_8) (886 : Int32).toNatClampNeg x_9)) (fun v0_11 => g_gd (inB 1 3170) (g_lt (((pX12_a v0_11) (1 : Int32).toNatClampNeg) : Int32) (fun x_13 => g_gd (inB 887 3170) (g_lt (sX12_a v0_11 (upd (pX12_a v0_11) (887 : Int32).toNatClampNeg x_13)) (fun v0_15 => g_gd (inB 2 3170) (g_lt (((pX12_a v0_15) (2 : Int32).toNatClampNeg) : Int32) (fun x_17 => g_gd (inB 888 3170) (g_lt (sX12_a v0_15 (upd (pX12_a v0_15) (888 : Int32).toNatClampNeg x_17)) (fun v0_19 => f_X12_fly_b219 fU (0, v0_19))))))))))))))
def f_X12_fly_b155 (t1 : Int32) (t2 : Int32) (v0 : BX12) : Option (Int32 × BX12) := g_gd (inB t1 3170) (g_lt (sX12_a v0 (upd (pX12_a v0) (t1 : Int32).toNatClampNeg t2)) (fun v0_21 => if ((pX12_rested v0_21) : Int32) = 0 then (f_X12_fly_b175 885 0 v0_21) else (f_X12_fly_b175 885 1 v0_21)))
def f_X12_fly_b74 (x1 : Int32) (x2 : Int32) (x3 : Int32) (x4 : Int32) (x5 : Int32) (t1 : Int64) (v0 : BX12) : Option (Int32 × BX12) := g_lt (sX12_bound v0 t1) (fun v0_23 => (f_X12_run v0_23 x1 x2 x3 x4 x5).bind (fun r_24 => g_lt ((pX12_ticks r_24) : Int32) (fun x_25 => g_gd (inB 880 3170) (g_lt (sX12_a r_24 (upd (pX12_a r_24) (880 : Int32).toNatClampNeg x_25)) (fun v0_27 => g_lt ((pX12_atX v0_27) : Int32) (fun x_28 => g_gd (inB 881 3170) (g_lt (sX12_a v0_27 (upd (pX12_a v0_27) (881 : Int32).toNatClampNeg x_28)) (fun v0_30 => g_lt ((pX12_atY v0_30) : Int32) (fun x_31 => g_gd (inB 882 3170) (g_lt (sX12_a v0_30 (upd (pX12_a v0_30) (882 : Int32).toNatClampNeg x_31)) (fun v0_33 => g_lt ((pX12_heading v0_33) : Int32) (fun x_34 => g_gd (inB 883 3170) (g_lt (sX12_a v0_33 (upd (pX12_a v0_33) (883 : Int32).toNatClampNeg x_34)) (fun v0_36 => if ((pX12_hit v0_36) : Int32) = 0 then (f_X12_fly_b155 884 0 v0_36) else (f_X12_fly_b155 884 1 v0_36)))))))))))))))
def f_X12_fly_b54 (x1 : Int32) (x2 : Int32) (x3 : Int32) (x4 : Int32) (x5 : Int32) (x6 : Int32) (v0 : BX12) : Option (Int32 × BX12) := if (x6 : Int32) = 0 then (f_X12_fly_b74 x1 x2 x3 x4 x5 1000000 v0) else (f_X12_fly_b74 x1 x2 x3 x4 x5 (((1 : Int64) <<< (((x6 - 1) : Int32).toInt64 &&& 63)) - 1) v0)
def f_X12_fly (v0 : BX12) (p0 : Int32) (p1 : Int32) (p2 : Int32) (p3 : Int32) (p4 : Int32) (p5 : Int32) : Option (Int32 × BX12) := (f_X12_isRule v0 p0).bind (fun r_39 => if (r_39 : Int32) = 0 then (some ((-1), v0)) else ((f_X12_isStart v0 p1 p2).bind (fun r_41 => if (r_41 : Int32) = 0 then (some ((-1), v0)) else ((f_X12_isSide p3).bind (fun r_43 => if (r_43 : Int32) = 0 then (some ((-1), v0)) else ((f_X12_isIn p4 1 60).bind (fun r_45 => if (r_45 : Int32) = 0 then (some ((-1), v0)) else (if (p5 : Int32) = 0 then (f_X12_fly_b54 p0 p1 p2 p3 p4 p5 v0) else ((f_X12_isIn p5 4 20).bind (fun r_48 => if (r_48 : Int32) = 0 then (some ((-1), v0)) else (f_X12_fly_b54 p0 p1 p2 p3 p4 p5 v0)))))))))))
abbrev rm_X12_fly : Room := { frames := 6, cells := 0, slots := 0, locals := 142 }
set_option maxHeartbeats 4000000 in
set_option maxRecDepth 100000 in
theorem k_X12_fly {l : Launch} {D : va_G} {cI cJ cZ cY : ClassId} {tX tY : Nat} {sz : Nat} (a0 a0_a a0_image a0_texts a0_board a0_taken a0_fars a0_before a0_tape a0_pile a0_rows a0_told a0_values a0_truth a0_keeps : Nat) (v0 : BX12) (p0 : Int32) (p1 : Int32) (p2 : Int32) (p3 : Int32) (p4 : Int32) (p5 : Int32) (res : Int32 × BX12) (hg : f_X12_fly v0 p0 p1 p2 p3 p4 p5 = some res) : Met l yX12_fly (Cond.code yX12_fly cX12_fly 8 (some .int) :: TB) rm_X12_fly (PC D cI cJ cZ cY tX tY [.ref a0, .int p0, .int p1, .int p2, .int p3, .int p4, .int p5] (WS_X12_fly cI cJ cZ cY a0 a0_a a0_image a0_texts a0_board a0_taken a0_fars a0_before a0_tape a0_pile a0_rows a0_told a0_values a0_truth a0_keeps v0) sz) (va_Qi (fun (r : Int32) (u : BX12) => r = res.1 ∧ u = res.2) (BC D (fun u : BX12 => WS_X12_fly cI cJ cZ cY a0 a0_a a0_image a0_texts a0_board a0_taken a0_fars a0_before a0_tape a0_pile a0_rows a0_told a0_values a0_truth a0_keeps u) (va_A (WS_X12_fly cI cJ cZ cY a0 a0_a a0_image a0_texts a0_board a0_taken a0_fars a0_before a0_tape a0_pile a0_rows a0_told a0_values a0_truth a0_keeps v0) sz)) (va_A (WS_X12_fly cI cJ cZ cY a0 a0_a a0_image a0_texts a0_board a0_taken a0_fars a0_before a0_tape a0_pile a0_rows a0_told a0_values a0_truth a0_keeps v0) sz)) 0 0 (va_A (WS_X12_fly cI cJ cZ cY a0 a0_a a0_image a0_texts a0_board a0_taken a0_fars a0_before a0_tape a0_pile a0_rows a0_told a0_values a0_truth a0_keeps v0) sz) := by
  refine Met.ofW (cc := cX12_fly) (maxL := 8) (ret := (some .int)) (by decide) rfl ?_
  intro p e s m args below meth c s₁ B hml hv
  obtain ⟨hargs, hsz, hP, hK, hD0, hT⟩ := hv
  have hx := B.exec
  have hb := B.bytes
  have hr := B.returns
  have htb : ∀ w ∈ TB, w.before args s = true := fun w h => atoms_spec (ws := Cond.code yX12_fly cX12_fly 8 (some .int) :: TB) B.pre w (List.mem_cons_of_mem _ h)
  have hown : s.vm.findClass "ManyEyesModel" = some m.cls := findClass_of_methodNamed B.named
  have hlocks := B.notSynchronized
  subst hsz
  have hD := hD0.self (sz := s.heap.size)
  generalize hAe : va_A (WS_X12_fly cI cJ cZ cY a0 a0_a a0_image a0_texts a0_board a0_taken a0_fars a0_before a0_tape a0_pile a0_rows a0_told a0_values a0_truth a0_keeps v0) s.heap.size = A at hD hT ⊢
  have hA : ∀ q : Nat, s.heap.size ≤ q → A q := fun q h => by rw [← hAe]; exact Or.inr h
  have hS : va_S A s.heap s.heap [] := va_S.rf
  have hl := lv_entry ([.ref a0, .int p0, .int p1, .int p2, .int p3, .int p4, .int p5]) (n := 8) (Nat.le_of_ble_eq_true rfl)
  have he : entryFrame m args 8 = F0 m 0 (lg_sl ([.ref a0, .int p0, .int p1, .int p2, .int p3, .int p4, .int p5]) ++ List.replicate (8 - (lg_sl ([.ref a0, .int p0, .int p1, .int p2, .int p3, .int p4, .int p5])).length) Slot.unset).toArray [] := by rw [hargs, lg_entry_eq]
  rw [he]
  generalize (lg_sl ([.ref a0, .int p0, .int p1, .int p2, .int p3, .int p4, .int p5]) ++ List.replicate (8 - (lg_sl ([.ref a0, .int p0, .int p1, .int p2, .int p3, .int p4, .int p5])).length) Slot.unset).toArray = ls at hl ⊢
  have hl : lv_has ls 8 [(0, .ref a0), (1, .int p0), (2, .int p1), (3, .int p2), (4, .int p3), (5, .int p4), (6, .int p5)] := hl
  show W p l e rm_X12_fly s m args below meth c s.heap [] 0 0 _ _
  refine W.genQ (fun Q hQ => ?_)
  have b_219 : ∀ (n : Nat), ∀ (x7 : Int32) (v0 : BX12) (H : Heap) (locs : List Loc) (ls : Array Slot), va_P D vwCl (WS_X12_fly cI cJ cZ cY a0 a0_a a0_image a0_texts a0_board a0_taken a0_fars a0_before a0_tape a0_pile a0_rows a0_told a0_values a0_truth a0_keeps v0) H → va_D A (WS_X12_fly cI cJ cZ cY a0 a0_a a0_image a0_texts a0_board a0_taken a0_fars a0_before a0_tape a0_pile a0_rows a0_told a0_values a0_truth a0_keeps v0) → va_S A s.heap H locs → lv_has ls 8 [(0, .ref a0), (7, .int x7)] → f_X12_fly_b219 n (x7, v0) = some res → W p l e rm_X12_fly s m args below meth c H locs 0 0 Q (F0 m 219 ls []) := by
    intro n
    induction n with
    | zero =>
      intro x7 v0 H locs ls hP hD hS hl hg
      exact (g_lp0 hg).elim
    | succ n ih =>
      intro x7 v0 H locs ls hP hD hS hl hg
      have hg : f_X12_fly_b219B (f_X12_fly_b219 n) x7 v0 = some res := hg
      unfold f_X12_fly_b219B at hg
      refine lv_iload hx hb dX12_fly_219 (lv_at hl 1 rfl) ?_
      refine lv_bipush (v := 38) hx hb dX12_fly_221 (by decide) ?_
      refine lv_aload_n hx hb dX12_fly_223 rfl (lv_at hl 0 rfl) ?_
      refine va_get (ci := 11) (v := .int (pX12_ticks v0)) (C := RX12) (T := TX12) (N := 43) hx hb htb uX12 hown hK.1 hP 0 rfl rfl 29 (by decide) (htb _ tg_965) (fun _ h9 => h9) rfl dX12_fly_224 ?_
      refine lv_imul hx hb dX12_fly_227 ?_
      refine lv_icmp_ge (tgt := 255) hx hb dX12_fly_228 (by decide) (fun c_1 => ?_) (fun c_1 => ?_)
      · have hg := g_it hg c_1
        refine lv_aload_n hx hb dX12_fly_255 rfl (lv_at hl 0 rfl) ?_
        refine va_get (ci := 11) (v := .int (pX12_ticks v0)) (C := RX12) (T := TX12) (N := 43) hx hb htb uX12 hown hK.1 hP 0 rfl rfl 29 (by decide) (htb _ tg_965) (fun _ h9 => h9) rfl dX12_fly_256 ?_
        have hg := Option.some.inj hg
        rw [hQ]
        exact W.iret (v := (pX12_ticks v0)) hx hb hr (fun t ht hW => ⟨⟨(pX12_ticks v0), (v0), rfl, ⟨by rw [← hg], by rw [← hg]⟩, by rw [ht]; exact hP, hD⟩, hS.F ht⟩) hS.2.2 dX12_fly_259
      · have hg := g_if hg c_1
        refine lv_aload_n hx hb dX12_fly_231 rfl (lv_at hl 0 rfl) ?_
        refine va_get (ci := 11) (v := .ref a0_a) (C := RX12) (T := TX12) (N := 43) hx hb htb uX12 hown hK.1 hP 0 rfl rfl 2 (by decide) (htb _ tg_938) (fun _ h9 => h9) rfl dX12_fly_232 ?_
        refine lv_sipush (v := 890) hx hb dX12_fly_235 (by decide) ?_
        refine lv_iload hx hb dX12_fly_238 (lv_at hl 1 rfl) ?_
        refine lv_iadd hx hb dX12_fly_240 ?_
        refine lv_aload_n hx hb dX12_fly_241 rfl (lv_at hl 0 rfl) ?_
        refine va_get (ci := 11) (v := .ref a0_rows) (C := RX12) (T := TX12) (N := 43) hx hb htb uX12 hown hK.1 hP 0 rfl rfl 35 (by decide) (htb _ tg_971) (fun _ h9 => h9) rfl dX12_fly_242 ?_
        refine lv_iload hx hb dX12_fly_245 (lv_at hl 1 rfl) ?_
        obtain ⟨h_2, hg⟩ := g_gde hg
        refine va_iald hx hb hK.1 hP 10 0 rfl rfl (inB_vp h_2) dX12_fly_247 ?_
        refine lv_topi (fun x_3 ex_3 => ?_)
        have hg := g_lte hg x_3 ex_3
        obtain ⟨h_4, hg⟩ := g_gde hg
        refine va_iast hx hb hK.1 hP hD hS 1 0 rfl rfl (inB_vp h_4) dX12_fly_248 (fun H locs hP hD hS => ?_)
        obtain ⟨v0_5, ev0_5⟩ : ∃ z, z = sX12_a v0 (upd (pX12_a v0) (((890 : Int32) + x7) : Int32).toNatClampNeg x_3) := ⟨_, rfl⟩
        have hP : va_P D vwCl (WS_X12_fly cI cJ cZ cY a0 a0_a a0_image a0_texts a0_board a0_taken a0_fars a0_before a0_tape a0_pile a0_rows a0_told a0_values a0_truth a0_keeps v0_5) H := by rw [ev0_5]; exact hP
        have hD : va_D A (WS_X12_fly cI cJ cZ cY a0 a0_a a0_image a0_texts a0_board a0_taken a0_fars a0_before a0_tape a0_pile a0_rows a0_told a0_values a0_truth a0_keeps v0_5) := by rw [ev0_5]; exact hD
        have hg := g_lte hg v0_5 ev0_5
        obtain ⟨x7_6, ex7_6⟩ : ∃ z : Int32, z = x7 + 1 := ⟨_, rfl⟩
        have hg := g_lte hg x7_6 ex7_6
        refine lv_iinc (v := x7_6) (lv' := [(7, .int x7_6), (0, .ref a0)]) hx hb dX12_fly_249 hl (k := 1) rfl (by rw [ex7_6]; rfl) (by decide) rfl (fun ls hl => ?_)
        refine lv_goto (tgt := 219) hx hb dX12_fly_252 (by decide) ?_
        exact ih x7_6 v0_5 H locs ls hP hD hS (lv_sub hl [1, 0] rfl) hg
  have b_175 : ∀ (t1 : Int32) (t2 : Int32) (v0 : BX12) (H : Heap) (locs : List Loc) (ls : Array Slot), va_P D vwCl (WS_X12_fly cI cJ cZ cY a0 a0_a a0_image a0_texts a0_board a0_taken a0_fars a0_before a0_tape a0_pile a0_rows a0_told a0_values a0_truth a0_keeps v0) H → va_D A (WS_X12_fly cI cJ cZ cY a0 a0_a a0_image a0_texts a0_board a0_taken a0_fars a0_before a0_tape a0_pile a0_rows a0_told a0_values a0_truth a0_keeps v0) → va_S A s.heap H locs → lv_has ls 8 [(0, .ref a0)] → f_X12_fly_b175 t1 t2 v0 = some res → W p l e rm_X12_fly s m args below meth c H locs 0 0 Q (F0 m 175 ls [.int t2, .int t1, .ref a0_a]) := by
    intro t1 t2 v0 H locs ls hP hD hS hl hg
    unfold f_X12_fly_b175 at hg
    obtain ⟨h_7, hg⟩ := g_gde hg
    refine va_iast hx hb hK.1 hP hD hS 1 0 rfl rfl (inB_vp h_7) dX12_fly_175 (fun H locs hP hD hS => ?_)
    obtain ⟨v0_8, ev0_8⟩ : ∃ z, z = sX12_a v0 (upd (pX12_a v0) (t1 : Int32).toNatClampNeg t2) := ⟨_, rfl⟩
    have hP : va_P D vwCl (WS_X12_fly cI cJ cZ cY a0 a0_a a0_image a0_texts a0_board a0_taken a0_fars a0_before a0_tape a0_pile a0_rows a0_told a0_values a0_truth a0_keeps v0_8) H := by rw [ev0_8]; exact hP
    have hD : va_D A (WS_X12_fly cI cJ cZ cY a0 a0_a a0_image a0_texts a0_board a0_taken a0_fars a0_before a0_tape a0_pile a0_rows a0_told a0_values a0_truth a0_keeps v0_8) := by rw [ev0_8]; exact hD
    have hg := g_lte hg v0_8 ev0_8
    refine lv_aload_n hx hb dX12_fly_176 rfl (lv_at hl 0 rfl) ?_
    refine va_get (ci := 11) (v := .ref a0_a) (C := RX12) (T := TX12) (N := 43) hx hb htb uX12 hown hK.1 hP 0 rfl rfl 2 (by decide) (htb _ tg_938) (fun _ h9 => h9) rfl dX12_fly_177 ?_
    refine lv_sipush (v := 886) hx hb dX12_fly_180 (by decide) ?_
    refine lv_aload_n hx hb dX12_fly_183 rfl (lv_at hl 0 rfl) ?_
    refine va_get (ci := 11) (v := .int (pX12_over v0_8)) (C := RX12) (T := TX12) (N := 43) hx hb htb uX12 hown hK.1 hP 0 rfl rfl 28 (by decide) (htb _ tg_964) (fun _ h9 => h9) rfl dX12_fly_184 ?_
    refine lv_topi (fun x_9 ex_9 => ?_)
    have hg := g_lte hg x_9 ex_9
    obtain ⟨h_10, hg⟩ := g_gde hg
    refine va_iast hx hb hK.1 hP hD hS 1 0 rfl rfl (inB_vp h_10) dX12_fly_187 (fun H locs hP hD hS => ?_)
    obtain ⟨v0_11, ev0_11⟩ : ∃ z, z = sX12_a v0_8 (upd (pX12_a v0_8) (886 : Int32).toNatClampNeg x_9) := ⟨_, rfl⟩
    have hP : va_P D vwCl (WS_X12_fly cI cJ cZ cY a0 a0_a a0_image a0_texts a0_board a0_taken a0_fars a0_before a0_tape a0_pile a0_rows a0_told a0_values a0_truth a0_keeps v0_11) H := by rw [ev0_11]; exact hP
    have hD : va_D A (WS_X12_fly cI cJ cZ cY a0 a0_a a0_image a0_texts a0_board a0_taken a0_fars a0_before a0_tape a0_pile a0_rows a0_told a0_values a0_truth a0_keeps v0_11) := by rw [ev0_11]; exact hD
    have hg := g_lte hg v0_11 ev0_11
    refine lv_aload_n hx hb dX12_fly_188 rfl (lv_at hl 0 rfl) ?_
    refine va_get (ci := 11) (v := .ref a0_a) (C := RX12) (T := TX12) (N := 43) hx hb htb uX12 hown hK.1 hP 0 rfl rfl 2 (by decide) (htb _ tg_938) (fun _ h9 => h9) rfl dX12_fly_189 ?_
    refine lv_sipush (v := 887) hx hb dX12_fly_192 (by decide) ?_
    refine lv_aload_n hx hb dX12_fly_195 rfl (lv_at hl 0 rfl) ?_
    refine va_get (ci := 11) (v := .ref a0_a) (C := RX12) (T := TX12) (N := 43) hx hb htb uX12 hown hK.1 hP 0 rfl rfl 2 (by decide) (htb _ tg_938) (fun _ h9 => h9) rfl dX12_fly_196 ?_
    refine lv_iconst (v := 1) hx hb dX12_fly_199 (by decide) ?_
    obtain ⟨h_12, hg⟩ := g_gde hg
    refine va_iald hx hb hK.1 hP 1 0 rfl rfl (inB_vp h_12) dX12_fly_200 ?_
    refine lv_topi (fun x_13 ex_13 => ?_)
    have hg := g_lte hg x_13 ex_13
    obtain ⟨h_14, hg⟩ := g_gde hg
    refine va_iast hx hb hK.1 hP hD hS 1 0 rfl rfl (inB_vp h_14) dX12_fly_201 (fun H locs hP hD hS => ?_)
    obtain ⟨v0_15, ev0_15⟩ : ∃ z, z = sX12_a v0_11 (upd (pX12_a v0_11) (887 : Int32).toNatClampNeg x_13) := ⟨_, rfl⟩
    have hP : va_P D vwCl (WS_X12_fly cI cJ cZ cY a0 a0_a a0_image a0_texts a0_board a0_taken a0_fars a0_before a0_tape a0_pile a0_rows a0_told a0_values a0_truth a0_keeps v0_15) H := by rw [ev0_15]; exact hP
    have hD : va_D A (WS_X12_fly cI cJ cZ cY a0 a0_a a0_image a0_texts a0_board a0_taken a0_fars a0_before a0_tape a0_pile a0_rows a0_told a0_values a0_truth a0_keeps v0_15) := by rw [ev0_15]; exact hD
    have hg := g_lte hg v0_15 ev0_15
    refine lv_aload_n hx hb dX12_fly_202 rfl (lv_at hl 0 rfl) ?_
    refine va_get (ci := 11) (v := .ref a0_a) (C := RX12) (T := TX12) (N := 43) hx hb htb uX12 hown hK.1 hP 0 rfl rfl 2 (by decide) (htb _ tg_938) (fun _ h9 => h9) rfl dX12_fly_203 ?_
    refine lv_sipush (v := 888) hx hb dX12_fly_206 (by decide) ?_
    refine lv_aload_n hx hb dX12_fly_209 rfl (lv_at hl 0 rfl) ?_
    refine va_get (ci := 11) (v := .ref a0_a) (C := RX12) (T := TX12) (N := 43) hx hb htb uX12 hown hK.1 hP 0 rfl rfl 2 (by decide) (htb _ tg_938) (fun _ h9 => h9) rfl dX12_fly_210 ?_
    refine lv_iconst (v := 2) hx hb dX12_fly_213 (by decide) ?_
    obtain ⟨h_16, hg⟩ := g_gde hg
    refine va_iald hx hb hK.1 hP 1 0 rfl rfl (inB_vp h_16) dX12_fly_214 ?_
    refine lv_topi (fun x_17 ex_17 => ?_)
    have hg := g_lte hg x_17 ex_17
    obtain ⟨h_18, hg⟩ := g_gde hg
    refine va_iast hx hb hK.1 hP hD hS 1 0 rfl rfl (inB_vp h_18) dX12_fly_215 (fun H locs hP hD hS => ?_)
    obtain ⟨v0_19, ev0_19⟩ : ∃ z, z = sX12_a v0_15 (upd (pX12_a v0_15) (888 : Int32).toNatClampNeg x_17) := ⟨_, rfl⟩
    have hP : va_P D vwCl (WS_X12_fly cI cJ cZ cY a0 a0_a a0_image a0_texts a0_board a0_taken a0_fars a0_before a0_tape a0_pile a0_rows a0_told a0_values a0_truth a0_keeps v0_19) H := by rw [ev0_19]; exact hP
    have hD : va_D A (WS_X12_fly cI cJ cZ cY a0 a0_a a0_image a0_texts a0_board a0_taken a0_fars a0_before a0_tape a0_pile a0_rows a0_told a0_values a0_truth a0_keeps v0_19) := by rw [ev0_19]; exact hD
    have hg := g_lte hg v0_19 ev0_19
    refine lv_iconst (v := 0) hx hb dX12_fly_216 (by decide) ?_
    refine lv_istore (lv' := [(7, .int 0), (0, .ref a0)]) hx hb dX12_fly_217 hl (by decide) rfl (fun ls hl => ?_)
    exact b_219 fU 0 v0_19 H locs ls hP hD hS (lv_sub hl [1, 0] rfl) hg
  have b_155 : ∀ (t1 : Int32) (t2 : Int32) (v0 : BX12) (H : Heap) (locs : List Loc) (ls : Array Slot), va_P D vwCl (WS_X12_fly cI cJ cZ cY a0 a0_a a0_image a0_texts a0_board a0_taken a0_fars a0_before a0_tape a0_pile a0_rows a0_told a0_values a0_truth a0_keeps v0) H → va_D A (WS_X12_fly cI cJ cZ cY a0 a0_a a0_image a0_texts a0_board a0_taken a0_fars a0_before a0_tape a0_pile a0_rows a0_told a0_values a0_truth a0_keeps v0) → va_S A s.heap H locs → lv_has ls 8 [(0, .ref a0)] → f_X12_fly_b155 t1 t2 v0 = some res → W p l e rm_X12_fly s m args below meth c H locs 0 0 Q (F0 m 155 ls [.int t2, .int t1, .ref a0_a]) := by
    intro t1 t2 v0 H locs ls hP hD hS hl hg
    unfold f_X12_fly_b155 at hg
    obtain ⟨h_20, hg⟩ := g_gde hg
    refine va_iast hx hb hK.1 hP hD hS 1 0 rfl rfl (inB_vp h_20) dX12_fly_155 (fun H locs hP hD hS => ?_)
    obtain ⟨v0_21, ev0_21⟩ : ∃ z, z = sX12_a v0 (upd (pX12_a v0) (t1 : Int32).toNatClampNeg t2) := ⟨_, rfl⟩
    have hP : va_P D vwCl (WS_X12_fly cI cJ cZ cY a0 a0_a a0_image a0_texts a0_board a0_taken a0_fars a0_before a0_tape a0_pile a0_rows a0_told a0_values a0_truth a0_keeps v0_21) H := by rw [ev0_21]; exact hP
    have hD : va_D A (WS_X12_fly cI cJ cZ cY a0 a0_a a0_image a0_texts a0_board a0_taken a0_fars a0_before a0_tape a0_pile a0_rows a0_told a0_values a0_truth a0_keeps v0_21) := by rw [ev0_21]; exact hD
    have hg := g_lte hg v0_21 ev0_21
    refine lv_aload_n hx hb dX12_fly_156 rfl (lv_at hl 0 rfl) ?_
    refine va_get (ci := 11) (v := .ref a0_a) (C := RX12) (T := TX12) (N := 43) hx hb htb uX12 hown hK.1 hP 0 rfl rfl 2 (by decide) (htb _ tg_938) (fun _ h9 => h9) rfl dX12_fly_157 ?_
    refine lv_sipush (v := 885) hx hb dX12_fly_160 (by decide) ?_
    refine lv_aload_n hx hb dX12_fly_163 rfl (lv_at hl 0 rfl) ?_
    refine va_get (ci := 11) (v := .int (pX12_rested v0_21)) (C := RX12) (T := TX12) (N := 43) hx hb htb uX12 hown hK.1 hP 0 rfl rfl 34 (by decide) (htb _ tg_970) (fun _ h9 => h9) rfl dX12_fly_164 ?_
    refine lv_if_eq (tgt := 174) hx hb dX12_fly_167 (by decide) (fun c_22 => ?_) (fun c_22 => ?_)
    · have hg := g_it hg c_22
      refine lv_iconst (v := 0) hx hb dX12_fly_174 (by decide) ?_
      exact b_175 885 0 v0_21 H locs ls hP hD hS (lv_sub hl [0] rfl) hg
    · have hg := g_if hg c_22
      refine lv_iconst (v := 1) hx hb dX12_fly_170 (by decide) ?_
      refine lv_goto (tgt := 175) hx hb dX12_fly_171 (by decide) ?_
      exact b_175 885 1 v0_21 H locs ls hP hD hS (lv_sub hl [0] rfl) hg
  have b_74 : ∀ (x1 : Int32) (x2 : Int32) (x3 : Int32) (x4 : Int32) (x5 : Int32) (t1 : Int64) (v0 : BX12) (H : Heap) (locs : List Loc) (ls : Array Slot), va_P D vwCl (WS_X12_fly cI cJ cZ cY a0 a0_a a0_image a0_texts a0_board a0_taken a0_fars a0_before a0_tape a0_pile a0_rows a0_told a0_values a0_truth a0_keeps v0) H → va_D A (WS_X12_fly cI cJ cZ cY a0 a0_a a0_image a0_texts a0_board a0_taken a0_fars a0_before a0_tape a0_pile a0_rows a0_told a0_values a0_truth a0_keeps v0) → va_S A s.heap H locs → lv_has ls 8 [(0, .ref a0), (1, .int x1), (2, .int x2), (3, .int x3), (4, .int x4), (5, .int x5)] → f_X12_fly_b74 x1 x2 x3 x4 x5 t1 v0 = some res → W p l e rm_X12_fly s m args below meth c H locs 0 0 Q (F0 m 74 ls [.long t1, .ref a0]) := by
    intro x1 x2 x3 x4 x5 t1 v0 H locs ls hP hD hS hl hg
    unfold f_X12_fly_b74 at hg
    refine va_put (ci := 11) (v := .long t1) (ty := .long) (C := RX12) (T := TX12) (N := 43) hx hb htb uX12 tyX12 tyX12_ok nmX12 hown hK.1 hP hD hS 0 rfl rfl 27 (by decide) (htb _ tg_963) (fun _ h9 => h9) rfl (by decide +kernel) rfl rfl (Nat.le_of_ble_eq_true rfl) dX12_fly_74 (fun H locs hP hD hS => ?_)
    obtain ⟨v0_23, ev0_23⟩ : ∃ z, z = sX12_bound v0 t1 := ⟨_, rfl⟩
    have hP : va_P D vwCl (WS_X12_fly cI cJ cZ cY a0 a0_a a0_image a0_texts a0_board a0_taken a0_fars a0_before a0_tape a0_pile a0_rows a0_told a0_values a0_truth a0_keeps v0_23) H := by rw [ev0_23]; exact hP
    have hD : va_D A (WS_X12_fly cI cJ cZ cY a0 a0_a a0_image a0_texts a0_board a0_taken a0_fars a0_before a0_tape a0_pile a0_rows a0_told a0_values a0_truth a0_keeps v0_23) := by rw [ev0_23]; exact hD
    have hg := g_lte hg v0_23 ev0_23
    refine lv_aload_n hx hb dX12_fly_77 rfl (lv_at hl 0 rfl) ?_
    refine lv_iload_n hx hb dX12_fly_78 rfl (lv_at hl 1 rfl) ?_
    refine lv_iload_n hx hb dX12_fly_79 rfl (lv_at hl 2 rfl) ?_
    refine lv_iload_n hx hb dX12_fly_80 rfl (lv_at hl 3 rfl) ?_
    refine lv_iload hx hb dX12_fly_81 (lv_at hl 4 rfl) ?_
    refine lv_iload hx hb dX12_fly_83 (lv_at hl 5 rfl) ?_
    obtain ⟨r_24, hr_24, hg⟩ := g_bd hg
    refine cc_v (va_runV (C := RX12) (As := [.int x1, .int x2, .int x3, .int x4, .int x5]) (rest := []) ⟨hx, hb, hml, hown, htb⟩ (k_X12_run a0 a0_a a0_image a0_texts a0_board a0_taken a0_fars a0_before a0_tape a0_pile a0_rows a0_told a0_values a0_truth a0_keeps v0_23 x1 x2 x3 x4 x5 r_24 hr_24) (cw_V 5 htb tg_1314 tg_13 tg_1311 tg_1313 ts_63 rfl rfl (by decide +kernel) ⟨Nat.le_of_ble_eq_true rfl, Nat.le_of_ble_eq_true rfl⟩) ⟨PC.blind, va_recv hK.1 hP (ci := 11) (q0 := 0) rfl rfl, PC.pre hK hT hP hD hS hA [0, 1, 2, 3, 4, 5, 6, 7, 8, 9, 10, 11, 12, 13, 14] rfl (by decide)⟩ rfl rfl hl.1 rfl (lv_room (Nat.le_of_ble_eq_true rfl)) dX12_fly_85 ⟨Nat.le_of_ble_eq_true rfl, Nat.le_of_ble_eq_true rfl⟩) hP hD hS hA [0, 1, 2, 3, 4, 5, 6, 7, 8, 9, 10, 11, 12, 13, 14] [] rfl rfl (by decide) (by decide) (fun u9 H locs hw hP hD hS => ?_)
    have hw := hw.symm
    subst hw
    have hP : va_P D vwCl (WS_X12_fly cI cJ cZ cY a0 a0_a a0_image a0_texts a0_board a0_taken a0_fars a0_before a0_tape a0_pile a0_rows a0_told a0_values a0_truth a0_keeps r_24) H := hP.sub [0, 1, 2, 3, 4, 5, 6, 7, 8, 9, 10, 11, 12, 13, 14] rfl
    have hD : va_D A (WS_X12_fly cI cJ cZ cY a0 a0_a a0_image a0_texts a0_board a0_taken a0_fars a0_before a0_tape a0_pile a0_rows a0_told a0_values a0_truth a0_keeps r_24) := hD.sub [0, 1, 2, 3, 4, 5, 6, 7, 8, 9, 10, 11, 12, 13, 14] (by decide) rfl
    refine lv_aload_n hx hb dX12_fly_88 rfl (lv_at hl 0 rfl) ?_
    refine va_get (ci := 11) (v := .ref a0_a) (C := RX12) (T := TX12) (N := 43) hx hb htb uX12 hown hK.1 hP 0 rfl rfl 2 (by decide) (htb _ tg_938) (fun _ h9 => h9) rfl dX12_fly_89 ?_
    refine lv_sipush (v := 880) hx hb dX12_fly_92 (by decide) ?_
    refine lv_aload_n hx hb dX12_fly_95 rfl (lv_at hl 0 rfl) ?_
    refine va_get (ci := 11) (v := .int (pX12_ticks r_24)) (C := RX12) (T := TX12) (N := 43) hx hb htb uX12 hown hK.1 hP 0 rfl rfl 29 (by decide) (htb _ tg_965) (fun _ h9 => h9) rfl dX12_fly_96 ?_
    refine lv_topi (fun x_25 ex_25 => ?_)
    have hg := g_lte hg x_25 ex_25
    obtain ⟨h_26, hg⟩ := g_gde hg
    refine va_iast hx hb hK.1 hP hD hS 1 0 rfl rfl (inB_vp h_26) dX12_fly_99 (fun H locs hP hD hS => ?_)
    obtain ⟨v0_27, ev0_27⟩ : ∃ z, z = sX12_a r_24 (upd (pX12_a r_24) (880 : Int32).toNatClampNeg x_25) := ⟨_, rfl⟩
    have hP : va_P D vwCl (WS_X12_fly cI cJ cZ cY a0 a0_a a0_image a0_texts a0_board a0_taken a0_fars a0_before a0_tape a0_pile a0_rows a0_told a0_values a0_truth a0_keeps v0_27) H := by rw [ev0_27]; exact hP
    have hD : va_D A (WS_X12_fly cI cJ cZ cY a0 a0_a a0_image a0_texts a0_board a0_taken a0_fars a0_before a0_tape a0_pile a0_rows a0_told a0_values a0_truth a0_keeps v0_27) := by rw [ev0_27]; exact hD
    have hg := g_lte hg v0_27 ev0_27
    refine lv_aload_n hx hb dX12_fly_100 rfl (lv_at hl 0 rfl) ?_
    refine va_get (ci := 11) (v := .ref a0_a) (C := RX12) (T := TX12) (N := 43) hx hb htb uX12 hown hK.1 hP 0 rfl rfl 2 (by decide) (htb _ tg_938) (fun _ h9 => h9) rfl dX12_fly_101 ?_
    refine lv_sipush (v := 881) hx hb dX12_fly_104 (by decide) ?_
    refine lv_aload_n hx hb dX12_fly_107 rfl (lv_at hl 0 rfl) ?_
    refine va_get (ci := 11) (v := .int (pX12_atX v0_27)) (C := RX12) (T := TX12) (N := 43) hx hb htb uX12 hown hK.1 hP 0 rfl rfl 30 (by decide) (htb _ tg_966) (fun _ h9 => h9) rfl dX12_fly_108 ?_
    refine lv_topi (fun x_28 ex_28 => ?_)
    have hg := g_lte hg x_28 ex_28
    obtain ⟨h_29, hg⟩ := g_gde hg
    refine va_iast hx hb hK.1 hP hD hS 1 0 rfl rfl (inB_vp h_29) dX12_fly_111 (fun H locs hP hD hS => ?_)
    obtain ⟨v0_30, ev0_30⟩ : ∃ z, z = sX12_a v0_27 (upd (pX12_a v0_27) (881 : Int32).toNatClampNeg x_28) := ⟨_, rfl⟩
    have hP : va_P D vwCl (WS_X12_fly cI cJ cZ cY a0 a0_a a0_image a0_texts a0_board a0_taken a0_fars a0_before a0_tape a0_pile a0_rows a0_told a0_values a0_truth a0_keeps v0_30) H := by rw [ev0_30]; exact hP
    have hD : va_D A (WS_X12_fly cI cJ cZ cY a0 a0_a a0_image a0_texts a0_board a0_taken a0_fars a0_before a0_tape a0_pile a0_rows a0_told a0_values a0_truth a0_keeps v0_30) := by rw [ev0_30]; exact hD
    have hg := g_lte hg v0_30 ev0_30
    refine lv_aload_n hx hb dX12_fly_112 rfl (lv_at hl 0 rfl) ?_
    refine va_get (ci := 11) (v := .ref a0_a) (C := RX12) (T := TX12) (N := 43) hx hb htb uX12 hown hK.1 hP 0 rfl rfl 2 (by decide) (htb _ tg_938) (fun _ h9 => h9) rfl dX12_fly_113 ?_
    refine lv_sipush (v := 882) hx hb dX12_fly_116 (by decide) ?_
    refine lv_aload_n hx hb dX12_fly_119 rfl (lv_at hl 0 rfl) ?_
    refine va_get (ci := 11) (v := .int (pX12_atY v0_30)) (C := RX12) (T := TX12) (N := 43) hx hb htb uX12 hown hK.1 hP 0 rfl rfl 31 (by decide) (htb _ tg_967) (fun _ h9 => h9) rfl dX12_fly_120 ?_
    refine lv_topi (fun x_31 ex_31 => ?_)
    have hg := g_lte hg x_31 ex_31
    obtain ⟨h_32, hg⟩ := g_gde hg
    refine va_iast hx hb hK.1 hP hD hS 1 0 rfl rfl (inB_vp h_32) dX12_fly_123 (fun H locs hP hD hS => ?_)
    obtain ⟨v0_33, ev0_33⟩ : ∃ z, z = sX12_a v0_30 (upd (pX12_a v0_30) (882 : Int32).toNatClampNeg x_31) := ⟨_, rfl⟩
    have hP : va_P D vwCl (WS_X12_fly cI cJ cZ cY a0 a0_a a0_image a0_texts a0_board a0_taken a0_fars a0_before a0_tape a0_pile a0_rows a0_told a0_values a0_truth a0_keeps v0_33) H := by rw [ev0_33]; exact hP
    have hD : va_D A (WS_X12_fly cI cJ cZ cY a0 a0_a a0_image a0_texts a0_board a0_taken a0_fars a0_before a0_tape a0_pile a0_rows a0_told a0_values a0_truth a0_keeps v0_33) := by rw [ev0_33]; exact hD
    have hg := g_lte hg v0_33 ev0_33
    refine lv_aload_n hx hb dX12_fly_124 rfl (lv_at hl 0 rfl) ?_
    refine va_get (ci := 11) (v := .ref a0_a) (C := RX12) (T := TX12) (N := 43) hx hb htb uX12 hown hK.1 hP 0 rfl rfl 2 (by decide) (htb _ tg_938) (fun _ h9 => h9) rfl dX12_fly_125 ?_
    refine lv_sipush (v := 883) hx hb dX12_fly_128 (by decide) ?_
    refine lv_aload_n hx hb dX12_fly_131 rfl (lv_at hl 0 rfl) ?_
    refine va_get (ci := 11) (v := .int (pX12_heading v0_33)) (C := RX12) (T := TX12) (N := 43) hx hb htb uX12 hown hK.1 hP 0 rfl rfl 32 (by decide) (htb _ tg_968) (fun _ h9 => h9) rfl dX12_fly_132 ?_
    refine lv_topi (fun x_34 ex_34 => ?_)
    have hg := g_lte hg x_34 ex_34
    obtain ⟨h_35, hg⟩ := g_gde hg
    refine va_iast hx hb hK.1 hP hD hS 1 0 rfl rfl (inB_vp h_35) dX12_fly_135 (fun H locs hP hD hS => ?_)
    obtain ⟨v0_36, ev0_36⟩ : ∃ z, z = sX12_a v0_33 (upd (pX12_a v0_33) (883 : Int32).toNatClampNeg x_34) := ⟨_, rfl⟩
    have hP : va_P D vwCl (WS_X12_fly cI cJ cZ cY a0 a0_a a0_image a0_texts a0_board a0_taken a0_fars a0_before a0_tape a0_pile a0_rows a0_told a0_values a0_truth a0_keeps v0_36) H := by rw [ev0_36]; exact hP
    have hD : va_D A (WS_X12_fly cI cJ cZ cY a0 a0_a a0_image a0_texts a0_board a0_taken a0_fars a0_before a0_tape a0_pile a0_rows a0_told a0_values a0_truth a0_keeps v0_36) := by rw [ev0_36]; exact hD
    have hg := g_lte hg v0_36 ev0_36
    refine lv_aload_n hx hb dX12_fly_136 rfl (lv_at hl 0 rfl) ?_
    refine va_get (ci := 11) (v := .ref a0_a) (C := RX12) (T := TX12) (N := 43) hx hb htb uX12 hown hK.1 hP 0 rfl rfl 2 (by decide) (htb _ tg_938) (fun _ h9 => h9) rfl dX12_fly_137 ?_
    refine lv_sipush (v := 884) hx hb dX12_fly_140 (by decide) ?_
    refine lv_aload_n hx hb dX12_fly_143 rfl (lv_at hl 0 rfl) ?_
    refine va_get (ci := 11) (v := .int (pX12_hit v0_36)) (C := RX12) (T := TX12) (N := 43) hx hb htb uX12 hown hK.1 hP 0 rfl rfl 33 (by decide) (htb _ tg_969) (fun _ h9 => h9) rfl dX12_fly_144 ?_
    refine lv_if_eq (tgt := 154) hx hb dX12_fly_147 (by decide) (fun c_37 => ?_) (fun c_37 => ?_)
    · have hg := g_it hg c_37
      refine lv_iconst (v := 0) hx hb dX12_fly_154 (by decide) ?_
      exact b_155 884 0 v0_36 H locs ls hP hD hS (lv_sub hl [0] rfl) hg
    · have hg := g_if hg c_37
      refine lv_iconst (v := 1) hx hb dX12_fly_150 (by decide) ?_
      refine lv_goto (tgt := 155) hx hb dX12_fly_151 (by decide) ?_
      exact b_155 884 1 v0_36 H locs ls hP hD hS (lv_sub hl [0] rfl) hg
  have b_54 : ∀ (x1 : Int32) (x2 : Int32) (x3 : Int32) (x4 : Int32) (x5 : Int32) (x6 : Int32) (v0 : BX12) (H : Heap) (locs : List Loc) (ls : Array Slot), va_P D vwCl (WS_X12_fly cI cJ cZ cY a0 a0_a a0_image a0_texts a0_board a0_taken a0_fars a0_before a0_tape a0_pile a0_rows a0_told a0_values a0_truth a0_keeps v0) H → va_D A (WS_X12_fly cI cJ cZ cY a0 a0_a a0_image a0_texts a0_board a0_taken a0_fars a0_before a0_tape a0_pile a0_rows a0_told a0_values a0_truth a0_keeps v0) → va_S A s.heap H locs → lv_has ls 8 [(0, .ref a0), (1, .int x1), (2, .int x2), (3, .int x3), (4, .int x4), (5, .int x5), (6, .int x6)] → f_X12_fly_b54 x1 x2 x3 x4 x5 x6 v0 = some res → W p l e rm_X12_fly s m args below meth c H locs 0 0 Q (F0 m 54 ls []) := by
    intro x1 x2 x3 x4 x5 x6 v0 H locs ls hP hD hS hl hg
    unfold f_X12_fly_b54 at hg
    refine lv_aload_n hx hb dX12_fly_54 rfl (lv_at hl 0 rfl) ?_
    refine lv_iload hx hb dX12_fly_55 (lv_at hl 6 rfl) ?_
    refine lv_if_ne (tgt := 66) hx hb dX12_fly_57 (by decide) (fun c_38 => ?_) (fun c_38 => ?_)
    · have hg := g_if hg c_38
      refine lv_lconst (v := 1) hx hb dX12_fly_66 (by decide) ?_
      refine lv_iload hx hb dX12_fly_67 (lv_at hl 6 rfl) ?_
      refine lv_iconst (v := 1) hx hb dX12_fly_69 (by decide) ?_
      refine lv_isub hx hb dX12_fly_70 ?_
      refine lv_lshl (v := (1 : Int64) <<< (((x6 - 1) : Int32).toInt64 &&& 63)) hx hb dX12_fly_71 rfl ?_
      refine lv_lconst (v := 1) hx hb dX12_fly_72 (by decide) ?_
      refine lv_lsub hx hb dX12_fly_73 ?_
      exact b_74 x1 x2 x3 x4 x5 (((1 : Int64) <<< (((x6 - 1) : Int32).toInt64 &&& 63)) - 1) v0 H locs ls hP hD hS (lv_sub hl [0, 1, 2, 3, 4, 5] rfl) hg
    · have hg := g_it hg c_38
      refine lv_ldc2 (v := 1000000) hx hb hown (htb _ tg_1310) dX12_fly_60 ?_
      refine lv_goto (tgt := 74) hx hb dX12_fly_63 (by decide) ?_
      exact b_74 x1 x2 x3 x4 x5 1000000 v0 H locs ls hP hD hS (lv_sub hl [0, 1, 2, 3, 4, 5] rfl) hg
  generalize hHe : s.heap = H at hP ⊢
  have hS : va_S A s.heap H [] := by rw [← hHe]; exact va_S.rf
  generalize ([] : List Loc) = locs at hS ⊢
  unfold f_X12_fly at hg
  refine lv_aload_n hx hb dX12_fly_0 rfl (lv_at hl 0 rfl) ?_
  refine lv_iload_n hx hb dX12_fly_1 rfl (lv_at hl 1 rfl) ?_
  obtain ⟨r_39, hr_39, hg⟩ := g_bd hg
  refine cc_i (va_runV (C := RX12) (As := [.int p0]) (rest := []) ⟨hx, hb, hml, hown, htb⟩ (k_X12_isRule a0 a0_a a0_image a0_texts a0_board a0_taken a0_fars a0_before a0_tape a0_pile a0_rows a0_told a0_values a0_truth a0_keeps v0 p0 r_39 hr_39) (cw_V 1 htb tg_1305 tg_13 tg_1302 tg_1304 ts_61 rfl rfl (by decide +kernel) ⟨Nat.le_of_ble_eq_true rfl, Nat.le_of_ble_eq_true rfl⟩) ⟨PC.blind, va_recv hK.1 hP (ci := 11) (q0 := 0) rfl rfl, PC.pre hK hT hP hD hS hA [0, 1, 2, 3, 4, 5, 6, 7, 8, 9, 10, 11, 12, 13, 14] rfl (by decide)⟩ rfl rfl hl.1 rfl (lv_room (Nat.le_of_ble_eq_true rfl)) dX12_fly_2 ⟨Nat.le_of_ble_eq_true rfl, Nat.le_of_ble_eq_true rfl⟩) hP hD hS hA [0, 1, 2, 3, 4, 5, 6, 7, 8, 9, 10, 11, 12, 13, 14] [] rfl rfl (by decide) (by decide) (fun r9 u9 H locs hw hP hD hS => ?_)
  have hw := hw.symm
  subst hw
  have hP : va_P D vwCl (WS_X12_fly cI cJ cZ cY a0 a0_a a0_image a0_texts a0_board a0_taken a0_fars a0_before a0_tape a0_pile a0_rows a0_told a0_values a0_truth a0_keeps v0) H := hP.sub [0, 1, 2, 3, 4, 5, 6, 7, 8, 9, 10, 11, 12, 13, 14] rfl
  have hD : va_D A (WS_X12_fly cI cJ cZ cY a0 a0_a a0_image a0_texts a0_board a0_taken a0_fars a0_before a0_tape a0_pile a0_rows a0_told a0_values a0_truth a0_keeps v0) := hD.sub [0, 1, 2, 3, 4, 5, 6, 7, 8, 9, 10, 11, 12, 13, 14] (by decide) rfl
  refine lv_if_eq (tgt := 52) hx hb dX12_fly_5 (by decide) (fun c_40 => ?_) (fun c_40 => ?_)
  · have hg := g_it hg c_40
    refine lv_iconst (v := (-1)) hx hb dX12_fly_52 (by decide) ?_
    have hg := Option.some.inj hg
    rw [hQ]
    exact W.iret (v := (-1)) hx hb hr (fun t ht hW => ⟨⟨(-1), (v0), rfl, ⟨by rw [← hg], by rw [← hg]⟩, by rw [ht]; exact hP, hD⟩, hS.F ht⟩) hS.2.2 dX12_fly_53
  · have hg := g_if hg c_40
    refine lv_aload_n hx hb dX12_fly_8 rfl (lv_at hl 0 rfl) ?_
    refine lv_iload_n hx hb dX12_fly_9 rfl (lv_at hl 2 rfl) ?_
    refine lv_iload_n hx hb dX12_fly_10 rfl (lv_at hl 3 rfl) ?_
    obtain ⟨r_41, hr_41, hg⟩ := g_bd hg
    refine cc_i (va_runV (C := RX12) (As := [.int p1, .int p2]) (rest := []) ⟨hx, hb, hml, hown, htb⟩ (k_X12_isStart a0 a0_a a0_image a0_texts a0_board a0_taken a0_fars a0_before a0_tape a0_pile a0_rows a0_told a0_values a0_truth a0_keeps v0 p1 p2 r_41 hr_41) (cw_V 2 htb tg_1309 tg_13 tg_1306 tg_1308 ts_62 rfl rfl (by decide +kernel) ⟨Nat.le_of_ble_eq_true rfl, Nat.le_of_ble_eq_true rfl⟩) ⟨PC.blind, va_recv hK.1 hP (ci := 11) (q0 := 0) rfl rfl, PC.pre hK hT hP hD hS hA [0, 1, 2, 3, 4, 5, 6, 7, 8, 9, 10, 11, 12, 13, 14] rfl (by decide)⟩ rfl rfl hl.1 rfl (lv_room (Nat.le_of_ble_eq_true rfl)) dX12_fly_11 ⟨Nat.le_of_ble_eq_true rfl, Nat.le_of_ble_eq_true rfl⟩) hP hD hS hA [0, 1, 2, 3, 4, 5, 6, 7, 8, 9, 10, 11, 12, 13, 14] [] rfl rfl (by decide) (by decide) (fun r9 u9 H locs hw hP hD hS => ?_)
    have hw := hw.symm
    subst hw
    have hP : va_P D vwCl (WS_X12_fly cI cJ cZ cY a0 a0_a a0_image a0_texts a0_board a0_taken a0_fars a0_before a0_tape a0_pile a0_rows a0_told a0_values a0_truth a0_keeps v0) H := hP.sub [0, 1, 2, 3, 4, 5, 6, 7, 8, 9, 10, 11, 12, 13, 14] rfl
    have hD : va_D A (WS_X12_fly cI cJ cZ cY a0 a0_a a0_image a0_texts a0_board a0_taken a0_fars a0_before a0_tape a0_pile a0_rows a0_told a0_values a0_truth a0_keeps v0) := hD.sub [0, 1, 2, 3, 4, 5, 6, 7, 8, 9, 10, 11, 12, 13, 14] (by decide) rfl
    refine lv_if_eq (tgt := 52) hx hb dX12_fly_14 (by decide) (fun c_42 => ?_) (fun c_42 => ?_)
    · have hg := g_it hg c_42
      refine lv_iconst (v := (-1)) hx hb dX12_fly_52 (by decide) ?_
      have hg := Option.some.inj hg
      rw [hQ]
      exact W.iret (v := (-1)) hx hb hr (fun t ht hW => ⟨⟨(-1), (v0), rfl, ⟨by rw [← hg], by rw [← hg]⟩, by rw [ht]; exact hP, hD⟩, hS.F ht⟩) hS.2.2 dX12_fly_53
    · have hg := g_if hg c_42
      refine lv_iload hx hb dX12_fly_17 (lv_at hl 4 rfl) ?_
      obtain ⟨r_43, hr_43, hg⟩ := g_bd hg
      refine cc_i (va_runS (As := [.int p3]) (rest := []) ⟨hx, hb, hml, hown, htb⟩ (k_X12_isSide p3 r_43 hr_43) (cw_S 1 htb tg_1108 tg_13 tg_1106 tg_1107 rfl rfl (by decide +kernel) ⟨Nat.le_of_ble_eq_true rfl, Nat.le_of_ble_eq_true rfl⟩) ⟨PC.blind, PC.pre hK hT hP hD hS hA [] rfl (by decide)⟩ rfl rfl hl.1 rfl (lv_room (Nat.le_of_ble_eq_true rfl)) dX12_fly_19 ⟨Nat.le_of_ble_eq_true rfl, Nat.le_of_ble_eq_true rfl⟩) hP hD hS hA [] [0, 1, 2, 3, 4, 5, 6, 7, 8, 9, 10, 11, 12, 13, 14] rfl rfl (by decide) (by decide) (fun r9 u9 H locs hw hP hD hS => ?_)
      have hw := hw.symm
      subst hw
      have hP : va_P D vwCl (WS_X12_fly cI cJ cZ cY a0 a0_a a0_image a0_texts a0_board a0_taken a0_fars a0_before a0_tape a0_pile a0_rows a0_told a0_values a0_truth a0_keeps v0) H := hP.sub [0, 1, 2, 3, 4, 5, 6, 7, 8, 9, 10, 11, 12, 13, 14] rfl
      have hD : va_D A (WS_X12_fly cI cJ cZ cY a0 a0_a a0_image a0_texts a0_board a0_taken a0_fars a0_before a0_tape a0_pile a0_rows a0_told a0_values a0_truth a0_keeps v0) := hD.sub [0, 1, 2, 3, 4, 5, 6, 7, 8, 9, 10, 11, 12, 13, 14] (by decide) rfl
      refine lv_if_eq (tgt := 52) hx hb dX12_fly_22 (by decide) (fun c_44 => ?_) (fun c_44 => ?_)
      · have hg := g_it hg c_44
        refine lv_iconst (v := (-1)) hx hb dX12_fly_52 (by decide) ?_
        have hg := Option.some.inj hg
        rw [hQ]
        exact W.iret (v := (-1)) hx hb hr (fun t ht hW => ⟨⟨(-1), (v0), rfl, ⟨by rw [← hg], by rw [← hg]⟩, by rw [ht]; exact hP, hD⟩, hS.F ht⟩) hS.2.2 dX12_fly_53
      · have hg := g_if hg c_44
        refine lv_iload hx hb dX12_fly_25 (lv_at hl 5 rfl) ?_
        refine lv_iconst (v := 1) hx hb dX12_fly_27 (by decide) ?_
        refine lv_bipush (v := 60) hx hb dX12_fly_28 (by decide) ?_
        obtain ⟨r_45, hr_45, hg⟩ := g_bd hg
        refine cc_i (va_runS (As := [.int p4, .int 1, .int 60]) (rest := []) ⟨hx, hb, hml, hown, htb⟩ (k_X12_isIn p4 1 60 r_45 hr_45) (cw_S 3 htb tg_1078 tg_13 tg_1076 tg_1077 rfl rfl (by decide +kernel) ⟨Nat.le_of_ble_eq_true rfl, Nat.le_of_ble_eq_true rfl⟩) ⟨PC.blind, PC.pre hK hT hP hD hS hA [] rfl (by decide)⟩ rfl rfl hl.1 rfl (lv_room (Nat.le_of_ble_eq_true rfl)) dX12_fly_30 ⟨Nat.le_of_ble_eq_true rfl, Nat.le_of_ble_eq_true rfl⟩) hP hD hS hA [] [0, 1, 2, 3, 4, 5, 6, 7, 8, 9, 10, 11, 12, 13, 14] rfl rfl (by decide) (by decide) (fun r9 u9 H locs hw hP hD hS => ?_)
        have hw := hw.symm
        subst hw
        have hP : va_P D vwCl (WS_X12_fly cI cJ cZ cY a0 a0_a a0_image a0_texts a0_board a0_taken a0_fars a0_before a0_tape a0_pile a0_rows a0_told a0_values a0_truth a0_keeps v0) H := hP.sub [0, 1, 2, 3, 4, 5, 6, 7, 8, 9, 10, 11, 12, 13, 14] rfl
        have hD : va_D A (WS_X12_fly cI cJ cZ cY a0 a0_a a0_image a0_texts a0_board a0_taken a0_fars a0_before a0_tape a0_pile a0_rows a0_told a0_values a0_truth a0_keeps v0) := hD.sub [0, 1, 2, 3, 4, 5, 6, 7, 8, 9, 10, 11, 12, 13, 14] (by decide) rfl
        refine lv_if_eq (tgt := 52) hx hb dX12_fly_33 (by decide) (fun c_46 => ?_) (fun c_46 => ?_)
        · have hg := g_it hg c_46
          refine lv_iconst (v := (-1)) hx hb dX12_fly_52 (by decide) ?_
          have hg := Option.some.inj hg
          rw [hQ]
          exact W.iret (v := (-1)) hx hb hr (fun t ht hW => ⟨⟨(-1), (v0), rfl, ⟨by rw [← hg], by rw [← hg]⟩, by rw [ht]; exact hP, hD⟩, hS.F ht⟩) hS.2.2 dX12_fly_53
        · have hg := g_if hg c_46
          refine lv_iload hx hb dX12_fly_36 (lv_at hl 6 rfl) ?_
          refine lv_if_eq (tgt := 54) hx hb dX12_fly_38 (by decide) (fun c_47 => ?_) (fun c_47 => ?_)
          · have hg := g_it hg c_47
            exact b_54 p0 p1 p2 p3 p4 p5 v0 H locs ls hP hD hS (lv_sub hl [0, 1, 2, 3, 4, 5, 6] rfl) hg
          · have hg := g_if hg c_47
            refine lv_iload hx hb dX12_fly_41 (lv_at hl 6 rfl) ?_
            refine lv_iconst (v := 4) hx hb dX12_fly_43 (by decide) ?_
            refine lv_bipush (v := 20) hx hb dX12_fly_44 (by decide) ?_
            obtain ⟨r_48, hr_48, hg⟩ := g_bd hg
            refine cc_i (va_runS (As := [.int p5, .int 4, .int 20]) (rest := []) ⟨hx, hb, hml, hown, htb⟩ (k_X12_isIn p5 4 20 r_48 hr_48) (cw_S 3 htb tg_1078 tg_13 tg_1076 tg_1077 rfl rfl (by decide +kernel) ⟨Nat.le_of_ble_eq_true rfl, Nat.le_of_ble_eq_true rfl⟩) ⟨PC.blind, PC.pre hK hT hP hD hS hA [] rfl (by decide)⟩ rfl rfl hl.1 rfl (lv_room (Nat.le_of_ble_eq_true rfl)) dX12_fly_46 ⟨Nat.le_of_ble_eq_true rfl, Nat.le_of_ble_eq_true rfl⟩) hP hD hS hA [] [0, 1, 2, 3, 4, 5, 6, 7, 8, 9, 10, 11, 12, 13, 14] rfl rfl (by decide) (by decide) (fun r9 u9 H locs hw hP hD hS => ?_)
            have hw := hw.symm
            subst hw
            have hP : va_P D vwCl (WS_X12_fly cI cJ cZ cY a0 a0_a a0_image a0_texts a0_board a0_taken a0_fars a0_before a0_tape a0_pile a0_rows a0_told a0_values a0_truth a0_keeps v0) H := hP.sub [0, 1, 2, 3, 4, 5, 6, 7, 8, 9, 10, 11, 12, 13, 14] rfl
            have hD : va_D A (WS_X12_fly cI cJ cZ cY a0 a0_a a0_image a0_texts a0_board a0_taken a0_fars a0_before a0_tape a0_pile a0_rows a0_told a0_values a0_truth a0_keeps v0) := hD.sub [0, 1, 2, 3, 4, 5, 6, 7, 8, 9, 10, 11, 12, 13, 14] (by decide) rfl
            refine lv_if_ne (tgt := 54) hx hb dX12_fly_49 (by decide) (fun c_49 => ?_) (fun c_49 => ?_)
            · have hg := g_if hg c_49
              exact b_54 p0 p1 p2 p3 p4 p5 v0 H locs ls hP hD hS (lv_sub hl [0, 1, 2, 3, 4, 5, 6] rfl) hg
            · have hg := g_it hg c_49
              refine lv_iconst (v := (-1)) hx hb dX12_fly_52 (by decide) ?_
              have hg := Option.some.inj hg
              rw [hQ]
              exact W.iret (v := (-1)) hx hb hr (fun t ht hW => ⟨⟨(-1), (v0), rfl, ⟨by rw [← hg], by rw [← hg]⟩, by rw [ht]; exact hP, hD⟩, hS.F ht⟩) hS.2.2 dX12_fly_53

/-! ManyEyesModel.flown(I)I -/
def WS_X12_flown (cI cJ cZ cY : ClassId) (a0 a0_a a0_image a0_texts a0_board a0_taken a0_fars a0_before a0_tape a0_pile a0_rows a0_told a0_values a0_truth a0_keeps : Nat) (v0 : BX12) : va_W := (GX12 cI cJ cZ cY a0 a0_a a0_image a0_texts a0_board a0_taken a0_fars a0_before a0_tape a0_pile a0_rows a0_told a0_values a0_truth a0_keeps v0)
def f_X12_flown (v0 : BX12) (p0 : Int32) : Option (Int32) := g_gd (inB 880 3170) (if (((pX12_a v0) (880 : Int32).toNatClampNeg) : Int32) < 0 then (some (-1)) else ((f_X12_isIn p0 0 5).bind (fun r_3 => if (r_3 : Int32) = 0 then (some (-1)) else (g_gd (inB ((881 : Int32) + p0) 3170) (some ((pX12_a v0) (((881 : Int32) + p0) : Int32).toNatClampNeg))))))
abbrev rm_X12_flown : Room := { frames := 1, cells := 0, slots := 0, locals := 22 }
set_option maxHeartbeats 4000000 in
set_option maxRecDepth 100000 in
theorem k_X12_flown {l : Launch} {D : va_G} {cI cJ cZ cY : ClassId} {tX tY : Nat} {sz : Nat} (a0 a0_a a0_image a0_texts a0_board a0_taken a0_fars a0_before a0_tape a0_pile a0_rows a0_told a0_values a0_truth a0_keeps : Nat) (v0 : BX12) (p0 : Int32) (res : Int32) (hg : f_X12_flown v0 p0 = some res) : Met l yX12_flown (Cond.code yX12_flown cX12_flown 2 (some .int) :: TB) rm_X12_flown (PC D cI cJ cZ cY tX tY [.ref a0, .int p0] (WS_X12_flown cI cJ cZ cY a0 a0_a a0_image a0_texts a0_board a0_taken a0_fars a0_before a0_tape a0_pile a0_rows a0_told a0_values a0_truth a0_keeps v0) sz) (va_Qi (fun (r : Int32) (_ : Unit) => r = res) (BC D (fun _ : Unit => WS_X12_flown cI cJ cZ cY a0 a0_a a0_image a0_texts a0_board a0_taken a0_fars a0_before a0_tape a0_pile a0_rows a0_told a0_values a0_truth a0_keeps v0) (va_A (WS_X12_flown cI cJ cZ cY a0 a0_a a0_image a0_texts a0_board a0_taken a0_fars a0_before a0_tape a0_pile a0_rows a0_told a0_values a0_truth a0_keeps v0) sz)) (va_A (WS_X12_flown cI cJ cZ cY a0 a0_a a0_image a0_texts a0_board a0_taken a0_fars a0_before a0_tape a0_pile a0_rows a0_told a0_values a0_truth a0_keeps v0) sz)) 0 0 (va_A (WS_X12_flown cI cJ cZ cY a0 a0_a a0_image a0_texts a0_board a0_taken a0_fars a0_before a0_tape a0_pile a0_rows a0_told a0_values a0_truth a0_keeps v0) sz) := by
  refine Met.ofW (cc := cX12_flown) (maxL := 2) (ret := (some .int)) (by decide) rfl ?_
  intro p e s m args below meth c s₁ B hml hv
  obtain ⟨hargs, hsz, hP, hK, hD0, hT⟩ := hv
  have hx := B.exec
  have hb := B.bytes
  have hr := B.returns
  have htb : ∀ w ∈ TB, w.before args s = true := fun w h => atoms_spec (ws := Cond.code yX12_flown cX12_flown 2 (some .int) :: TB) B.pre w (List.mem_cons_of_mem _ h)
  have hown : s.vm.findClass "ManyEyesModel" = some m.cls := findClass_of_methodNamed B.named
  have hlocks := B.notSynchronized
  subst hsz
  have hD := hD0.self (sz := s.heap.size)
  generalize hAe : va_A (WS_X12_flown cI cJ cZ cY a0 a0_a a0_image a0_texts a0_board a0_taken a0_fars a0_before a0_tape a0_pile a0_rows a0_told a0_values a0_truth a0_keeps v0) s.heap.size = A at hD hT ⊢
  have hA : ∀ q : Nat, s.heap.size ≤ q → A q := fun q h => by rw [← hAe]; exact Or.inr h
  have hS : va_S A s.heap s.heap [] := va_S.rf
  have hl := lv_entry ([.ref a0, .int p0]) (n := 2) (Nat.le_of_ble_eq_true rfl)
  have he : entryFrame m args 2 = F0 m 0 (lg_sl ([.ref a0, .int p0]) ++ List.replicate (2 - (lg_sl ([.ref a0, .int p0])).length) Slot.unset).toArray [] := by rw [hargs, lg_entry_eq]
  rw [he]
  generalize (lg_sl ([.ref a0, .int p0]) ++ List.replicate (2 - (lg_sl ([.ref a0, .int p0])).length) Slot.unset).toArray = ls at hl ⊢
  have hl : lv_has ls 2 [(0, .ref a0), (1, .int p0)] := hl
  show W p l e rm_X12_flown s m args below meth c s.heap [] 0 0 _ _
  refine W.genQ (fun Q hQ => ?_)
  generalize hHe : s.heap = H at hP ⊢
  have hS : va_S A s.heap H [] := by rw [← hHe]; exact va_S.rf
  generalize ([] : List Loc) = locs at hS ⊢
  unfold f_X12_flown at hg
  refine lv_aload_n hx hb dX12_flown_0 rfl (lv_at hl 0 rfl) ?_
  refine va_get (ci := 11) (v := .ref a0_a) (C := RX12) (T := TX12) (N := 43) hx hb htb uX12 hown hK.1 hP 0 rfl rfl 2 (by decide) (htb _ tg_938) (fun _ h9 => h9) rfl dX12_flown_1 ?_
  refine lv_sipush (v := 880) hx hb dX12_flown_4 (by decide) ?_
  obtain ⟨h_1, hg⟩ := g_gde hg
  refine va_iald hx hb hK.1 hP 1 0 rfl rfl (inB_vp h_1) dX12_flown_7 ?_
  refine lv_if_lt (tgt := 33) hx hb dX12_flown_8 (by decide) (fun c_2 => ?_) (fun c_2 => ?_)
  · have hg := g_it hg c_2
    refine lv_iconst (v := (-1)) hx hb dX12_flown_33 (by decide) ?_
    have hg := Option.some.inj hg
    rw [hQ]
    exact W.iret (v := (-1)) hx hb hr (fun t ht hW => ⟨⟨(-1), (), rfl, hg, by rw [ht]; exact hP, hD⟩, hS.F ht⟩) hS.2.2 dX12_flown_34
  · have hg := g_if hg c_2
    refine lv_iload_n hx hb dX12_flown_11 rfl (lv_at hl 1 rfl) ?_
    refine lv_iconst (v := 0) hx hb dX12_flown_12 (by decide) ?_
    refine lv_iconst (v := 5) hx hb dX12_flown_13 (by decide) ?_
    obtain ⟨r_3, hr_3, hg⟩ := g_bd hg
    refine cc_i (va_runS (As := [.int p0, .int 0, .int 5]) (rest := []) ⟨hx, hb, hml, hown, htb⟩ (k_X12_isIn p0 0 5 r_3 hr_3) (cw_S 3 htb tg_1078 tg_13 tg_1076 tg_1077 rfl rfl (by decide +kernel) ⟨Nat.le_of_ble_eq_true rfl, Nat.le_of_ble_eq_true rfl⟩) ⟨PC.blind, PC.pre hK hT hP hD hS hA [] rfl (by decide)⟩ rfl rfl hl.1 rfl (lv_room (Nat.le_of_ble_eq_true rfl)) dX12_flown_14 ⟨Nat.le_of_ble_eq_true rfl, Nat.le_of_ble_eq_true rfl⟩) hP hD hS hA [] [0, 1, 2, 3, 4, 5, 6, 7, 8, 9, 10, 11, 12, 13, 14] rfl rfl (by decide) (by decide) (fun r9 u9 H locs hw hP hD hS => ?_)
    have hw := hw.symm
    subst hw
    have hP : va_P D vwCl (WS_X12_flown cI cJ cZ cY a0 a0_a a0_image a0_texts a0_board a0_taken a0_fars a0_before a0_tape a0_pile a0_rows a0_told a0_values a0_truth a0_keeps v0) H := hP.sub [0, 1, 2, 3, 4, 5, 6, 7, 8, 9, 10, 11, 12, 13, 14] rfl
    have hD : va_D A (WS_X12_flown cI cJ cZ cY a0 a0_a a0_image a0_texts a0_board a0_taken a0_fars a0_before a0_tape a0_pile a0_rows a0_told a0_values a0_truth a0_keeps v0) := hD.sub [0, 1, 2, 3, 4, 5, 6, 7, 8, 9, 10, 11, 12, 13, 14] (by decide) rfl
    refine lv_if_eq (tgt := 33) hx hb dX12_flown_17 (by decide) (fun c_4 => ?_) (fun c_4 => ?_)
    · have hg := g_it hg c_4
      refine lv_iconst (v := (-1)) hx hb dX12_flown_33 (by decide) ?_
      have hg := Option.some.inj hg
      rw [hQ]
      exact W.iret (v := (-1)) hx hb hr (fun t ht hW => ⟨⟨(-1), (), rfl, hg, by rw [ht]; exact hP, hD⟩, hS.F ht⟩) hS.2.2 dX12_flown_34
    · have hg := g_if hg c_4
      refine lv_aload_n hx hb dX12_flown_20 rfl (lv_at hl 0 rfl) ?_
      refine va_get (ci := 11) (v := .ref a0_a) (C := RX12) (T := TX12) (N := 43) hx hb htb uX12 hown hK.1 hP 0 rfl rfl 2 (by decide) (htb _ tg_938) (fun _ h9 => h9) rfl dX12_flown_21 ?_
      refine lv_sipush (v := 881) hx hb dX12_flown_24 (by decide) ?_
      refine lv_iload_n hx hb dX12_flown_27 rfl (lv_at hl 1 rfl) ?_
      refine lv_iadd hx hb dX12_flown_28 ?_
      obtain ⟨h_5, hg⟩ := g_gde hg
      refine va_iald hx hb hK.1 hP 1 0 rfl rfl (inB_vp h_5) dX12_flown_29 ?_
      refine lv_goto (tgt := 34) hx hb dX12_flown_30 (by decide) ?_
      have hg := Option.some.inj hg
      rw [hQ]
      exact W.iret (v := ((pX12_a v0) (((881 : Int32) + p0) : Int32).toNatClampNeg)) hx hb hr (fun t ht hW => ⟨⟨((pX12_a v0) (((881 : Int32) + p0) : Int32).toNatClampNeg), (), rfl, hg, by rw [ht]; exact hP, hD⟩, hS.F ht⟩) hS.2.2 dX12_flown_34
