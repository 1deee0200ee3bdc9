/-! ManyEyesModel.settle(I)V -/
def WS_X12_settle (cI cJ cZ cY : ClassId) (a0 a0_a a0_image a0_texts a0_board a0_taken a0_fars a0_before a0_tape a0_pile a0_rows a0_told a0_values a0_truth a0_keeps : Nat) (v0 : BX12) : va_W := (GX12 cI cJ cZ cY a0 a0_a a0_image a0_texts a0_board a0_taken a0_fars a0_before a0_tape a0_pile a0_rows a0_told a0_values a0_truth a0_keeps v0)
def f_X12_settle_b0B (J0 : Int32 × BX12 → Option (BX12)) (x1 : Int32) (v0 : BX12) : Option (BX12) := if ((pX12_piled v0) : Int32) ≤ 0 then (some (v0)) else (g_gd (inB ((pX12_piled v0) - 1) 160) (if (40 : Int32) ≤ ((pX12_pile v0) (((pX12_piled v0) - 1) : Int32).toNatClampNeg) then (some (v0)) else (g_gd (inB ((pX12_piled v0) - 1) 160) (if (((pX12_pile v0) (((pX12_piled v0) - 1) : Int32).toNatClampNeg) : Int32) < x1 then (some (v0)) else (g_lt (((pX12_piled v0) - 1) : Int32) (fun x_6 => g_lt (sX12_piled v0 x_6) (fun v0_7 => g_gd (inB (pX12_piled v0_7) 160) ((f_X12_emit v0_7 ((pX12_pile v0_7) ((pX12_piled v0_7) : Int32).toNatClampNeg) 0).bind (fun r_9 => J0 (x1, r_9))))))))))
def f_X12_settle_b0 : Nat → (Int32 × BX12) → Option (BX12) := g_lp (fun J z => f_X12_settle_b0B J z.1 z.2)
def f_X12_settle (v0 : BX12) (p0 : Int32) : Option (BX12) := f_X12_settle_b0 fU (p0, v0)
abbrev rm_X12_settle : Room := { frames := 1, cells := 0, slots := 0, locals := 22 }
set_option maxHeartbeats 4000000 in
set_option maxRecDepth 100000 in
theorem k_X12_settle {l : Launch} {D : va_G} {cI cJ cZ cY : ClassId} {tX tY : Nat} {sz : Nat} (a0 a0_a a0_image a0_texts a0_board a0_taken a0_fars a0_before a0_tape a0_pile a0_rows a0_told a0_values a0_truth a0_keeps : Nat) (v0 : BX12) (p0 : Int32) (res : BX12) (hg : f_X12_settle v0 p0 = some res) : Met l yX12_settle (Cond.code yX12_settle cX12_settle 2 none :: TB) rm_X12_settle (PC D cI cJ cZ cY tX tY [.ref a0, .int p0] (WS_X12_settle cI cJ cZ cY a0 a0_a a0_image a0_texts a0_board a0_taken a0_fars a0_before a0_tape a0_pile a0_rows a0_told a0_values a0_truth a0_keeps v0) sz) (va_Qv (fun (u : BX12) => u = res) (BC D (fun u : BX12 => WS_X12_settle cI cJ cZ cY a0 a0_a a0_image a0_texts a0_board a0_taken a0_fars a0_before a0_tape a0_pile a0_rows a0_told a0_values a0_truth a0_keeps u) (va_A (WS_X12_settle cI cJ cZ cY a0 a0_a a0_image a0_texts a0_board a0_taken a0_fars a0_before a0_tape a0_pile a0_rows a0_told a0_values a0_truth a0_keeps v0) sz)) (va_A (WS_X12_settle cI cJ cZ cY a0 a0_a a0_image a0_texts a0_board a0_taken a0_fars a0_before a0_tape a0_pile a0_rows a0_told a0_values a0_truth a0_keeps v0) sz)) 0 0 (va_A (WS_X12_settle cI cJ cZ cY a0 a0_a a0_image a0_texts a0_board a0_taken a0_fars a0_before a0_tape a0_pile a0_rows a0_told a0_values a0_truth a0_keeps v0) sz) := by
  refine Met.ofW (cc := cX12_settle) (maxL := 2) (ret := none) (by decide) rfl ?_
  intro p e s m args below meth c s₁ B hml hv
  obtain ⟨hargs, hsz, hP, hK, hD0, hT⟩ := hv
  have hx := B.exec
  have hb := B.bytes
  have hr := B.returns
  have htb : ∀ w ∈ TB, w.before args s = true := fun w h => atoms_spec (ws := Cond.code yX12_settle cX12_settle 2 none :: TB) B.pre w (List.mem_cons_of_mem _ h)
  have hown : s.vm.findClass "ManyEyesModel" = some m.cls := findClass_of_methodNamed B.named
  have hlocks := B.notSynchronized
  subst hsz
  have hD := hD0.self (sz := s.heap.size)
  generalize hAe : va_A (WS_X12_settle cI cJ cZ cY a0 a0_a a0_image a0_texts a0_board a0_taken a0_fars a0_before a0_tape a0_pile a0_rows a0_told a0_values a0_truth a0_keeps v0) s.heap.size = A at hD hT ⊢
  have hA : ∀ q : Nat, s.heap.size ≤ q → A q := fun q h => by rw [← hAe]; exact Or.inr h
  have hS : va_S A s.heap s.heap [] := va_S.rf
  have hl := lv_entry ([.ref a0, .int p0]) (n := 2) (Nat.le_of_ble_eq_true rfl)
  have he : entryFrame m args 2 = F0 m 0 (lg_sl ([.ref a0, .int p0]) ++ List.replicate (2 - (lg_sl ([.ref a0, .int p0])).length) Slot.unset).toArray [] := by rw [hargs, lg_entry_eq]
  rw [he]
  generalize (lg_sl ([.ref a0, .int p0]) ++ List.replicate (2 - (lg_sl ([.ref a0, .int p0])).length) Slot.unset).toArray = ls at hl ⊢
  have hl : lv_has ls 2 [(0, .ref a0), (1, .int p0)] := hl
  show W p l e rm_X12_settle s m args below meth c s.heap [] 0 0 _ _
  refine W.genQ (fun Q hQ => ?_)
  have b_0 : ∀ (n : Nat), ∀ (x1 : Int32) (v0 : BX12) (H : Heap) (locs : List Loc) (ls : Array Slot), va_P D vwCl (WS_X12_settle cI cJ cZ cY a0 a0_a a0_image a0_texts a0_board a0_taken a0_fars a0_before a0_tape a0_pile a0_rows a0_told a0_values a0_truth a0_keeps v0) H → va_D A (WS_X12_settle cI cJ cZ cY a0 a0_a a0_image a0_texts a0_board a0_taken a0_fars a0_before a0_tape a0_pile a0_rows a0_told a0_values a0_truth a0_keeps v0) → va_S A s.heap H locs → lv_has ls 2 [(0, .ref a0), (1, .int x1)] → f_X12_settle_b0 n (x1, v0) = some res → W p l e rm_X12_settle s m args below meth c H locs 0 0 Q (F0 m 0 ls []) := by
    intro n
    induction n with
    | zero =>
      intro x1 v0 H locs ls hP hD hS hl hg
      exact (g_lp0 hg).elim
    | succ n ih =>
      intro x1 v0 H locs ls hP hD hS hl hg
      have hg : f_X12_settle_b0B (f_X12_settle_b0 n) x1 v0 = some res := hg
      unfold f_X12_settle_b0B at hg
      refine lv_aload_n hx hb dX12_settle_0 rfl (lv_at hl 0 rfl) ?_
      refine va_get (ci := 11) (v := .int (pX12_piled v0)) (C := RX12) (T := TX12) (N := 43) hx hb htb uX12 hown hK.1 hP 0 rfl rfl 24 (by decide) (htb _ tg_960) (fun _ h9 => h9) rfl dX12_settle_1 ?_
      refine lv_if_le (tgt := 65) hx hb dX12_settle_4 (by decide) (fun c_1 => ?_) (fun c_1 => ?_)
      · have hg := g_it hg c_1
        have hg := Option.some.inj hg
        rw [hQ]
        exact W.vret hx hb hr (fun t ht hW => ⟨⟨(v0), rfl, hg, by rw [ht]; exact hP, hD⟩, hS.F ht⟩) hS.2.2 dX12_settle_65
      · have hg := g_if hg c_1
        refine lv_aload_n hx hb dX12_settle_7 rfl (lv_at hl 0 rfl) ?_
        refine va_get (ci := 11) (v := .ref a0_pile) (C := RX12) (T := TX12) (N := 43) hx hb htb uX12 hown hK.1 hP 0 rfl rfl 23 (by decide) (htb _ tg_959) (fun _ h9 => h9) rfl dX12_settle_8 ?_
        refine lv_aload_n hx hb dX12_settle_11 rfl (lv_at hl 0 rfl) ?_
        refine va_get (ci := 11) (v := .int (pX12_piled v0)) (C := RX12) (T := TX12) (N := 43) hx hb htb uX12 hown hK.1 hP 0 rfl rfl 24 (by decide) (htb _ tg_960) (fun _ h9 => h9) rfl dX12_settle_12 ?_
        refine lv_iconst (v := 1) hx hb dX12_settle_15 (by decide) ?_
        refine lv_isub hx hb dX12_settle_16 ?_
        obtain ⟨h_2, hg⟩ := g_gde hg
        refine va_iald hx hb hK.1 hP 9 0 rfl rfl (inB_vp h_2) dX12_settle_17 ?_
        refine lv_bipush (v := 40) hx hb dX12_settle_18 (by decide) ?_
        refine lv_icmp_ge (tgt := 65) hx hb dX12_settle_20 (by decide) (fun c_3 => ?_) (fun c_3 => ?_)
        · have hg := g_it hg c_3
          have hg := Option.some.inj hg
          rw [hQ]
          exact W.vret hx hb hr (fun t ht hW => ⟨⟨(v0), rfl, hg, by rw [ht]; exact hP, hD⟩, hS.F ht⟩) hS.2.2 dX12_settle_65
        · have hg := g_if hg c_3
          refine lv_aload_n hx hb dX12_settle_23 rfl (lv_at hl 0 rfl) ?_
          refine va_get (ci := 11) (v := .ref a0_pile) (C := RX12) (T := TX12) (N := 43) hx hb htb uX12 hown hK.1 hP 0 rfl rfl 23 (by decide) (htb _ tg_959) (fun _ h9 => h9) rfl dX12_settle_24 ?_
          refine lv_aload_n hx hb dX12_settle_27 rfl (lv_at hl 0 rfl) ?_
          refine va_get (ci := 11) (v := .int (pX12_piled v0)) (C := RX12) (T := TX12) (N := 43) hx hb htb uX12 hown hK.1 hP 0 rfl rfl 24 (by decide) (htb _ tg_960) (fun _ h9 => h9) rfl dX12_settle_28 ?_
          refine lv_iconst (v := 1) hx hb dX12_settle_31 (by decide) ?_
          refine lv_isub hx hb dX12_settle_32 ?_
          obtain ⟨h_4, hg⟩ := g_gde hg
          refine va_iald hx hb hK.1 hP 9 0 rfl rfl (inB_vp h_4) dX12_settle_33 ?_
          refine lv_iload_n hx hb dX12_settle_34 rfl (lv_at hl 1 rfl) ?_
          refine lv_icmp_lt (tgt := 65) hx hb dX12_settle_35 (by decide) (fun c_5 => ?_) (fun c_5 => ?_)
          · have hg := g_it hg c_5
            have hg := Option.some.inj hg
            rw [hQ]
            exact W.vret hx hb hr (fun t ht hW => ⟨⟨(v0), rfl, hg, by rw [ht]; exact hP, hD⟩, hS.F ht⟩) hS.2.2 dX12_settle_65
          · have hg := g_if hg c_5
            refine lv_aload_n hx hb dX12_settle_38 rfl (lv_at hl 0 rfl) ?_
            refine lv_dup hx hb dX12_settle_39 rfl ?_
            refine va_get (ci := 11) (v := .int (pX12_piled v0)) (C := RX12) (T := TX12) (N := 43) hx hb htb uX12 hown hK.1 hP 0 rfl rfl 24 (by decide) (htb _ tg_960) (fun _ h9 => h9) rfl dX12_settle_40 ?_
            refine lv_iconst (v := 1) hx hb dX12_settle_43 (by decide) ?_
            refine lv_isub hx hb dX12_settle_44 ?_
            refine lv_topi (fun x_6 ex_6 => ?_)
            have hg := g_lte hg x_6 ex_6
            refine va_put (ci := 11) (v := .int x_6) (ty := .int) (C := RX12) (T := TX12) (N := 43) hx hb htb uX12 tyX12 tyX12_ok nmX12 hown hK.1 hP hD hS 0 rfl rfl 24 (by decide) (htb _ tg_960) (fun _ h9 => h9) rfl (by decide +kernel) rfl rfl (Nat.le_of_ble_eq_true rfl) dX12_settle_45 (fun H locs hP hD hS => ?_)
            obtain ⟨v0_7, ev0_7⟩ : ∃ z, z = sX12_piled v0 x_6 := ⟨_, rfl⟩
            have hP : va_P D vwCl (WS_X12_settle cI cJ cZ cY a0 a0_a a0_image a0_texts a0_board a0_taken a0_fars a0_before a0_tape a0_pile a0_rows a0_told a0_values a0_truth a0_keeps v0_7) H := by rw [ev0_7]; exact hP
            have hD : va_D A (WS_X12_settle cI cJ cZ cY a0 a0_a a0_image a0_texts a0_board a0_taken a0_fars a0_before a0_tape a0_pile a0_rows a0_told a0_values a0_truth a0_keeps v0_7) := by rw [ev0_7]; exact hD
            have hg := g_lte hg v0_7 ev0_7
            refine lv_aload_n hx hb dX12_settle_48 rfl (lv_at hl 0 rfl) ?_
            refine lv_aload_n hx hb dX12_settle_49 rfl (lv_at hl 0 rfl) ?_
            refine va_get (ci := 11) (v := .ref a0_pile) (C := RX12) (T := TX12) (N := 43) hx hb htb uX12 hown hK.1 hP 0 rfl rfl 23 (by decide) (htb _ tg_959) (fun _ h9 => h9) rfl dX12_settle_50 ?_
            refine lv_aload_n hx hb dX12_settle_53 rfl (lv_at hl 0 rfl) ?_
            refine va_get (ci := 11) (v := .int (pX12_piled v0_7)) (C := RX12) (T := TX12) (N := 43) hx hb htb uX12 hown hK.1 hP 0 rfl rfl 24 (by decide) (htb _ tg_960) (fun _ h9 => h9) rfl dX12_settle_54 ?_
            obtain ⟨h_8, hg⟩ := g_gde hg
            refine va_iald hx hb hK.1 hP 9 0 rfl rfl (inB_vp h_8) dX12_settle_57 ?_
            refine lv_iconst (v := 0) hx hb dX12_settle_58 (by decide) ?_
            obtain ⟨r_9, hr_9, hg⟩ := g_bd hg
            refine cc_v (va_runV (C := RX12) (As := [.int ((pX12_pile v0_7) ((pX12_piled v0_7) : Int32).toNatClampNeg), .int 0]) (rest := []) ⟨hx, hb, hml, hown, htb⟩ (k_X12_emit a0 a0_a a0_image a0_texts a0_board a0_taken a0_fars a0_before a0_tape a0_pile a0_rows a0_told a0_values a0_truth a0_keeps v0_7 ((pX12_pile v0_7) ((pX12_piled v0_7) : Int32).toNatClampNeg) 0 r_9 hr_9) (cw_V 2 htb tg_1272 tg_13 tg_1269 tg_1271 ts_55 rfl rfl (by decide +kernel) ⟨Nat.le_of_ble_eq_true rfl, Nat.le_of_ble_eq_true rfl⟩) ⟨PC.blind, va_recv hK.1 hP (ci := 11) (q0 := 0) rfl rfl, PC.pre hK hT hP hD hS hA [0, 1, 2, 3, 4, 5, 6, 7, 8, 9, 10, 11, 12, 13, 14] rfl (by decide)⟩ rfl rfl hl.1 rfl (lv_room (Nat.le_of_ble_eq_true rfl)) dX12_settle_59 ⟨Nat.le_of_ble_eq_true rfl, Nat.le_of_ble_eq_true rfl⟩) hP hD hS hA [0, 1, 2, 3, 4, 5, 6, 7, 8, 9, 10, 11, 12, 13, 14] [] rfl rfl (by decide) (by decide) (fun u9 H locs hw hP hD hS => ?_)
            have hw := hw.symm
            subst hw
            have hP : va_P D vwCl (WS_X12_settle cI cJ cZ cY a0 a0_a a0_image a0_texts a0_board a0_taken a0_fars a0_before a0_tape a0_pile a0_rows a0_told a0_values a0_truth a0_keeps r_9) H := hP.sub [0, 1, 2, 3, 4, 5, 6, 7, 8, 9, 10, 11, 12, 13, 14] rfl
            have hD : va_D A (WS_X12_settle cI cJ cZ cY a0 a0_a a0_image a0_texts a0_board a0_taken a0_fars a0_before a0_tape a0_pile a0_rows a0_told a0_values a0_truth a0_keeps r_9) := hD.sub [0, 1, 2, 3, 4, 5, 6, 7, 8, 9, 10, 11, 12, 13, 14] (by decide) rfl
            refine lv_goto (tgt := 0) hx hb dX12_settle_62 (by decide) ?_
            exact ih x1 r_9 H locs ls hP hD hS (lv_sub hl [0, 1] rfl) hg
  generalize hHe : s.heap = H at hP ⊢
  have hS : va_S A s.heap H [] := by rw [← hHe]; exact va_S.rf
  generalize ([] : List Loc) = locs at hS ⊢
  unfold f_X12_settle at hg
  exact b_0 fU p0 v0 H locs ls hP hD hS (lv_sub hl [0, 1] rfl) hg

/-! ManyEyesModel.letterOf()I -/
def WS_X12_letterOf (cI cJ cZ cY : ClassId) (a0 a0_a a0_image a0_texts a0_board a0_taken a0_fars a0_before a0_tape a0_pile a0_rows a0_told a0_values a0_truth a0_keeps : Nat) (v0 : BX12) : va_W := (GX12 cI cJ cZ cY a0 a0_a a0_image a0_texts a0_board a0_taken a0_fars a0_before a0_tape a0_pile a0_rows a0_told a0_values a0_truth a0_keeps v0)
def f_X12_letterOf (v0 : BX12) : Option (Int32) := if ((pX12_token v0) : Int32) = 2 then (if ((lg_cmp (pX12_word v0) 65) : Int32) < 0 then (some (-1)) else (if (0 : Int32) < (lg_cmp (pX12_word v0) 72) then (some (-1)) else (some ((((pX12_word v0) : Int64).toInt32) - 65)))) else (some (-1))
abbrev rm_X12_letterOf : Room := { frames := 0, cells := 0, slots := 0, locals := 0 }
set_option maxHeartbeats 4000000 in
set_option maxRecDepth 100000 in
theorem k_X12_letterOf {l : Launch} {D : va_G} {cI cJ cZ cY : ClassId} {tX tY : Nat} {sz : Nat} (a0 a0_a a0_image a0_texts a0_board a0_taken a0_fars a0_before a0_tape a0_pile a0_rows a0_told a0_values a0_truth a0_keeps : Nat) (v0 : BX12) (res : Int32) (hg : f_X12_letterOf v0 = some res) : Met l yX12_letterOf (Cond.code yX12_letterOf cX12_letterOf 1 (some .int) :: TB) rm_X12_letterOf (PC D cI cJ cZ cY tX tY [.ref a0] (WS_X12_letterOf cI cJ cZ cY a0 a0_a a0_image a0_texts a0_board a0_taken a0_fars a0_before a0_tape a0_pile a0_rows a0_told a0_values a0_truth a0_keeps v0) sz) (va_Qi (fun (r : Int32) (_ : Unit) => r = res) (BC D (fun _ : Unit => WS_X12_letterOf cI cJ cZ cY a0 a0_a a0_image a0_texts a0_board a0_taken a0_fars a0_before a0_tape a0_pile a0_rows a0_told a0_values a0_truth a0_keeps v0) (va_A (WS_X12_letterOf cI cJ cZ cY a0 a0_a a0_image a0_texts a0_board a0_taken a0_fars a0_before a0_tape a0_pile a0_rows a0_told a0_values a0_truth a0_keeps v0) sz)) (va_A (WS_X12_letterOf cI cJ cZ cY a0 a0_a a0_image a0_texts a0_board a0_taken a0_fars a0_before a0_tape a0_pile a0_rows a0_told a0_values a0_truth a0_keeps v0) sz)) 0 0 (va_A (WS_X12_letterOf cI cJ cZ cY a0 a0_a a0_image a0_texts a0_board a0_taken a0_fars a0_before a0_tape a0_pile a0_rows a0_told a0_values a0_truth a0_keeps v0) sz) := by
  refine Met.ofW (cc := cX12_letterOf) (maxL := 1) (ret := (some .int)) (by decide) rfl ?_
  intro p e s m args below meth c s₁ B hml hv
  obtain ⟨hargs, hsz, hP, hK, hD0, hT⟩ := hv
  have hx := B.exec
  have hb := B.bytes
  have hr := B.returns
  have htb : ∀ w ∈ TB, w.before args s = true := fun w h => atoms_spec (ws := Cond.code yX12_letterOf cX12_letterOf 1 (some .int) :: TB) B.pre w (List.mem_cons_of_mem _ h)
  have hown : s.vm.findClass "ManyEyesModel" = some m.cls := findClass_of_methodNamed B.named
  have hlocks := B.notSynchronized
  subst hsz
  have hD := hD0.self (sz := s.heap.size)
  generalize hAe : va_A (WS_X12_letterOf cI cJ cZ cY a0 a0_a a0_image a0_texts a0_board a0_taken a0_fars a0_before a0_tape a0_pile a0_rows a0_told a0_values a0_truth a0_keeps v0) s.heap.size = A at hD hT ⊢
  have hA : ∀ q : Nat, s.heap.size ≤ q → A q := fun q h => by rw [← hAe]; exact Or.inr h
  have hS : va_S A s.heap s.heap [] := va_S.rf
  have hl := lv_entry ([.ref a0]) (n := 1) (Nat.le_of_ble_eq_true rfl)
  have he : entryFrame m args 1 = F0 m 0 (lg_sl ([.ref a0]) ++ List.replicate (1 - (lg_sl ([.ref a0])).length) Slot.unset).toArray [] := by rw [hargs, lg_entry_eq]
  rw [he]
  generalize (lg_sl ([.ref a0]) ++ List.replicate (1 - (lg_sl ([.ref a0])).length) Slot.unset).toArray = ls at hl ⊢
  have hl : lv_has ls 1 [(0, .ref a0)] := hl
  show W p l e rm_X12_letterOf s m args below meth c s.heap [] 0 0 _ _
  refine W.genQ (fun Q hQ => ?_)
  generalize hHe : s.heap = H at hP ⊢
  have hS : va_S A s.heap H [] := by rw [← hHe]; exact va_S.rf
  generalize ([] : List Loc) = locs at hS ⊢
  unfold f_X12_letterOf at hg
  refine lv_aload_n hx hb dX12_letterOf_0 rfl (lv_at hl 0 rfl) ?_
  refine va_get (ci := 11) (v := .int (pX12_token v0)) (C := RX12) (T := TX12) (N := 43) hx hb htb uX12 hown hK.1 hP 0 rfl rfl 15 (by decide) (htb _ tg_951) (fun _ h9 => h9) rfl dX12_letterOf_1 ?_
  refine lv_iconst (v := 2) hx hb dX12_letterOf_4 (by decide) ?_
  refine lv_icmp_ne (tgt := 41) hx hb dX12_letterOf_5 (by decide) (fun c_1 => ?_) (fun c_1 => ?_)
  · have hg := g_if hg c_1
    refine lv_iconst (v := (-1)) hx hb dX12_letterOf_41 (by decide) ?_
    have hg := Option.some.inj hg
    rw [hQ]
    exact W.iret (v := (-1)) hx hb hr (fun t ht hW => ⟨⟨(-1), (), rfl, hg, by rw [ht]; exact hP, hD⟩, hS.F ht⟩) hS.2.2 dX12_letterOf_42
  · have hg := g_it hg c_1
    refine lv_aload_n hx hb dX12_letterOf_8 rfl (lv_at hl 0 rfl) ?_
    refine va_get (ci := 11) (v := .long (pX12_word v0)) (C := RX12) (T := TX12) (N := 43) hx hb htb uX12 hown hK.1 hP 0 rfl rfl 17 (by decide) (htb _ tg_953) (fun _ h9 => h9) rfl dX12_letterOf_9 ?_
    refine lv_ldc2 (v := 65) hx hb hown (htb _ tg_1235) dX12_letterOf_12 ?_
    refine W.lcmp hx hb dX12_letterOf_15 ?_
    refine lv_if_lt (tgt := 41) hx hb dX12_letterOf_16 (by decide) (fun c_2 => ?_) (fun c_2 => ?_)
    · have hg := g_it hg c_2
      refine lv_iconst (v := (-1)) hx hb dX12_letterOf_41 (by decide) ?_
      have hg := Option.some.inj hg
      rw [hQ]
      exact W.iret (v := (-1)) hx hb hr (fun t ht hW => ⟨⟨(-1), (), rfl, hg, by rw [ht]; exact hP, hD⟩, hS.F ht⟩) hS.2.2 dX12_letterOf_42
    · have hg := g_if hg c_2
      refine lv_aload_n hx hb dX12_letterOf_19 rfl (lv_at hl 0 rfl) ?_
      refine va_get (ci := 11) (v := .long (pX12_word v0)) (C := RX12) (T := TX12) (N := 43) hx hb htb uX12 hown hK.1 hP 0 rfl rfl 17 (by decide) (htb _ tg_953) (fun _ h9 => h9) rfl dX12_letterOf_20 ?_
      refine lv_ldc2 (v := 72) hx hb hown (htb _ tg_1236) dX12_letterOf_23 ?_
      refine W.lcmp hx hb dX12_letterOf_26 ?_
      refine lv_if_gt (tgt := 41) hx hb dX12_letterOf_27 (by decide) (fun c_3 => ?_) (fun c_3 => ?_)
      · have hg := g_it hg c_3
        refine lv_iconst (v := (-1)) hx hb dX12_letterOf_41 (by decide) ?_
        have hg := Option.some.inj hg
        rw [hQ]
        exact W.iret (v := (-1)) hx hb hr (fun t ht hW => ⟨⟨(-1), (), rfl, hg, by rw [ht]; exact hP, hD⟩, hS.F ht⟩) hS.2.2 dX12_letterOf_42
      · have hg := g_if hg c_3
        refine lv_aload_n hx hb dX12_letterOf_30 rfl (lv_at hl 0 rfl) ?_
        refine va_get (ci := 11) (v := .long (pX12_word v0)) (C := RX12) (T := TX12) (N := 43) hx hb htb uX12 hown hK.1 hP 0 rfl rfl 17 (by decide) (htb _ tg_953) (fun _ h9 => h9) rfl dX12_letterOf_31 ?_
        refine lv_l2i (v := ((pX12_word v0) : Int64).toInt32) hx hb dX12_letterOf_34 rfl ?_
        refine lv_bipush (v := 65) hx hb dX12_letterOf_35 (by decide) ?_
        refine lv_isub hx hb dX12_letterOf_37 ?_
        refine lv_goto (tgt := 42) hx hb dX12_letterOf_38 (by decide) ?_
        have hg := Option.some.inj hg
        rw [hQ]
        exact W.iret (v := ((((pX12_word v0) : Int64).toInt32) - 65)) hx hb hr (fun t ht hW => ⟨⟨((((pX12_word v0) : Int64).toInt32) - 65), (), rfl, hg, by rw [ht]; exact hP, hD⟩, hS.F ht⟩) hS.2.2 dX12_letterOf_42

/-! ManyEyesModel.eye(I)I -/
def WS_X12_eye (cI cJ cZ cY : ClassId) (a0 a0_a a0_image a0_texts a0_board a0_taken a0_fars a0_before a0_tape a0_pile a0_rows a0_told a0_values a0_truth a0_keeps : Nat) (v0 : BX12) : va_W := (GX12 cI cJ cZ cY a0 a0_a a0_image a0_texts a0_board a0_taken a0_fars a0_before a0_tape a0_pile a0_rows a0_told a0_values a0_truth a0_keeps v0)
def f_X12_eye (v0 : BX12) (p0 : Int32) : Option (Int32 × BX12) := (f_X12_nextToken v0).bind (fun r_1 => if ((pX12_token r_1) : Int32) = 1 then ((f_X12_isIn (pX12_number r_1) 0 15).bind (fun r_3 => if (r_3 : Int32) = 0 then (some (2, r_1)) else ((f_X12_emit r_1 p0 (pX12_number r_1)).bind (fun r_5 => (f_X12_nextToken r_5).bind (fun r_6 => (f_X12_whole r_6).bind (fun r_7 => some (0, r_7))))))) else (some (1, r_1)))
abbrev rm_X12_eye : Room := { frames := 3, cells := 0, slots := 0, locals := 64 }
set_option maxHeartbeats 4000000 in
set_option maxRecDepth 100000 in
theorem k_X12_eye {l : Launch} {D : va_G} {cI cJ cZ cY : ClassId} {tX tY : Nat} {sz : Nat} (a0 a0_a a0_image a0_texts a0_board a0_taken a0_fars a0_before a0_tape a0_pile a0_rows a0_told a0_values a0_truth a0_keeps : Nat) (v0 : BX12) (p0 : Int32) (res : Int32 × BX12) (hg : f_X12_eye v0 p0 = some res) : Met l yX12_eye (Cond.code yX12_eye cX12_eye 2 (some .int) :: TB) rm_X12_eye (PC D cI cJ cZ cY tX tY [.ref a0, .int p0] (WS_X12_eye cI cJ cZ cY a0 a0_a a0_image a0_texts a0_board a0_taken a0_fars a0_before a0_tape a0_pile a0_rows a0_told a0_values a0_truth a0_keeps v0) sz) (va_Qi (fun (r : Int32) (u : BX12) => r = res.1 ∧ u = res.2) (BC D (fun u : BX12 => WS_X12_eye cI cJ cZ cY a0 a0_a a0_image a0_texts a0_board a0_taken a0_fars a0_before a0_tape a0_pile a0_rows a0_told a0_values a0_truth a0_keeps u) (va_A (WS_X12_eye cI cJ cZ cY a0 a0_a a0_image a0_texts a0_board a0_taken a0_fars a0_before a0_tape a0_pile a0_rows a0_told a0_values a0_truth a0_keeps v0) sz)) (va_A (WS_X12_eye cI cJ cZ cY a0 a0_a a0_image a0_texts a0_board a0_taken a0_fars a0_before a0_tape a0_pile a0_rows a0_told a0_values a0_truth a0_keeps v0) sz)) 0 0 (va_A (WS_X12_eye cI cJ cZ cY a0 a0_a a0_image a0_texts a0_board a0_taken a0_fars a0_before a0_tape a0_pile a0_rows a0_told a0_values a0_truth a0_keeps v0) sz) := by
  refine Met.ofW (cc := cX12_eye) (maxL := 2) (ret := (some .int)) (by decide) rfl ?_
  intro p e s m args below meth c s₁ B hml hv
  obtain ⟨hargs, hsz, hP, hK, hD0, hT⟩ := hv
  have hx := B.exec
  have hb := B.bytes
  have hr := B.returns
  have htb : ∀ w ∈ TB, w.before args s = true := fun w h => atoms_spec (ws := Cond.code yX12_eye cX12_eye 2 (some .int) :: TB) B.pre w (List.mem_cons_of_mem _ h)
  have hown : s.vm.findClass "ManyEyesModel" = some m.cls := findClass_of_methodNamed B.named
  have hlocks := B.notSynchronized
  subst hsz
  have hD := hD0.self (sz := s.heap.size)
  generalize hAe : va_A (WS_X12_eye cI cJ cZ cY a0 a0_a a0_image a0_texts a0_board a0_taken a0_fars a0_before a0_tape a0_pile a0_rows a0_told a0_values a0_truth a0_keeps v0) s.heap.size = A at hD hT ⊢
  have hA : ∀ q : Nat, s.heap.size ≤ q → A q := fun q h => by rw [← hAe]; exact Or.inr h
  have hS : va_S A s.heap s.heap [] := va_S.rf
  have hl := lv_entry ([.ref a0, .int p0]) (n := 2) (Nat.le_of_ble_eq_true rfl)
  have he : entryFrame m args 2 = F0 m 0 (lg_sl ([.ref a0, .int p0]) ++ List.replicate (2 - (lg_sl ([.ref a0, .int p0])).length) Slot.unset).toArray [] := by rw [hargs, lg_entry_eq]
  rw [he]
  generalize (lg_sl ([.ref a0, .int p0]) ++ List.replicate (2 - (lg_sl ([.ref a0, .int p0])).length) Slot.unset).toArray = ls at hl ⊢
  have hl : lv_has ls 2 [(0, .ref a0), (1, .int p0)] := hl
  show W p l e rm_X12_eye s m args below meth c s.heap [] 0 0 _ _
  refine W.genQ (fun Q hQ => ?_)
  generalize hHe : s.heap = H at hP ⊢
  have hS : va_S A s.heap H [] := by rw [← hHe]; exact va_S.rf
  generalize ([] : List Loc) = locs at hS ⊢
  unfold f_X12_eye at hg
  refine lv_aload_n hx hb dX12_eye_0 rfl (lv_at hl 0 rfl) ?_
  obtain ⟨r_1, hr_1, hg⟩ := g_bd hg
  refine cc_v (va_runV (C := RX12) (As := []) (rest := []) ⟨hx, hb, hml, hown, htb⟩ (k_X12_nextToken a0 a0_a a0_image a0_texts a0_board a0_taken a0_fars a0_before a0_tape a0_pile a0_rows a0_told a0_values a0_truth a0_keeps v0 r_1 hr_1) (cw_V 0 htb tg_1204 tg_13 tg_1201 tg_1203 ts_42 rfl rfl (by decide +kernel) ⟨Nat.le_of_ble_eq_true rfl, Nat.le_of_ble_eq_true rfl⟩) ⟨PC.blind, va_recv hK.1 hP (ci := 11) (q0 := 0) rfl rfl, PC.pre hK hT hP hD hS hA [0, 1, 2, 3, 4, 5, 6, 7, 8, 9, 10, 11, 12, 13, 14] rfl (by decide)⟩ rfl rfl hl.1 rfl (lv_room (Nat.le_of_ble_eq_true rfl)) dX12_eye_1 ⟨Nat.le_of_ble_eq_true rfl, Nat.le_of_ble_eq_true rfl⟩) hP hD hS hA [0, 1, 2, 3, 4, 5, 6, 7, 8, 9, 10, 11, 12, 13, 14] [] rfl rfl (by decide) (by decide) (fun u9 H locs hw hP hD hS => ?_)
  have hw := hw.symm
  subst hw
  have hP : va_P D vwCl (WS_X12_eye cI cJ cZ cY a0 a0_a a0_image a0_texts a0_board a0_taken a0_fars a0_before a0_tape a0_pile a0_rows a0_told a0_values a0_truth a0_keeps r_1) H := hP.sub [0, 1, 2, 3, 4, 5, 6, 7, 8, 9, 10, 11, 12, 13, 14] rfl
  have hD : va_D A (WS_X12_eye cI cJ cZ cY a0 a0_a a0_image a0_texts a0_board a0_taken a0_fars a0_before a0_tape a0_pile a0_rows a0_told a0_values a0_truth a0_keeps r_1) := hD.sub [0, 1, 2, 3, 4, 5, 6, 7, 8, 9, 10, 11, 12, 13, 14] (by decide) rfl
  refine lv_aload_n hx hb dX12_eye_4 rfl (lv_at hl 0 rfl) ?_
  refine va_get (ci := 11) (v := .int (pX12_token r_1)) (C := RX12) (T := TX12) (N := 43) hx hb htb uX12 hown hK.1 hP 0 rfl rfl 15 (by decide) (htb _ tg_951) (fun _ h9 => h9) rfl dX12_eye_5 ?_
  refine lv_iconst (v := 1) hx hb dX12_eye_8 (by decide) ?_
  refine lv_icmp_eq (tgt := 14) hx hb dX12_eye_9 (by decide) (fun c_2 => ?_) (fun c_2 => ?_)
  · have hg := g_it hg c_2
    refine lv_aload_n hx hb dX12_eye_14 rfl (lv_at hl 0 rfl) ?_
    refine va_get (ci := 11) (v := .int (pX12_number r_1)) (C := RX12) (T := TX12) (N := 43) hx hb htb uX12 hown hK.1 hP 0 rfl rfl 16 (by decide) (htb _ tg_952) (fun _ h9 => h9) rfl dX12_eye_15 ?_
    refine lv_iconst (v := 0) hx hb dX12_eye_18 (by decide) ?_
    refine lv_bipush (v := 15) hx hb dX12_eye_19 (by decide) ?_
    obtain ⟨r_3, hr_3, hg⟩ := g_bd hg
    refine cc_i (va_runS (As := [.int (pX12_number r_1), .int 0, .int 15]) (rest := []) ⟨hx, hb, hml, hown, htb⟩ (k_X12_isIn (pX12_number r_1) 0 15 r_3 hr_3) (cw_S 3 htb tg_1078 tg_13 tg_1076 tg_1077 rfl rfl (by decide +kernel) ⟨Nat.le_of_ble_eq_true rfl, Nat.le_of_ble_eq_true rfl⟩) ⟨PC.blind, PC.pre hK hT hP hD hS hA [] rfl (by decide)⟩ rfl rfl hl.1 rfl (lv_room (Nat.le_of_ble_eq_true rfl)) dX12_eye_21 ⟨Nat.le_of_ble_eq_true rfl, Nat.le_of_ble_eq_true rfl⟩) hP hD hS hA [] [0, 1, 2, 3, 4, 5, 6, 7, 8, 9, 10, 11, 12, 13, 14] rfl rfl (by decide) (by decide) (fun r9 u9 H locs hw hP hD hS => ?_)
    have hw := hw.symm
    subst hw
    have hP : va_P D vwCl (WS_X12_eye cI cJ cZ cY a0 a0_a a0_image a0_texts a0_board a0_taken a0_fars a0_before a0_tape a0_pile a0_rows a0_told a0_values a0_truth a0_keeps r_1) H := hP.sub [0, 1, 2, 3, 4, 5, 6, 7, 8, 9, 10, 11, 12, 13, 14] rfl
    have hD : va_D A (WS_X12_eye cI cJ cZ cY a0 a0_a a0_image a0_texts a0_board a0_taken a0_fars a0_before a0_tape a0_pile a0_rows a0_told a0_values a0_truth a0_keeps r_1) := hD.sub [0, 1, 2, 3, 4, 5, 6, 7, 8, 9, 10, 11, 12, 13, 14] (by decide) rfl
    refine lv_if_ne (tgt := 29) hx hb dX12_eye_24 (by decide) (fun c_4 => ?_) (fun c_4 => ?_)
    · have hg := g_if hg c_4
      refine lv_aload_n hx hb dX12_eye_29 rfl (lv_at hl 0 rfl) ?_
      refine lv_iload_n hx hb dX12_eye_30 rfl (lv_at hl 1 rfl) ?_
      refine lv_aload_n hx hb dX12_eye_31 rfl (lv_at hl 0 rfl) ?_
      refine va_get (ci := 11) (v := .int (pX12_number r_1)) (C := RX12) (T := TX12) (N := 43) hx hb htb uX12 hown hK.1 hP 0 rfl rfl 16 (by decide) (htb _ tg_952) (fun _ h9 => h9) rfl dX12_eye_32 ?_
      obtain ⟨r_5, hr_5, hg⟩ := g_bd hg
      refine cc_v (va_runV (C := RX12) (As := [.int p0, .int (pX12_number r_1)]) (rest := []) ⟨hx, hb, hml, hown, htb⟩ (k_X12_emit a0 a0_a a0_image a0_texts a0_board a0_taken a0_fars a0_before a0_tape a0_pile a0_rows a0_told a0_values a0_truth a0_keeps r_1 p0 (pX12_number r_1) r_5 hr_5) (cw_V 2 htb tg_1272 tg_13 tg_1269 tg_1271 ts_55 rfl rfl (by decide +kernel) ⟨Nat.le_of_ble_eq_true rfl, Nat.le_of_ble_eq_true rfl⟩) ⟨PC.blind, va_recv hK.1 hP (ci := 11) (q0 := 0) rfl rfl, PC.pre hK hT hP hD hS hA [0, 1, 2, 3, 4, 5, 6, 7, 8, 9, 10, 11, 12, 13, 14] rfl (by decide)⟩ rfl rfl hl.1 rfl (lv_room (Nat.le_of_ble_eq_true rfl)) dX12_eye_35 ⟨Nat.le_of_ble_eq_true rfl, Nat.le_of_ble_eq_true rfl⟩) hP hD hS hA [0, 1, 2, 3, 4, 5, 6, 7, 8, 9, 10, 11, 12, 13, 14] [] rfl rfl (by decide) (by decide) (fun u9 H locs hw hP hD hS => ?_)
      have hw := hw.symm
      subst hw
      have hP : va_P D vwCl (WS_X12_eye cI cJ cZ cY a0 a0_a a0_image a0_texts a0_board a0_taken a0_fars a0_before a0_tape a0_pile a0_rows a0_told a0_values a0_truth a0_keeps r_5) H := hP.sub [0, 1, 2, 3, 4, 5, 6, 7, 8, 9, 10, 11, 12, 13, 14] rfl
      have hD : va_D A (WS_X12_eye cI cJ cZ cY a0 a0_a a0_image a0_texts a0_board a0_taken a0_fars a0_before a0_tape a0_pile a0_rows a0_told a0_values a0_truth a0_keeps r_5) := hD.sub [0, 1, 2, 3, 4, 5, 6, 7, 8, 9, 10, 11, 12, 13, 14] (by decide) rfl
      refine lv_aload_n hx hb dX12_eye_38 rfl (lv_at hl 0 rfl) ?_
      obtain ⟨r_6, hr_6, hg⟩ := g_bd hg
      refine cc_v (va_runV (C := RX12) (As := []) (rest := []) ⟨hx, hb, hml, hown, htb⟩ (k_X12_nextToken a0 a0_a a0_image a0_texts a0_board a0_taken a0_fars a0_before a0_tape a0_pile a0_rows a0_told a0_values a0_truth a0_keeps r_5 r_6 hr_6) (cw_V 0 htb tg_1204 tg_13 tg_1201 tg_1203 ts_42 rfl rfl (by decide +kernel) ⟨Nat.le_of_ble_eq_true rfl, Nat.le_of_ble_eq_true rfl⟩) ⟨PC.blind, va_recv hK.1 hP (ci := 11) (q0 := 0) rfl rfl, PC.pre hK hT hP hD hS hA [0, 1, 2, 3, 4, 5, 6, 7, 8, 9, 10, 11, 12, 13, 14] rfl (by decide)⟩ rfl rfl hl.1 rfl (lv_room (Nat.le_of_ble_eq_true rfl)) dX12_eye_39 ⟨Nat.le_of_ble_eq_true rfl, Nat.le_of_ble_eq_true rfl⟩) hP hD hS hA [0, 1, 2, 3, 4, 5, 6, 7, 8, 9, 10, 11, 12, 13, 14] [] rfl rfl (by decide) (by decide) (fun u9 H locs hw hP hD hS => ?_)
      have hw := hw.symm
      subst hw
      have hP : va_P D vwCl (WS_X12_eye cI cJ cZ cY a0 a0_a a0_image a0_texts a0_board a0_taken a0_fars a0_before a0_tape a0_pile a0_rows a0_told a0_values a0_truth a0_keeps r_6) H := hP.sub [0, 1, 2, 3, 4, 5, 6, 7, 8, 9, 10, 11, 12, 13, 14] rfl
      have hD : va_D A (WS_X12_eye cI cJ cZ cY a0 a0_a a0_image a0_texts a0_board a0_taken a0_fars a0_before a0_tape a0_pile a0_rows a0_told a0_values a0_truth a0_keeps r_6) := hD.sub [0, 1, 2, 3, 4, 5, 6, 7, 8, 9, 10, 11, 12, 13, 14] (by decide) rfl
      refine lv_aload_n hx hb dX12_eye_42 rfl (lv_at hl 0 rfl) ?_
      obtain ⟨r_7, hr_7, hg⟩ := g_bd hg
      refine cc_v (va_runV (C := RX12) (As := []) (rest := []) ⟨hx, hb, hml, hown, htb⟩ (k_X12_whole a0 a0_a a0_image a0_texts a0_board a0_taken a0_fars a0_before a0_tape a0_pile a0_rows a0_told a0_values a0_truth a0_keeps r_6 r_7 hr_7) (cw_V 0 htb tg_1280 tg_13 tg_1277 tg_1279 ts_57 rfl rfl (by decide +kernel) ⟨Nat.le_of_ble_eq_true rfl, Nat.le_of_ble_eq_true rfl⟩) ⟨PC.blind, va_recv hK.1 hP (ci := 11) (q0 := 0) rfl rfl, PC.pre hK hT hP hD hS hA [0, 1, 2, 3, 4, 5, 6, 7, 8, 9, 10, 11, 12, 13, 14] rfl (by decide)⟩ rfl rfl hl.1 rfl (lv_room (Nat.le_of_ble_eq_true rfl)) dX12_eye_43 ⟨Nat.le_of_ble_eq_true rfl, Nat.le_of_ble_eq_true rfl⟩) hP hD hS hA [0, 1, 2, 3, 4, 5, 6, 7, 8, 9, 10, 11, 12, 13, 14] [] rfl rfl (by decide) (by decide) (fun u9 H locs hw hP hD hS => ?_)
      have hw := hw.symm
      subst hw
      have hP : va_P D vwCl (WS_X12_eye cI cJ cZ cY a0 a0_a a0_image a0_texts a0_board a0_taken a0_fars a0_before a0_tape a0_pile a0_rows a0_told a0_values a0_truth a0_keeps r_7) H := hP.sub [0, 1, 2, 3, 4, 5, 6, 7, 8, 9, 10, 11, 12, 13, 14] rfl
      have hD : va_D A (WS_X12_eye cI cJ cZ cY a0 a0_a a0_image a0_texts a0_board a0_taken a0_fars a0_before a0_tape a0_pile a0_rows a0_told a0_values a0_truth a0_keeps r_7) := hD.sub [0, 1, 2, 3, 4, 5, 6, 7, 8, 9, 10, 11, 12, 13, 14] (by decide) rfl
      refine lv_iconst (v := 0) hx hb dX12_eye_46 (by decide) ?_
      have hg := Option.some.inj hg
      rw [hQ]
      exact W.iret (v := 0) hx hb hr (fun t ht hW => ⟨⟨0, (r_7), rfl, ⟨by rw [← hg], by rw [← hg]⟩, by rw [ht]; exact hP, hD⟩, hS.F ht⟩) hS.2.2 dX12_eye_47
    · have hg := g_it hg c_4
      refine lv_iconst (v := 2) hx hb dX12_eye_27 (by decide) ?_
      have hg := Option.some.inj hg
      rw [hQ]
      exact W.iret (v := 2) hx hb hr (fun t ht hW => ⟨⟨2, (r_1), rfl, ⟨by rw [← hg], by rw [← hg]⟩, by rw [ht]; exact hP, hD⟩, hS.F ht⟩) hS.2.2 dX12_eye_28
  · have hg := g_if hg c_2
    refine lv_iconst (v := 1) hx hb dX12_eye_12 (by decide) ?_
    have hg := Option.some.inj hg
    rw [hQ]
    exact W.iret (v := 1) hx hb hr (fun t ht hW => ⟨⟨1, (r_1), rfl, ⟨by rw [← hg], by rw [← hg]⟩, by rw [ht]; exact hP, hD⟩, hS.F ht⟩) hS.2.2 dX12_eye_13

/-! ManyEyesModel.beginOne()I -/
def WS_X12_beginOne (cI cJ cZ cY : ClassId) (a0 a0_a a0_image a0_texts a0_board a0_taken a0_fars a0_before a0_tape a0_pile a0_rows a0_told a0_values a0_truth a0_keeps : Nat) (v0 : BX12) : va_W := (GX12 cI cJ cZ cY a0 a0_a a0_image a0_texts a0_board a0_taken a0_fars a0_before a0_tape a0_pile a0_rows a0_told a0_values a0_truth a0_keeps v0)
def f_X12_beginOne_b280 (x1 : Int32) (v0 : BX12) : Option (Int32 × BX12) := if ((pX12_opens v0) : Int32) = 8 then (some (3, v0)) else (g_lt (((pX12_opens v0) + 1) : Int32) (fun x_2 => g_lt (sX12_opens v0 x_2) (fun v0_3 => (f_X12_push v0_3 x1).bind (fun r_4 => (f_X12_nextToken r_4).bind (fun r_5 => some (0, r_5))))))
def f_X12_beginOne_b252 (t0 : Int32) (v0 : BX12) : Option (Int32 × BX12) := if (t0 : Int32) = 0 then (some (1, v0)) else (if (t0 : Int32) ≤ 40 then (f_X12_beginOne_b280 t0 v0) else ((f_X12_nextToken v0).bind (fun r_8 => if ((pX12_token r_8) : Int32) = 40 then (f_X12_beginOne_b280 t0 r_8) else (some (1, r_8)))))
def f_X12_beginOne_b178 (t1 : Int32) (v0 : BX12) : Option (Int32 × BX12) := (f_X12_eye v0 t1).bind (fun r_10 => some (r_10.1, r_10.2))
def f_X12_beginOne_b152 (v0 : BX12) : Option (Int32 × BX12) := (f_X12_w4 108 101 110 115).bind (fun r_11 => (f_X12_isWord v0 r_11).bind (fun r_12 => if (r_12 : Int32) = 0 then (f_X12_beginOne_b178 32 v0) else (f_X12_beginOne_b178 31 v0)))
def f_X12_beginOne (v0 : BX12) : Option (Int32 × BX12) := if ((pX12_token v0) : Int32) = 1 then (if ((pX12_number v0) : Int32) ≤ 9999 then ((f_X12_emit v0 0 (pX12_number v0)).bind (fun r_44 => (f_X12_nextToken r_44).bind (fun r_45 => (f_X12_whole r_45).bind (fun r_46 => some (0, r_46))))) else (some (2, v0))) else ((f_X12_letterOf v0).bind (fun r_15 => if (r_15 : Int32) < 0 then ((f_X12_w4 116 105 99 107).bind (fun r_17 => (f_X12_isWord v0 r_17).bind (fun r_18 => if (r_18 : Int32) = 0 then ((f_X12_w4 108 101 110 115).bind (fun r_20 => (f_X12_isWord v0 r_20).bind (fun r_21 => if (r_21 : Int32) = 0 then ((f_X12_w4 112 97 105 114).bind (fun r_23 => (f_X12_isWord v0 r_23).bind (fun r_24 => if (r_24 : Int32) = 0 then ((f_X12_w3 109 105 110).bind (fun r_26 => (f_X12_isWord v0 r_26).bind (fun r_27 => if (r_27 : Int32) = 0 then ((f_X12_w3 109 97 120).bind (fun r_29 => (f_X12_isWord v0 r_29).bind (fun r_30 => if (r_30 : Int32) = 0 then (if ((pX12_token v0) : Int32) = 40 then (f_X12_beginOne_b252 40 v0) else (if ((pX12_token v0) : Int32) = 45 then (f_X12_beginOne_b252 2 v0) else (f_X12_beginOne_b252 0 v0))) else (f_X12_beginOne_b252 42 v0)))) else (f_X12_beginOne_b252 41 v0)))) else (f_X12_beginOne_b152 v0)))) else (f_X12_beginOne_b152 v0)))) else ((f_X12_emit v0 30 0).bind (fun r_34 => (f_X12_nextToken r_34).bind (fun r_35 => (f_X12_whole r_35).bind (fun r_36 => some (0, r_36)))))))) else ((f_X12_letterOf v0).bind (fun r_37 => if ((((pX12_letters v0) >>> (r_37 &&& 31)) &&& 1) : Int32) = 0 then (some (5, v0)) else ((f_X12_letterOf v0).bind (fun r_39 => (f_X12_emit v0 1 r_39).bind (fun r_40 => (f_X12_nextToken r_40).bind (fun r_41 => (f_X12_whole r_41).bind (fun r_42 => some (0, r_42))))))))))
abbrev rm_X12_beginOne : Room := { frames := 4, cells := 0, slots := 0, locals := 85 }
set_option maxHeartbeats 4000000 in
set_option maxRecDepth 100000 in
theorem k_X12_beginOne {l : Launch} {D : va_G} {cI cJ cZ cY : ClassId} {tX tY : Nat} {sz : Nat} (a0 a0_a a0_image a0_texts a0_board a0_taken a0_fars a0_before a0_tape a0_pile a0_rows a0_told a0_values a0_truth a0_keeps : Nat) (v0 : BX12) (res : Int32 × BX12) (hg : f_X12_beginOne v0 = some res) : Met l yX12_beginOne (Cond.code yX12_beginOne cX12_beginOne 2 (some .int) :: TB) rm_X12_beginOne (PC D cI cJ cZ cY tX tY [.ref a0] (WS_X12_beginOne cI cJ cZ cY a0 a0_a a0_image a0_texts a0_board a0_taken a0_fars a0_before a0_tape a0_pile a0_rows a0_told a0_values a0_truth a0_keeps v0) sz) (va_Qi (fun (r : Int32) (u : BX12) => r = res.1 ∧ u = res.2) (BC D (fun u : BX12 => WS_X12_beginOne cI cJ cZ cY a0 a0_a a0_image a0_texts a0_board a0_taken a0_fars a0_before a0_tape a0_pile a0_rows a0_told a0_values a0_truth a0_keeps u) (va_A (WS_X12_beginOne cI cJ cZ cY a0 a0_a a0_image a0_texts a0_board a0_taken a0_fars a0_before a0_tape a0_pile a0_rows a0_told a0_values a0_truth a0_keeps v0) sz)) (va_A (WS_X12_beginOne cI cJ cZ cY a0 a0_a a0_image a0_texts a0_board a0_taken a0_fars a0_before a0_tape a0_pile a0_rows a0_told a0_values a0_truth a0_keeps v0) sz)) 0 0 (va_A (WS_X12_beginOne cI cJ cZ cY a0 a0_a a0_image a0_texts a0_board a0_taken a0_fars a0_before a0_tape a0_pile a0_rows a0_told a0_values a0_truth a0_keeps v0) sz) := by
  refine Met.ofW (cc := cX12_beginOne) (maxL := 2) (ret := (some .int)) (by decide) rfl ?_
  intro p e s m args below meth c s₁ B hml hv
  obtain ⟨hargs, hsz, hP, hK, hD0, hT⟩ := hv
  have hx := B.exec
  have hb := B.bytes
  have hr := B.returns
  have htb : ∀ w ∈ TB, w.before args s = true := fun w h => atoms_spec (ws := Cond.code yX12_beginOne cX12_beginOne 2 (some .int) :: TB) B.pre w (List.mem_cons_of_mem _ h)
  have hown : s.vm.findClass "ManyEyesModel" = some m.cls := findClass_of_methodNamed B.named
  have hlocks := B.notSynchronized
  subst hsz
  have hD := hD0.self (sz := s.heap.size)
  generalize hAe : va_A (WS_X12_beginOne cI cJ cZ cY a0 a0_a a0_image a0_texts a0_board a0_taken a0_fars a0_before a0_tape a0_pile a0_rows a0_told a0_values a0_truth a0_keeps v0) s.heap.size = A at hD hT ⊢
  have hA : ∀ q : Nat, s.heap.size ≤ q → A q := fun q h => by rw [← hAe]; exact Or.inr h
  have hS : va_S A s.heap s.heap [] := va_S.rf
  have hl := lv_entry ([.ref a0]) (n := 2) (Nat.le_of_ble_eq_true rfl)
  have he : entryFrame m args 2 = F0 m 0 (lg_sl ([.ref a0]) ++ List.replicate (2 - (lg_sl ([.ref a0])).length) Slot.unset).toArray [] := by rw [hargs, lg_entry_eq]
  rw [he]
  generalize (lg_sl ([.ref a0]) ++ List.replicate (2 - (lg_sl ([.ref a0])).length) Slot.unset).toArray = ls at hl ⊢
  have hl : lv_has ls 2 [(0, .ref a0)] := hl
  show W p l e rm_X12_beginOne s m args below meth c s.heap [] 0 0 _ _
  refine W.genQ (fun Q hQ => ?_)
  have b_280 : ∀ (x1 : Int32) (v0 : BX12) (H : Heap) (locs : List Loc) (ls : Array Slot), va_P D vwCl (WS_X12_beginOne cI cJ cZ cY a0 a0_a a0_image a0_texts a0_board a0_taken a0_fars a0_before a0_tape a0_pile a0_rows a0_told a0_values a0_truth a0_keeps v0) H → va_D A (WS_X12_beginOne cI cJ cZ cY a0 a0_a a0_image a0_texts a0_board a0_taken a0_fars a0_before a0_tape a0_pile a0_rows a0_told a0_values a0_truth a0_keeps v0) → va_S A s.heap H locs → lv_has ls 2 [(0, .ref a0), (1, .int x1)] → f_X12_beginOne_b280 x1 v0 = some res → W p l e rm_X12_beginOne s m args below meth c H locs 0 0 Q (F0 m 280 ls []) := by
    intro x1 v0 H locs ls hP hD hS hl hg
    unfold f_X12_beginOne_b280 at hg
    refine lv_aload_n hx hb dX12_beginOne_280 rfl (lv_at hl 0 rfl) ?_
    refine va_get (ci := 11) (v := .int (pX12_opens v0)) (C := RX12) (T := TX12) (N := 43) hx hb htb uX12 hown hK.1 hP 0 rfl rfl 25 (by decide) (htb _ tg_961) (fun _ h9 => h9) rfl dX12_beginOne_281 ?_
    refine lv_bipush (v := 8) hx hb dX12_beginOne_284 (by decide) ?_
    refine lv_icmp_ne (tgt := 291) hx hb dX12_beginOne_286 (by decide) (fun c_1 => ?_) (fun c_1 => ?_)
    · have hg := g_if hg c_1
      refine lv_aload_n hx hb dX12_beginOne_291 rfl (lv_at hl 0 rfl) ?_
      refine lv_dup hx hb dX12_beginOne_292 rfl ?_
      refine va_get (ci := 11) (v := .int (pX12_opens v0)) (C := RX12) (T := TX12) (N := 43) hx hb htb uX12 hown hK.1 hP 0 rfl rfl 25 (by decide) (htb _ tg_961) (fun _ h9 => h9) rfl dX12_beginOne_293 ?_
      refine lv_iconst (v := 1) hx hb dX12_beginOne_296 (by decide) ?_
      refine lv_iadd hx hb dX12_beginOne_297 ?_
      refine lv_topi (fun x_2 ex_2 => ?_)
      have hg := g_lte hg x_2 ex_2
      refine va_put (ci := 11) (v := .int x_2) (ty := .int) (C := RX12) (T := TX12) (N := 43) hx hb htb uX12 tyX12 tyX12_ok nmX12 hown hK.1 hP hD hS 0 rfl rfl 25 (by decide) (htb _ tg_961) (fun _ h9 => h9) rfl (by decide +kernel) rfl rfl (Nat.le_of_ble_eq_true rfl) dX12_beginOne_298 (fun H locs hP hD hS => ?_)
      obtain ⟨v0_3, ev0_3⟩ : ∃ z, z = sX12_opens v0 x_2 := ⟨_, rfl⟩
      have hP : va_P D vwCl (WS_X12_beginOne cI cJ cZ cY a0 a0_a a0_image a0_texts a0_board a0_taken a0_fars a0_before a0_tape a0_pile a0_rows a0_told a0_values a0_truth a0_keeps v0_3) H := by rw [ev0_3]; exact hP
      have hD : va_D A (WS_X12_beginOne cI cJ cZ cY a0 a0_a a0_image a0_texts a0_board a0_taken a0_fars a0_before a0_tape a0_pile a0_rows a0_told a0_values a0_truth a0_keeps v0_3) := by rw [ev0_3]; exact hD
      have hg := g_lte hg v0_3 ev0_3
      refine lv_aload_n hx hb dX12_beginOne_301 rfl (lv_at hl 0 rfl) ?_
      refine lv_iload_n hx hb dX12_beginOne_302 rfl (lv_at hl 1 rfl) ?_
      obtain ⟨r_4, hr_4, hg⟩ := g_bd hg
      refine cc_v (va_runV (C := RX12) (As := [.int x1]) (rest := []) ⟨hx, hb, hml, hown, htb⟩ (k_X12_push a0 a0_a a0_image a0_texts a0_board a0_taken a0_fars a0_before a0_tape a0_pile a0_rows a0_told a0_values a0_truth a0_keeps v0_3 x1 r_4 hr_4) (cw_V 1 htb tg_1276 tg_13 tg_1273 tg_1275 ts_56 rfl rfl (by decide +kernel) ⟨Nat.le_of_ble_eq_true rfl, Nat.le_of_ble_eq_true rfl⟩) ⟨PC.blind, va_recv hK.1 hP (ci := 11) (q0 := 0) rfl rfl, PC.pre hK hT hP hD hS hA [0, 1, 2, 3, 4, 5, 6, 7, 8, 9, 10, 11, 12, 13, 14] rfl (by decide)⟩ rfl rfl hl.1 rfl (lv_room (Nat.le_of_ble_eq_true rfl)) dX12_beginOne_303 ⟨Nat.le_of_ble_eq_true rfl, Nat.le_of_ble_eq_true rfl⟩) hP hD hS hA [0, 1, 2, 3, 4, 5, 6, 7, 8, 9, 10, 11, 12, 13, 14] [] rfl rfl (by decide) (by decide) (fun u9 H locs hw hP hD hS => ?_)
      have hw := hw.symm
      subst hw
      have hP : va_P D vwCl (WS_X12_beginOne cI cJ cZ cY a0 a0_a a0_image a0_texts a0_board a0_taken a0_fars a0_before a0_tape a0_pile a0_rows a0_told a0_values a0_truth a0_keeps r_4) H := hP.sub [0, 1, 2, 3, 4, 5, 6, 7, 8, 9, 10, 11, 12, 13, 14] rfl
      have hD : va_D A (WS_X12_beginOne cI cJ cZ cY a0 a0_a a0_image a0_texts a0_board a0_taken a0_fars a0_before a0_tape a0_pile a0_rows a0_told a0_values a0_truth a0_keeps r_4) := hD.sub [0, 1, 2, 3, 4, 5, 6, 7, 8, 9, 10, 11, 12, 13, 14] (by decide) rfl
      refine lv_aload_n hx hb dX12_beginOne_306 rfl (lv_at hl 0 rfl) ?_
      obtain ⟨r_5, hr_5, hg⟩ := g_bd hg
      refine cc_v (va_runV (C := RX12) (As := []) (rest := []) ⟨hx, hb, hml, hown, htb⟩ (k_X12_nextToken a0 a0_a a0_image a0_texts a0_board a0_taken a0_fars a0_before a0_tape a0_pile a0_rows a0_told a0_values a0_truth a0_keeps r_4 r_5 hr_5) (cw_V 0 htb tg_1204 tg_13 tg_1201 tg_1203 ts_42 rfl rfl (by decide +kernel) ⟨Nat.le_of_ble_eq_true rfl, Nat.le_of_ble_eq_true rfl⟩) ⟨PC.blind, va_recv hK.1 hP (ci := 11) (q0 := 0) rfl rfl, PC.pre hK hT hP hD hS hA [0, 1, 2, 3, 4, 5, 6, 7, 8, 9, 10, 11, 12, 13, 14] rfl (by decide)⟩ rfl rfl hl.1 rfl (lv_room (Nat.le_of_ble_eq_true rfl)) dX12_beginOne_307 ⟨Nat.le_of_ble_eq_true rfl, Nat.le_of_ble_eq_true rfl⟩) hP hD hS hA [0, 1, 2, 3, 4, 5, 6, 7, 8, 9, 10, 11, 12, 13, 14] [] rfl rfl (by decide) (by decide) (fun u9 H locs hw hP hD hS => ?_)
      have hw := hw.symm
      subst hw
      have hP : va_P D vwCl (WS_X12_beginOne cI cJ cZ cY a0 a0_a a0_image a0_texts a0_board a0_taken a0_fars a0_before a0_tape a0_pile a0_rows a0_told a0_values a0_truth a0_keeps r_5) H := hP.sub [0, 1, 2, 3, 4, 5, 6, 7, 8, 9, 10, 11, 12, 13, 14] rfl
      have hD : va_D A (WS_X12_beginOne cI cJ cZ cY a0 a0_a a0_image a0_texts a0_board a0_taken a0_fars a0_before a0_tape a0_pile a0_rows a0_told a0_values a0_truth a0_keeps r_5) := hD.sub [0, 1, 2, 3, 4, 5, 6, 7, 8, 9, 10, 11, 12, 13, 14] (by decide) rfl
      refine lv_iconst (v := 0) hx hb dX12_beginOne_310 (by decide) ?_
      have hg := Option.some.inj hg
      rw [hQ]
      exact W.iret (v := 0) hx hb hr (fun t ht hW => ⟨⟨0, (r_5), rfl, ⟨by rw [← hg], by rw [← hg]⟩, by rw [ht]; exact hP, hD⟩, hS.F ht⟩) hS.2.2 dX12_beginOne_311
    · have hg := g_it hg c_1
      refine lv_iconst (v := 3) hx hb dX12_beginOne_289 (by decide) ?_
      have hg := Option.some.inj hg
      rw [hQ]
      exact W.iret (v := 3) hx hb hr (fun t ht hW => ⟨⟨3, (v0), rfl, ⟨by rw [← hg], by rw [← hg]⟩, by rw [ht]; exact hP, hD⟩, hS.F ht⟩) hS.2.2 dX12_beginOne_290
  have b_252 : ∀ (t0 : Int32) (v0 : BX12) (H : Heap) (locs : List Loc) (ls : Array Slot), va_P D vwCl (WS_X12_beginOne cI cJ cZ cY a0 a0_a a0_image a0_texts a0_board a0_taken a0_fars a0_before a0_tape a0_pile a0_rows a0_told a0_values a0_truth a0_keeps v0) H → va_D A (WS_X12_beginOne cI cJ cZ cY a0 a0_a a0_image a0_texts a0_board a0_taken a0_fars a0_before a0_tape a0_pile a0_rows a0_told a0_values a0_truth a0_keeps v0) → va_S A s.heap H locs → lv_has ls 2 [(0, .ref a0)] → f_X12_beginOne_b252 t0 v0 = some res → W p l e rm_X12_beginOne s m args below meth c H locs 0 0 Q (F0 m 252 ls [.int t0]) := by
    intro t0 v0 H locs ls hP hD hS hl hg
    unfold f_X12_beginOne_b252 at hg
    refine lv_istore_n (lv' := [(1, .int t0), (0, .ref a0)]) hx hb dX12_beginOne_252 rfl hl (by decide) rfl (fun ls hl => ?_)
    refine lv_iload_n hx hb dX12_beginOne_253 rfl (lv_at hl 0 rfl) ?_
    refine lv_if_ne (tgt := 259) hx hb dX12_beginOne_254 (by decide) (fun c_6 => ?_) (fun c_6 => ?_)
    · have hg := g_if hg c_6
      refine lv_iload_n hx hb dX12_beginOne_259 rfl (lv_at hl 0 rfl) ?_
      refine lv_bipush (v := 40) hx hb dX12_beginOne_260 (by decide) ?_
      refine lv_icmp_le (tgt := 280) hx hb dX12_beginOne_262 (by decide) (fun c_7 => ?_) (fun c_7 => ?_)
      · have hg := g_it hg c_7
        exact b_280 t0 v0 H locs ls hP hD hS (lv_sub hl [1, 0] rfl) hg
      · have hg := g_if hg c_7
        refine lv_aload_n hx hb dX12_beginOne_265 rfl (lv_at hl 1 rfl) ?_
        obtain ⟨r_8, hr_8, hg⟩ := g_bd hg
        refine cc_v (va_runV (C := RX12) (As := []) (rest := []) ⟨hx, hb, hml, hown, htb⟩ (k_X12_nextToken a0 a0_a a0_image a0_texts a0_board a0_taken a0_fars a0_before a0_tape a0_pile a0_rows a0_told a0_values a0_truth a0_keeps v0 r_8 hr_8) (cw_V 0 htb tg_1204 tg_13 tg_1201 tg_1203 ts_42 rfl rfl (by decide +kernel) ⟨Nat.le_of_ble_eq_true rfl, Nat.le_of_ble_eq_true rfl⟩) ⟨PC.blind, va_recv hK.1 hP (ci := 11) (q0 := 0) rfl rfl, PC.pre hK hT hP hD hS hA [0, 1, 2, 3, 4, 5, 6, 7, 8, 9, 10, 11, 12, 13, 14] rfl (by decide)⟩ rfl rfl hl.1 rfl (lv_room (Nat.le_of_ble_eq_true rfl)) dX12_beginOne_266 ⟨Nat.le_of_ble_eq_true rfl, Nat.le_of_ble_eq_true rfl⟩) hP hD hS hA [0, 1, 2, 3, 4, 5, 6, 7, 8, 9, 10, 11, 12, 13, 14] [] rfl rfl (by decide) (by decide) (fun u9 H locs hw hP hD hS => ?_)
        have hw := hw.symm
        subst hw
        have hP : va_P D vwCl (WS_X12_beginOne cI cJ cZ cY a0 a0_a a0_image a0_texts a0_board a0_taken a0_fars a0_before a0_tape a0_pile a0_rows a0_told a0_values a0_truth a0_keeps r_8) H := hP.sub [0, 1, 2, 3, 4, 5, 6, 7, 8, 9, 10, 11, 12, 13, 14] rfl
        have hD : va_D A (WS_X12_beginOne cI cJ cZ cY a0 a0_a a0_image a0_texts a0_board a0_taken a0_fars a0_before a0_tape a0_pile a0_rows a0_told a0_values a0_truth a0_keeps r_8) := hD.sub [0, 1, 2, 3, 4, 5, 6, 7, 8, 9, 10, 11, 12, 13, 14] (by decide) rfl
        refine lv_aload_n hx hb dX12_beginOne_269 rfl (lv_at hl 1 rfl) ?_
        refine va_get (ci := 11) (v := .int (pX12_token r_8)) (C := RX12) (T := TX12) (N := 43) hx hb htb uX12 hown hK.1 hP 0 rfl rfl 15 (by decide) (htb _ tg_951) (fun _ h9 => h9) rfl dX12_beginOne_270 ?_
        refine lv_bipush (v := 40) hx hb dX12_beginOne_273 (by decide) ?_
        refine lv_icmp_eq (tgt := 280) hx hb dX12_beginOne_275 (by decide) (fun c_9 => ?_) (fun c_9 => ?_)
        · have hg := g_it hg c_9
          exact b_280 t0 r_8 H locs ls hP hD hS (lv_sub hl [1, 0] rfl) hg
        · have hg := g_if hg c_9
          refine lv_iconst (v := 1) hx hb dX12_beginOne_278 (by decide) ?_
          have hg := Option.some.inj hg
          rw [hQ]
          exact W.iret (v := 1) hx hb hr (fun t ht hW => ⟨⟨1, (r_8), rfl, ⟨by rw [← hg], by rw [← hg]⟩, by rw [ht]; exact hP, hD⟩, hS.F ht⟩) hS.2.2 dX12_beginOne_279
    · have hg := g_it hg c_6
      refine lv_iconst (v := 1) hx hb dX12_beginOne_257 (by decide) ?_
      have hg := Option.some.inj hg
      rw [hQ]
      exact W.iret (v := 1) hx hb hr (fun t ht hW => ⟨⟨1, (v0), rfl, ⟨by rw [← hg], by rw [← hg]⟩, by rw [ht]; exact hP, hD⟩, hS.F ht⟩) hS.2.2 dX12_beginOne_258
  have b_178 : ∀ (t1 : Int32) (v0 : BX12) (H : Heap) (locs : List Loc) (ls : Array Slot), va_P D vwCl (WS_X12_beginOne cI cJ cZ cY a0 a0_a a0_image a0_texts a0_board a0_taken a0_fars a0_before a0_tape a0_pile a0_rows a0_told a0_values a0_truth a0_keeps v0) H → va_D A (WS_X12_beginOne cI cJ cZ cY a0 a0_a a0_image a0_texts a0_board a0_taken a0_fars a0_before a0_tape a0_pile a0_rows a0_told a0_values a0_truth a0_keeps v0) → va_S A s.heap H locs → lv_has ls 2 [] → f_X12_beginOne_b178 t1 v0 = some res → W p l e rm_X12_beginOne s m args below meth c H locs 0 0 Q (F0 m 178 ls [.int t1, .ref a0]) := by
    intro t1 v0 H locs ls hP hD hS hl hg
    unfold f_X12_beginOne_b178 at hg
    obtain ⟨r_10, hr_10, hg⟩ := g_bd hg
    refine cc_i (va_runV (C := RX12) (As := [.int t1]) (rest := []) ⟨hx, hb, hml, hown, htb⟩ (k_X12_eye a0 a0_a a0_image a0_texts a0_board a0_taken a0_fars a0_before a0_tape a0_pile a0_rows a0_told a0_values a0_truth a0_keeps v0 t1 r_10 hr_10) (cw_V 1 htb tg_1288 tg_13 tg_1285 tg_1287 ts_59 rfl rfl (by decide +kernel) ⟨Nat.le_of_ble_eq_true rfl, Nat.le_of_ble_eq_true rfl⟩) ⟨PC.blind, va_recv hK.1 hP (ci := 11) (q0 := 0) rfl rfl, PC.pre hK hT hP hD hS hA [0, 1, 2, 3, 4, 5, 6, 7, 8, 9, 10, 11, 12, 13, 14] rfl (by decide)⟩ rfl rfl hl.1 rfl (lv_room (Nat.le_of_ble_eq_true rfl)) dX12_beginOne_178 ⟨Nat.le_of_ble_eq_true rfl, Nat.le_of_ble_eq_true rfl⟩) hP hD hS hA [0, 1, 2, 3, 4, 5, 6, 7, 8, 9, 10, 11, 12, 13, 14] [] rfl rfl (by decide) (by decide) (fun r9 u9 H locs hw hP hD hS => ?_)
    obtain ⟨rfl, rfl⟩ := hw
    have hP : va_P D vwCl (WS_X12_beginOne cI cJ cZ cY a0 a0_a a0_image a0_texts a0_board a0_taken a0_fars a0_before a0_tape a0_pile a0_rows a0_told a0_values a0_truth a0_keeps r_10.2) H := hP.sub [0, 1, 2, 3, 4, 5, 6, 7, 8, 9, 10, 11, 12, 13, 14] rfl
    have hD : va_D A (WS_X12_beginOne cI cJ cZ cY a0 a0_a a0_image a0_texts a0_board a0_taken a0_fars a0_before a0_tape a0_pile a0_rows a0_told a0_values a0_truth a0_keeps r_10.2) := hD.sub [0, 1, 2, 3, 4, 5, 6, 7, 8, 9, 10, 11, 12, 13, 14] (by decide) rfl
    have hg := Option.some.inj hg
    rw [hQ]
    exact W.iret (v := r_10.1) hx hb hr (fun t ht hW => ⟨⟨r_10.1, (r_10.2), rfl, ⟨by rw [← hg], by rw [← hg]⟩, by rw [ht]; exact hP, hD⟩, hS.F ht⟩) hS.2.2 dX12_beginOne_181
  have b_152 : ∀ (v0 : BX12) (H : Heap) (locs : List Loc) (ls : Array Slot), va_P D vwCl (WS_X12_beginOne cI cJ cZ cY a0 a0_a a0_image a0_texts a0_board a0_taken a0_fars a0_before a0_tape a0_pile a0_rows a0_told a0_values a0_truth a0_keeps v0) H → va_D A (WS_X12_beginOne cI cJ cZ cY a0 a0_a a0_image a0_texts a0_board a0_taken a0_fars a0_before a0_tape a0_pile a0_rows a0_told a0_values a0_truth a0_keeps v0) → va_S A s.heap H locs → lv_has ls 2 [(0, .ref a0)] → f_X12_beginOne_b152 v0 = some res → W p l e rm_X12_beginOne s m args below meth c H locs 0 0 Q (F0 m 152 ls []) := by
    intro v0 H locs ls hP hD hS hl hg
    unfold f_X12_beginOne_b152 at hg
    refine lv_aload_n hx hb dX12_beginOne_152 rfl (lv_at hl 0 rfl) ?_
    refine lv_aload_n hx hb dX12_beginOne_153 rfl (lv_at hl 0 rfl) ?_
    refine lv_bipush (v := 108) hx hb dX12_beginOne_154 (by decide) ?_
    refine lv_bipush (v := 101) hx hb dX12_beginOne_156 (by decide) ?_
    refine lv_bipush (v := 110) hx hb dX12_beginOne_158 (by decide) ?_
    refine lv_bipush (v := 115) hx hb dX12_beginOne_160 (by decide) ?_
    obtain ⟨r_11, hr_11, hg⟩ := g_bd hg
    refine cc_l (va_runS (As := [.int 108, .int 101, .int 110, .int 115]) (rest := [.ref a0, .ref a0]) ⟨hx, hb, hml, hown, htb⟩ (k_X12_w4 108 101 110 115 r_11 hr_11) (cw_S 4 htb tg_1229 tg_13 tg_1227 tg_1228 rfl rfl (by decide +kernel) ⟨Nat.le_of_ble_eq_true rfl, Nat.le_of_ble_eq_true rfl⟩) ⟨PC.blind, PC.pre hK hT hP hD hS hA [] rfl (by decide)⟩ rfl rfl hl.1 rfl (lv_room (Nat.le_of_ble_eq_true rfl)) dX12_beginOne_162 ⟨Nat.le_of_ble_eq_true rfl, Nat.le_of_ble_eq_true rfl⟩) hP hD hS hA [] [0, 1, 2, 3, 4, 5, 6, 7, 8, 9, 10, 11, 12, 13, 14] rfl rfl (by decide) (by decide) (fun r9 u9 H locs hw hP hD hS => ?_)
    have hw := hw.symm
    subst hw
    have hP : va_P D vwCl (WS_X12_beginOne cI cJ cZ cY a0 a0_a a0_image a0_texts a0_board a0_taken a0_fars a0_before a0_tape a0_pile a0_rows a0_told a0_values a0_truth a0_keeps v0) H := hP.sub [0, 1, 2, 3, 4, 5, 6, 7, 8, 9, 10, 11, 12, 13, 14] rfl
    have hD : va_D A (WS_X12_beginOne cI cJ cZ cY a0 a0_a a0_image a0_texts a0_board a0_taken a0_fars a0_before a0_tape a0_pile a0_rows a0_told a0_values a0_truth a0_keeps v0) := hD.sub [0, 1, 2, 3, 4, 5, 6, 7, 8, 9, 10, 11, 12, 13, 14] (by decide) rfl
    obtain ⟨r_12, hr_12, hg⟩ := g_bd hg
    refine cc_i (va_runV (C := RX12) (As := [.long r_11]) (rest := [.ref a0]) ⟨hx, hb, hml, hown, htb⟩ (k_X12_isWord a0 a0_a a0_image a0_texts a0_board a0_taken a0_fars a0_before a0_tape a0_pile a0_rows a0_told a0_values a0_truth a0_keeps v0 r_11 r_12 hr_12) (cw_V 1 htb tg_1248 tg_13 tg_1245 tg_1247 ts_49 rfl rfl (by decide +kernel) ⟨Nat.le_of_ble_eq_true rfl, Nat.le_of_ble_eq_true rfl⟩) ⟨PC.blind, va_recv hK.1 hP (ci := 11) (q0 := 0) rfl rfl, PC.pre hK hT hP hD hS hA [0, 1, 2, 3, 4, 5, 6, 7, 8, 9, 10, 11, 12, 13, 14] rfl (by decide)⟩ rfl rfl hl.1 rfl (lv_room (Nat.le_of_ble_eq_true rfl)) dX12_beginOne_165 ⟨Nat.le_of_ble_eq_true rfl, Nat.le_of_ble_eq_true rfl⟩) hP hD hS hA [0, 1, 2, 3, 4, 5, 6, 7, 8, 9, 10, 11, 12, 13, 14] [] rfl rfl (by decide) (by decide) (fun r9 u9 H locs hw hP hD hS => ?_)
    have hw := hw.symm
    subst hw
    have hP : va_P D vwCl (WS_X12_beginOne cI cJ cZ cY a0 a0_a a0_image a0_texts a0_board a0_taken a0_fars a0_before a0_tape a0_pile a0_rows a0_told a0_values a0_truth a0_keeps v0) H := hP.sub [0, 1, 2, 3, 4, 5, 6, 7, 8, 9, 10, 11, 12, 13, 14] rfl
    have hD : va_D A (WS_X12_beginOne cI cJ cZ cY a0 a0_a a0_image a0_texts a0_board a0_taken a0_fars a0_before a0_tape a0_pile a0_rows a0_told a0_values a0_truth a0_keeps v0) := hD.sub [0, 1, 2, 3, 4, 5, 6, 7, 8, 9, 10, 11, 12, 13, 14] (by decide) rfl
    refine lv_if_eq (tgt := 176) hx hb dX12_beginOne_168 (by decide) (fun c_13 => ?_) (fun c_13 => ?_)
    · have hg := g_it hg c_13
      refine lv_bipush (v := 32) hx hb dX12_beginOne_176 (by decide) ?_
      exact b_178 32 v0 H locs ls hP hD hS (lv_sub hl [] rfl) hg
    · have hg := g_if hg c_13
      refine lv_bipush (v := 31) hx hb dX12_beginOne_171 (by decide) ?_
      refine lv_goto (tgt := 178) hx hb dX12_beginOne_173 (by decide) ?_
      exact b_178 31 v0 H locs ls hP hD hS (lv_sub hl [] rfl) hg
  generalize hHe : s.heap = H at hP ⊢
  have hS : va_S A s.heap H [] := by rw [← hHe]; exact va_S.rf
  generalize ([] : List Loc) = locs at hS ⊢
  unfold f_X12_beginOne at hg
  refine lv_aload_n hx hb dX12_beginOne_0 rfl (lv_at hl 0 rfl) ?_
  refine va_get (ci := 11) (v := .int (pX12_token v0)) (C := RX12) (T := TX12) (N := 43) hx hb htb uX12 hown hK.1 hP 0 rfl rfl 15 (by decide) (htb _ tg_951) (fun _ h9 => h9) rfl dX12_beginOne_1 ?_
  refine lv_iconst (v := 1) hx hb dX12_beginOne_4 (by decide) ?_
  refine lv_icmp_ne (tgt := 39) hx hb dX12_beginOne_5 (by decide) (fun c_14 => ?_) (fun c_14 => ?_)
  · have hg := g_if hg c_14
    refine lv_aload_n hx hb dX12_beginOne_39 rfl (lv_at hl 0 rfl) ?_
    obtain ⟨r_15, hr_15, hg⟩ := g_bd hg
    refine cc_i (va_runV (C := RX12) (As := []) (rest := []) ⟨hx, hb, hml, hown, htb⟩ (k_X12_letterOf a0 a0_a a0_image a0_texts a0_board a0_taken a0_fars a0_before a0_tape a0_pile a0_rows a0_told a0_values a0_truth a0_keeps v0 r_15 hr_15) (cw_V 0 htb tg_1234 tg_13 tg_1231 tg_1233 ts_46 rfl rfl (by decide +kernel) ⟨Nat.le_of_ble_eq_true rfl, Nat.le_of_ble_eq_true rfl⟩) ⟨PC.blind, va_recv hK.1 hP (ci := 11) (q0 := 0) rfl rfl, PC.pre hK hT hP hD hS hA [0, 1, 2, 3, 4, 5, 6, 7, 8, 9, 10, 11, 12, 13, 14] rfl (by decide)⟩ rfl rfl hl.1 rfl (lv_room (Nat.le_of_ble_eq_true rfl)) dX12_beginOne_40 ⟨Nat.le_of_ble_eq_true rfl, Nat.le_of_ble_eq_true rfl⟩) hP hD hS hA [0, 1, 2, 3, 4, 5, 6, 7, 8, 9, 10, 11, 12, 13, 14] [] rfl rfl (by decide) (by decide) (fun r9 u9 H locs hw hP hD hS => ?_)
    have hw := hw.symm
    subst hw
    have hP : va_P D vwCl (WS_X12_beginOne cI cJ cZ cY a0 a0_a a0_image a0_texts a0_board a0_taken a0_fars a0_before a0_tape a0_pile a0_rows a0_told a0_values a0_truth a0_keeps v0) H := hP.sub [0, 1, 2, 3, 4, 5, 6, 7, 8, 9, 10, 11, 12, 13, 14] rfl
    have hD : va_D A (WS_X12_beginOne cI cJ cZ cY a0 a0_a a0_image a0_texts a0_board a0_taken a0_fars a0_before a0_tape a0_pile a0_rows a0_told a0_values a0_truth a0_keeps v0) := hD.sub [0, 1, 2, 3, 4, 5, 6, 7, 8, 9, 10, 11, 12, 13, 14] (by decide) rfl
    refine lv_if_lt (tgt := 81) hx hb dX12_beginOne_43 (by decide) (fun c_16 => ?_) (fun c_16 => ?_)
    · have hg := g_it hg c_16
      refine lv_aload_n hx hb dX12_beginOne_81 rfl (lv_at hl 0 rfl) ?_
      refine lv_bipush (v := 116) hx hb dX12_beginOne_82 (by decide) ?_
      refine lv_bipush (v := 105) hx hb dX12_beginOne_84 (by decide) ?_
      refine lv_bipush (v := 99) hx hb dX12_beginOne_86 (by decide) ?_
      refine lv_bipush (v := 107) hx hb dX12_beginOne_88 (by decide) ?_
      obtain ⟨r_17, hr_17, hg⟩ := g_bd hg
      refine cc_l (va_runS (As := [.int 116, .int 105, .int 99, .int 107]) (rest := [.ref a0]) ⟨hx, hb, hml, hown, htb⟩ (k_X12_w4 116 105 99 107 r_17 hr_17) (cw_S 4 htb tg_1229 tg_13 tg_1227 tg_1228 rfl rfl (by decide +kernel) ⟨Nat.le_of_ble_eq_true rfl, Nat.le_of_ble_eq_true rfl⟩) ⟨PC.blind, PC.pre hK hT hP hD hS hA [] rfl (by decide)⟩ rfl rfl hl.1 rfl (lv_room (Nat.le_of_ble_eq_true rfl)) dX12_beginOne_90 ⟨Nat.le_of_ble_eq_true rfl, Nat.le_of_ble_eq_true rfl⟩) hP hD hS hA [] [0, 1, 2, 3, 4, 5, 6, 7, 8, 9, 10, 11, 12, 13, 14] rfl rfl (by decide) (by decide) (fun r9 u9 H locs hw hP hD hS => ?_)
      have hw := hw.symm
      subst hw
      have hP : va_P D vwCl (WS_X12_beginOne cI cJ cZ cY a0 a0_a a0_image a0_texts a0_board a0_taken a0_fars a0_before a0_tape a0_pile a0_rows a0_told a0_values a0_truth a0_keeps v0) H := hP.sub [0, 1, 2, 3, 4, 5, 6, 7, 8, 9, 10, 11, 12, 13, 14] rfl
      have hD : va_D A (WS_X12_beginOne cI cJ cZ cY a0 a0_a a0_image a0_texts a0_board a0_taken a0_fars a0_before a0_tape a0_pile a0_rows a0_told a0_values a0_truth a0_keeps v0) := hD.sub [0, 1, 2, 3, 4, 5, 6, 7, 8, 9, 10, 11, 12, 13, 14] (by decide) rfl
      obtain ⟨r_18, hr_18, hg⟩ := g_bd hg
      refine cc_i (va_runV (C := RX12) (As := [.long r_17]) (rest := []) ⟨hx, hb, hml, hown, htb⟩ (k_X12_isWord a0 a0_a a0_image a0_texts a0_board a0_taken a0_fars a0_before a0_tape a0_pile a0_rows a0_told a0_values a0_truth a0_keeps v0 r_17 r_18 hr_18) (cw_V 1 htb tg_1248 tg_13 tg_1245 tg_1247 ts_49 rfl rfl (by decide +kernel) ⟨Nat.le_of_ble_eq_true rfl, Nat.le_of_ble_eq_true rfl⟩) ⟨PC.blind, va_recv hK.1 hP (ci := 11) (q0 := 0) rfl rfl, PC.pre hK hT hP hD hS hA [0, 1, 2, 3, 4, 5, 6, 7, 8, 9, 10, 11, 12, 13, 14] rfl (by decide)⟩ rfl rfl hl.1 rfl (lv_room (Nat.le_of_ble_eq_true rfl)) dX12_beginOne_93 ⟨Nat.le_of_ble_eq_true rfl, Nat.le_of_ble_eq_true rfl⟩) hP hD hS hA [0, 1, 2, 3, 4, 5, 6, 7, 8, 9, 10, 11, 12, 13, 14] [] rfl rfl (by decide) (by decide) (fun r9 u9 H locs hw hP hD hS => ?_)
      have hw := hw.symm
      subst hw
      have hP : va_P D vwCl (WS_X12_beginOne cI cJ cZ cY a0 a0_a a0_image a0_texts a0_board a0_taken a0_fars a0_before a0_tape a0_pile a0_rows a0_told a0_values a0_truth a0_keeps v0) H := hP.sub [0, 1, 2, 3, 4, 5, 6, 7, 8, 9, 10, 11, 12, 13, 14] rfl
      have hD : va_D A (WS_X12_beginOne cI cJ cZ cY a0 a0_a a0_image a0_texts a0_board a0_taken a0_fars a0_before a0_tape a0_pile a0_rows a0_told a0_values a0_truth a0_keeps v0) := hD.sub [0, 1, 2, 3, 4, 5, 6, 7, 8, 9, 10, 11, 12, 13, 14] (by decide) rfl
      refine lv_if_eq (tgt := 116) hx hb dX12_beginOne_96 (by decide) (fun c_19 => ?_) (fun c_19 => ?_)
      · have hg := g_it hg c_19
        refine lv_aload_n hx hb dX12_beginOne_116 rfl (lv_at hl 0 rfl) ?_
        refine lv_bipush (v := 108) hx hb dX12_beginOne_117 (by decide) ?_
        refine lv_bipush (v := 101) hx hb dX12_beginOne_119 (by decide) ?_
        refine lv_bipush (v := 110) hx hb dX12_beginOne_121 (by decide) ?_
        refine lv_bipush (v := 115) hx hb dX12_beginOne_123 (by decide) ?_
        obtain ⟨r_20, hr_20, hg⟩ := g_bd hg
        refine cc_l (va_runS (As := [.int 108, .int 101, .int 110, .int 115]) (rest := [.ref a0]) ⟨hx, hb, hml, hown, htb⟩ (k_X12_w4 108 101 110 115 r_20 hr_20) (cw_S 4 htb tg_1229 tg_13 tg_1227 tg_1228 rfl rfl (by decide +kernel) ⟨Nat.le_of_ble_eq_true rfl, Nat.le_of_ble_eq_true rfl⟩) ⟨PC.blind, PC.pre hK hT hP hD hS hA [] rfl (by decide)⟩ rfl rfl hl.1 rfl (lv_room (Nat.le_of_ble_eq_true rfl)) dX12_beginOne_125 ⟨Nat.le_of_ble_eq_true rfl, Nat.le_of_ble_eq_true rfl⟩) hP hD hS hA [] [0, 1, 2, 3, 4, 5, 6, 7, 8, 9, 10, 11, 12, 13, 14] rfl rfl (by decide) (by decide) (fun r9 u9 H locs hw hP hD hS => ?_)
        have hw := hw.symm
        subst hw
        have hP : va_P D vwCl (WS_X12_beginOne cI cJ cZ cY a0 a0_a a0_image a0_texts a0_board a0_taken a0_fars a0_before a0_tape a0_pile a0_rows a0_told a0_values a0_truth a0_keeps v0) H := hP.sub [0, 1, 2, 3, 4, 5, 6, 7, 8, 9, 10, 11, 12, 13, 14] rfl
        have hD : va_D A (WS_X12_beginOne cI cJ cZ cY a0 a0_a a0_image a0_texts a0_board a0_taken a0_fars a0_before a0_tape a0_pile a0_rows a0_told a0_values a0_truth a0_keeps v0) := hD.sub [0, 1, 2, 3, 4, 5, 6, 7, 8, 9, 10, 11, 12, 13, 14] (by decide) rfl
        obtain ⟨r_21, hr_21, hg⟩ := g_bd hg
        refine cc_i (va_runV (C := RX12) (As := [.long r_20]) (rest := []) ⟨hx, hb, hml, hown, htb⟩ (k_X12_isWord a0 a0_a a0_image a0_texts a0_board a0_taken a0_fars a0_before a0_tape a0_pile a0_rows a0_told a0_values a0_truth a0_keeps v0 r_20 r_21 hr_21) (cw_V 1 htb tg_1248 tg_13 tg_1245 tg_1247 ts_49 rfl rfl (by decide +kernel) ⟨Nat.le_of_ble_eq_true rfl, Nat.le_of_ble_eq_true rfl⟩) ⟨PC.blind, va_recv hK.1 hP (ci := 11) (q0 := 0) rfl rfl, PC.pre hK hT hP hD hS hA [0, 1, 2, 3, 4, 5, 6, 7, 8, 9, 10, 11, 12, 13, 14] rfl (by decide)⟩ rfl rfl hl.1 rfl (lv_room (Nat.le_of_ble_eq_true rfl)) dX12_beginOne_128 ⟨Nat.le_of_ble_eq_true rfl, Nat.le_of_ble_eq_true rfl⟩) hP hD hS hA [0, 1, 2, 3, 4, 5, 6, 7, 8, 9, 10, 11, 12, 13, 14] [] rfl rfl (by decide) (by decide) (fun r9 u9 H locs hw hP hD hS => ?_)
        have hw := hw.symm
        subst hw
        have hP : va_P D vwCl (WS_X12_beginOne cI cJ cZ cY a0 a0_a a0_image a0_texts a0_board a0_taken a0_fars a0_before a0_tape a0_pile a0_rows a0_told a0_values a0_truth a0_keeps v0) H := hP.sub [0, 1, 2, 3, 4, 5, 6, 7, 8, 9, 10, 11, 12, 13, 14] rfl
        have hD : va_D A (WS_X12_beginOne cI cJ cZ cY a0 a0_a a0_image a0_texts a0_board a0_taken a0_fars a0_before a0_tape a0_pile a0_rows a0_told a0_values a0_truth a0_keeps v0) := hD.sub [0, 1, 2, 3, 4, 5, 6, 7, 8, 9, 10, 11, 12, 13, 14] (by decide) rfl
        refine lv_if_ne (tgt := 152) hx hb dX12_beginOne_131 (by decide) (fun c_22 => ?_) (fun c_22 => ?_)
        · have hg := g_if hg c_22
          exact b_152 v0 H locs ls hP hD hS (lv_sub hl [0] rfl) hg
        · have hg := g_it hg c_22
          refine lv_aload_n hx hb dX12_beginOne_134 rfl (lv_at hl 0 rfl) ?_
          refine lv_bipush (v := 112) hx hb dX12_beginOne_135 (by decide) ?_
          refine lv_bipush (v := 97) hx hb dX12_beginOne_137 (by decide) ?_
          refine lv_bipush (v := 105) hx hb dX12_beginOne_139 (by decide) ?_
          refine lv_bipush (v := 114) hx hb dX12_beginOne_141 (by decide) ?_
          obtain ⟨r_23, hr_23, hg⟩ := g_bd hg
          refine cc_l (va_runS (As := [.int 112, .int 97, .int 105, .int 114]) (rest := [.ref a0]) ⟨hx, hb, hml, hown, htb⟩ (k_X12_w4 112 97 105 114 r_23 hr_23) (cw_S 4 htb tg_1229 tg_13 tg_1227 tg_1228 rfl rfl (by decide +kernel) ⟨Nat.le_of_ble_eq_true rfl, Nat.le_of_ble_eq_true rfl⟩) ⟨PC.blind, PC.pre hK hT hP hD hS hA [] rfl (by decide)⟩ rfl rfl hl.1 rfl (lv_room (Nat.le_of_ble_eq_true rfl)) dX12_beginOne_143 ⟨Nat.le_of_ble_eq_true rfl, Nat.le_of_ble_eq_true rfl⟩) hP hD hS hA [] [0, 1, 2, 3, 4, 5, 6, 7, 8, 9, 10, 11, 12, 13, 14] rfl rfl (by decide) (by decide) (fun r9 u9 H locs hw hP hD hS => ?_)
          have hw := hw.symm
          subst hw
          have hP : va_P D vwCl (WS_X12_beginOne cI cJ cZ cY a0 a0_a a0_image a0_texts a0_board a0_taken a0_fars a0_before a0_tape a0_pile a0_rows a0_told a0_values a0_truth a0_keeps v0) H := hP.sub [0, 1, 2, 3, 4, 5, 6, 7, 8, 9, 10, 11, 12, 13, 14] rfl
          have hD : va_D A (WS_X12_beginOne cI cJ cZ cY a0 a0_a a0_image a0_texts a0_board a0_taken a0_fars a0_before a0_tape a0_pile a0_rows a0_told a0_values a0_truth a0_keeps v0) := hD.sub [0, 1, 2, 3, 4, 5, 6, 7, 8, 9, 10, 11, 12, 13, 14] (by decide) rfl
          obtain ⟨r_24, hr_24, hg⟩ := g_bd hg
          refine cc_i (va_runV (C := RX12) (As := [.long r_23]) (rest := []) ⟨hx, hb, hml, hown, htb⟩ (k_X12_isWord a0 a0_a a0_image a0_texts a0_board a0_taken a0_fars a0_before a0_tape a0_pile a0_rows a0_told a0_values a0_truth a0_keeps v0 r_23 r_24 hr_24) (cw_V 1 htb tg_1248 tg_13 tg_1245 tg_1247 ts_49 rfl rfl (by decide +kernel) ⟨Nat.le_of_ble_eq_true rfl, Nat.le_of_ble_eq_true rfl⟩) ⟨PC.blind, va_recv hK.1 hP (ci := 11) (q0 := 0) rfl rfl, PC.pre hK hT hP hD hS hA [0, 1, 2, 3, 4, 5, 6, 7, 8, 9, 10, 11, 12, 13, 14] rfl (by decide)⟩ rfl rfl hl.1 rfl (lv_room (Nat.le_of_ble_eq_true rfl)) dX12_beginOne_146 ⟨Nat.le_of_ble_eq_true rfl, Nat.le_of_ble_eq_true rfl⟩) hP hD hS hA [0, 1, 2, 3, 4, 5, 6, 7, 8, 9, 10, 11, 12, 13, 14] [] rfl rfl (by decide) (by decide) (fun r9 u9 H locs hw hP hD hS => ?_)
          have hw := hw.symm
          subst hw
          have hP : va_P D vwCl (WS_X12_beginOne cI cJ cZ cY a0 a0_a a0_image a0_texts a0_board a0_taken a0_fars a0_before a0_tape a0_pile a0_rows a0_told a0_values a0_truth a0_keeps v0) H := hP.sub [0, 1, 2, 3, 4, 5, 6, 7, 8, 9, 10, 11, 12, 13, 14] rfl
          have hD : va_D A (WS_X12_beginOne cI cJ cZ cY a0 a0_a a0_image a0_texts a0_board a0_taken a0_fars a0_before a0_tape a0_pile a0_rows a0_told a0_values a0_truth a0_keeps v0) := hD.sub [0, 1, 2, 3, 4, 5, 6, 7, 8, 9, 10, 11, 12, 13, 14] (by decide) rfl
          refine lv_if_eq (tgt := 182) hx hb dX12_beginOne_149 (by decide) (fun c_25 => ?_) (fun c_25 => ?_)
          · have hg := g_it hg c_25
            refine lv_aload_n hx hb dX12_beginOne_182 rfl (lv_at hl 0 rfl) ?_
            refine lv_bipush (v := 109) hx hb dX12_beginOne_183 (by decide) ?_
            refine lv_bipush (v := 105) hx hb dX12_beginOne_185 (by decide) ?_
            refine lv_bipush (v := 110) hx hb dX12_beginOne_187 (by decide) ?_
            obtain ⟨r_26, hr_26, hg⟩ := g_bd hg
            refine cc_l (va_runS (As := [.int 109, .int 105, .int 110]) (rest := [.ref a0]) ⟨hx, hb, hml, hown, htb⟩ (k_X12_w3 109 105 110 r_26 hr_26) (cw_S 3 htb tg_1226 tg_13 tg_1224 tg_1225 rfl rfl (by decide +kernel) ⟨Nat.le_of_ble_eq_true rfl, Nat.le_of_ble_eq_true rfl⟩) ⟨PC.blind, PC.pre hK hT hP hD hS hA [] rfl (by decide)⟩ rfl rfl hl.1 rfl (lv_room (Nat.le_of_ble_eq_true rfl)) dX12_beginOne_189 ⟨Nat.le_of_ble_eq_true rfl, Nat.le_of_ble_eq_true rfl⟩) hP hD hS hA [] [0, 1, 2, 3, 4, 5, 6, 7, 8, 9, 10, 11, 12, 13, 14] rfl rfl (by decide) (by decide) (fun r9 u9 H locs hw hP hD hS => ?_)
            have hw := hw.symm
            subst hw
            have hP : va_P D vwCl (WS_X12_beginOne cI cJ cZ cY a0 a0_a a0_image a0_texts a0_board a0_taken a0_fars a0_before a0_tape a0_pile a0_rows a0_told a0_values a0_truth a0_keeps v0) H := hP.sub [0, 1, 2, 3, 4, 5, 6, 7, 8, 9, 10, 11, 12, 13, 14] rfl
            have hD : va_D A (WS_X12_beginOne cI cJ cZ cY a0 a0_a a0_image a0_texts a0_board a0_taken a0_fars a0_before a0_tape a0_pile a0_rows a0_told a0_values a0_truth a0_keeps v0) := hD.sub [0, 1, 2, 3, 4, 5, 6, 7, 8, 9, 10, 11, 12, 13, 14] (by decide) rfl
            obtain ⟨r_27, hr_27, hg⟩ := g_bd hg
            refine cc_i (va_runV (C := RX12) (As := [.long r_26]) (rest := []) ⟨hx, hb, hml, hown, htb⟩ (k_X12_isWord a0 a0_a a0_image a0_texts a0_board a0_taken a0_fars a0_before a0_tape a0_pile a0_rows a0_told a0_values a0_truth a0_keeps v0 r_26 r_27 hr_27) (cw_V 1 htb tg_1248 tg_13 tg_1245 tg_1247 ts_49 rfl rfl (by decide +kernel) ⟨Nat.le_of_ble_eq_true rfl, Nat.le_of_ble_eq_true rfl⟩) ⟨PC.blind, va_recv hK.1 hP (ci := 11) (q0 := 0) rfl rfl, PC.pre hK hT hP hD hS hA [0, 1, 2, 3, 4, 5, 6, 7, 8, 9, 10, 11, 12, 13, 14] rfl (by decide)⟩ rfl rfl hl.1 rfl (lv_room (Nat.le_of_ble_eq_true rfl)) dX12_beginOne_192 ⟨Nat.le_of_ble_eq_true rfl, Nat.le_of_ble_eq_true rfl⟩) hP hD hS hA [0, 1, 2, 3, 4, 5, 6, 7, 8, 9, 10, 11, 12, 13, 14] [] rfl rfl (by decide) (by decide) (fun r9 u9 H locs hw hP hD hS => ?_)
            have hw := hw.symm
            subst hw
            have hP : va_P D vwCl (WS_X12_beginOne cI cJ cZ cY a0 a0_a a0_image a0_texts a0_board a0_taken a0_fars a0_before a0_tape a0_pile a0_rows a0_told a0_values a0_truth a0_keeps v0) H := hP.sub [0, 1, 2, 3, 4, 5, 6, 7, 8, 9, 10, 11, 12, 13, 14] rfl
            have hD : va_D A (WS_X12_beginOne cI cJ cZ cY a0 a0_a a0_image a0_texts a0_board a0_taken a0_fars a0_before a0_tape a0_pile a0_rows a0_told a0_values a0_truth a0_keeps v0) := hD.sub [0, 1, 2, 3, 4, 5, 6, 7, 8, 9, 10, 11, 12, 13, 14] (by decide) rfl
            refine lv_if_eq (tgt := 203) hx hb dX12_beginOne_195 (by decide) (fun c_28 => ?_) (fun c_28 => ?_)
            · have hg := g_it hg c_28
              refine lv_aload_n hx hb dX12_beginOne_203 rfl (lv_at hl 0 rfl) ?_
              refine lv_bipush (v := 109) hx hb dX12_beginOne_204 (by decide) ?_
              refine lv_bipush (v := 97) hx hb dX12_beginOne_206 (by decide) ?_
              refine lv_bipush (v := 120) hx hb dX12_beginOne_208 (by decide) ?_
              obtain ⟨r_29, hr_29, hg⟩ := g_bd hg
              refine cc_l (va_runS (As := [.int 109, .int 97, .int 120]) (rest := [.ref a0]) ⟨hx, hb, hml, hown, htb⟩ (k_X12_w3 109 97 120 r_29 hr_29) (cw_S 3 htb tg_1226 tg_13 tg_1224 tg_1225 rfl rfl (by decide +kernel) ⟨Nat.le_of_ble_eq_true rfl, Nat.le_of_ble_eq_true rfl⟩) ⟨PC.blind, PC.pre hK hT hP hD hS hA [] rfl (by decide)⟩ rfl rfl hl.1 rfl (lv_room (Nat.le_of_ble_eq_true rfl)) dX12_beginOne_210 ⟨Nat.le_of_ble_eq_true rfl, Nat.le_of_ble_eq_true rfl⟩) hP hD hS hA [] [0, 1, 2, 3, 4, 5, 6, 7, 8, 9, 10, 11, 12, 13, 14] rfl rfl (by decide) (by decide) (fun r9 u9 H locs hw hP hD hS => ?_)
              have hw := hw.symm
              subst hw
              have hP : va_P D vwCl (WS_X12_beginOne cI cJ cZ cY a0 a0_a a0_image a0_texts a0_board a0_taken a0_fars a0_before a0_tape a0_pile a0_rows a0_told a0_values a0_truth a0_keeps v0) H := hP.sub [0, 1, 2, 3, 4, 5, 6, 7, 8, 9, 10, 11, 12, 13, 14] rfl
              have hD : va_D A (WS_X12_beginOne cI cJ cZ cY a0 a0_a a0_image a0_texts a0_board a0_taken a0_fars a0_before a0_tape a0_pile a0_rows a0_told a0_values a0_truth a0_keeps v0) := hD.sub [0, 1, 2, 3, 4, 5, 6, 7, 8, 9, 10, 11, 12, 13, 14] (by decide) rfl
              obtain ⟨r_30, hr_30, hg⟩ := g_bd hg
              refine cc_i (va_runV (C := RX12) (As := [.long r_29]) (rest := []) ⟨hx, hb, hml, hown, htb⟩ (k_X12_isWord a0 a0_a a0_image a0_texts a0_board a0_taken a0_fars a0_before a0_tape a0_pile a0_rows a0_told a0_values a0_truth a0_keeps v0 r_29 r_30 hr_30) (cw_V 1 htb tg_1248 tg_13 tg_1245 tg_1247 ts_49 rfl rfl (by decide +kernel) ⟨Nat.le_of_ble_eq_true rfl, Nat.le_of_ble_eq_true rfl⟩) ⟨PC.blind, va_recv hK.1 hP (ci := 11) (q0 := 0) rfl rfl, PC.pre hK hT hP hD hS hA [0, 1, 2, 3, 4, 5, 6, 7, 8, 9, 10, 11, 12, 13, 14] rfl (by decide)⟩ rfl rfl hl.1 rfl (lv_room (Nat.le_of_ble_eq_true rfl)) dX12_beginOne_213 ⟨Nat.le_of_ble_eq_true rfl, Nat.le_of_ble_eq_true rfl⟩) hP hD hS hA [0, 1, 2, 3, 4, 5, 6, 7, 8, 9, 10, 11, 12, 13, 14] [] rfl rfl (by decide) (by decide) (fun r9 u9 H locs hw hP hD hS => ?_)
              have hw := hw.symm
              subst hw
              have hP : va_P D vwCl (WS_X12_beginOne cI cJ cZ cY a0 a0_a a0_image a0_texts a0_board a0_taken a0_fars a0_before a0_tape a0_pile a0_rows a0_told a0_values a0_truth a0_keeps v0) H := hP.sub [0, 1, 2, 3, 4, 5, 6, 7, 8, 9, 10, 11, 12, 13, 14] rfl
              have hD : va_D A (WS_X12_beginOne cI cJ cZ cY a0 a0_a a0_image a0_texts a0_board a0_taken a0_fars a0_before a0_tape a0_pile a0_rows a0_told a0_values a0_truth a0_keeps v0) := hD.sub [0, 1, 2, 3, 4, 5, 6, 7, 8, 9, 10, 11, 12, 13, 14] (by decide) rfl
              refine lv_if_eq (tgt := 224) hx hb dX12_beginOne_216 (by decide) (fun c_31 => ?_) (fun c_31 => ?_)
              · have hg := g_it hg c_31
                refine lv_aload_n hx hb dX12_beginOne_224 rfl (lv_at hl 0 rfl) ?_
                refine va_get (ci := 11) (v := .int (pX12_token v0)) (C := RX12) (T := TX12) (N := 43) hx hb htb uX12 hown hK.1 hP 0 rfl rfl 15 (by decide) (htb _ tg_951) (fun _ h9 => h9) rfl dX12_beginOne_225 ?_
                refine lv_bipush (v := 40) hx hb dX12_beginOne_228 (by decide) ?_
                refine lv_icmp_ne (tgt := 238) hx hb dX12_beginOne_230 (by decide) (fun c_32 => ?_) (fun c_32 => ?_)
                · have hg := g_if hg c_32
                  refine lv_aload_n hx hb dX12_beginOne_238 rfl (lv_at hl 0 rfl) ?_
                  refine va_get (ci := 11) (v := .int (pX12_token v0)) (C := RX12) (T := TX12) (N := 43) hx hb htb uX12 hown hK.1 hP 0 rfl rfl 15 (by decide) (htb _ tg_951) (fun _ h9 => h9) rfl dX12_beginOne_239 ?_
                  refine lv_bipush (v := 45) hx hb dX12_beginOne_242 (by decide) ?_
                  refine lv_icmp_ne (tgt := 251) hx hb dX12_beginOne_244 (by decide) (fun c_33 => ?_) (fun c_33 => ?_)
                  · have hg := g_if hg c_33
                    refine lv_iconst (v := 0) hx hb dX12_beginOne_251 (by decide) ?_
                    exact b_252 0 v0 H locs ls hP hD hS (lv_sub hl [0] rfl) hg
                  · have hg := g_it hg c_33
                    refine lv_iconst (v := 2) hx hb dX12_beginOne_247 (by decide) ?_
                    refine lv_goto (tgt := 252) hx hb dX12_beginOne_248 (by decide) ?_
                    exact b_252 2 v0 H locs ls hP hD hS (lv_sub hl [0] rfl) hg
                · have hg := g_it hg c_32
                  refine lv_bipush (v := 40) hx hb dX12_beginOne_233 (by decide) ?_
                  refine lv_goto (tgt := 252) hx hb dX12_beginOne_235 (by decide) ?_
                  exact b_252 40 v0 H locs ls hP hD hS (lv_sub hl [0] rfl) hg
              · have hg := g_if hg c_31
                refine lv_bipush (v := 42) hx hb dX12_beginOne_219 (by decide) ?_
                refine lv_goto (tgt := 252) hx hb dX12_beginOne_221 (by decide) ?_
                exact b_252 42 v0 H locs ls hP hD hS (lv_sub hl [0] rfl) hg
            · have hg := g_if hg c_28
              refine lv_bipush (v := 41) hx hb dX12_beginOne_198 (by decide) ?_
              refine lv_goto (tgt := 252) hx hb dX12_beginOne_200 (by decide) ?_
              exact b_252 41 v0 H locs ls hP hD hS (lv_sub hl [0] rfl) hg
          · have hg := g_if hg c_25
            exact b_152 v0 H locs ls hP hD hS (lv_sub hl [0] rfl) hg
      · have hg := g_if hg c_19
        refine lv_aload_n hx hb dX12_beginOne_99 rfl (lv_at hl 0 rfl) ?_
        refine lv_bipush (v := 30) hx hb dX12_beginOne_100 (by decide) ?_
        refine lv_iconst (v := 0) hx hb dX12_beginOne_102 (by decide) ?_
        obtain ⟨r_34, hr_34, hg⟩ := g_bd hg
        refine cc_v (va_runV (C := RX12) (As := [.int 30, .int 0]) (rest := []) ⟨hx, hb, hml, hown, htb⟩ (k_X12_emit a0 a0_a a0_image a0_texts a0_board a0_taken a0_fars a0_before a0_tape a0_pile a0_rows a0_told a0_values a0_truth a0_keeps v0 30 0 r_34 hr_34) (cw_V 2 htb tg_1272 tg_13 tg_1269 tg_1271 ts_55 rfl rfl (by decide +kernel) ⟨Nat.le_of_ble_eq_true rfl, Nat.le_of_ble_eq_true rfl⟩) ⟨PC.blind, va_recv hK.1 hP (ci := 11) (q0 := 0) rfl rfl, PC.pre hK hT hP hD hS hA [0, 1, 2, 3, 4, 5, 6, 7, 8, 9, 10, 11, 12, 13, 14] rfl (by decide)⟩ rfl rfl hl.1 rfl (lv_room (Nat.le_of_ble_eq_true rfl)) dX12_beginOne_103 ⟨Nat.le_of_ble_eq_true rfl, Nat.le_of_ble_eq_true rfl⟩) hP hD hS hA [0, 1, 2, 3, 4, 5, 6, 7, 8, 9, 10, 11, 12, 13, 14] [] rfl rfl (by decide) (by decide) (fun u9 H locs hw hP hD hS => ?_)
        have hw := hw.symm
        subst hw
        have hP : va_P D vwCl (WS_X12_beginOne cI cJ cZ cY a0 a0_a a0_image a0_texts a0_board a0_taken a0_fars a0_before a0_tape a0_pile a0_rows a0_told a0_values a0_truth a0_keeps r_34) H := hP.sub [0, 1, 2, 3, 4, 5, 6, 7, 8, 9, 10, 11, 12, 13, 14] rfl
        have hD : va_D A (WS_X12_beginOne cI cJ cZ cY a0 a0_a a0_image a0_texts a0_board a0_taken a0_fars a0_before a0_tape a0_pile a0_rows a0_told a0_values a0_truth a0_keeps r_34) := hD.sub [0, 1, 2, 3, 4, 5, 6, 7, 8, 9, 10, 11, 12, 13, 14] (by decide) rfl
        refine lv_aload_n hx hb dX12_beginOne_106 rfl (lv_at hl 0 rfl) ?_
        obtain ⟨r_35, hr_35, hg⟩ := g_bd hg
        refine cc_v (va_runV (C := RX12) (As := []) (rest := []) ⟨hx, hb, hml, hown, htb⟩ (k_X12_nextToken a0 a0_a a0_image a0_texts a0_board a0_taken a0_fars a0_before a0_tape a0_pile a0_rows a0_told a0_values a0_truth a0_keeps r_34 r_35 hr_35) (cw_V 0 htb tg_1204 tg_13 tg_1201 tg_1203 ts_42 rfl rfl (by decide +kernel) ⟨Nat.le_of_ble_eq_true rfl, Nat.le_of_ble_eq_true rfl⟩) ⟨PC.blind, va_recv hK.1 hP (ci := 11) (q0 := 0) rfl rfl, PC.pre hK hT hP hD hS hA [0, 1, 2, 3, 4, 5, 6, 7, 8, 9, 10, 11, 12, 13, 14] rfl (by decide)⟩ rfl rfl hl.1 rfl (lv_room (Nat.le_of_ble_eq_true rfl)) dX12_beginOne_107 ⟨Nat.le_of_ble_eq_true rfl, Nat.le_of_ble_eq_true rfl⟩) hP hD hS hA [0, 1, 2, 3, 4, 5, 6, 7, 8, 9, 10, 11, 12, 13, 14] [] rfl rfl (by decide) (by decide) (fun u9 H locs hw hP hD hS => ?_)
        have hw := hw.symm
        subst hw
        have hP : va_P D vwCl (WS_X12_beginOne cI cJ cZ cY a0 a0_a a0_image a0_texts a0_board a0_taken a0_fars a0_before a0_tape a0_pile a0_rows a0_told a0_values a0_truth a0_keeps r_35) H := hP.sub [0, 1, 2, 3, 4, 5, 6, 7, 8, 9, 10, 11, 12, 13, 14] rfl
        have hD : va_D A (WS_X12_beginOne cI cJ cZ cY a0 a0_a a0_image a0_texts a0_board a0_taken a0_fars a0_before a0_tape a0_pile a0_rows a0_told a0_values a0_truth a0_keeps r_35) := hD.sub [0, 1, 2, 3, 4, 5, 6, 7, 8, 9, 10, 11, 12, 13, 14] (by decide) rfl
        refine lv_aload_n hx hb dX12_beginOne_110 rfl (lv_at hl 0 rfl) ?_
        obtain ⟨r_36, hr_36, hg⟩ := g_bd hg
        refine cc_v (va_runV (C := RX12) (As := []) (rest := []) ⟨hx, hb, hml, hown, htb⟩ (k_X12_whole a0 a0_a a0_image a0_texts a0_board a0_taken a0_fars a0_before a0_tape a0_pile a0_rows a0_told a0_values a0_truth a0_keeps r_35 r_36 hr_36) (cw_V 0 htb tg_1280 tg_13 tg_1277 tg_1279 ts_57 rfl rfl (by decide +kernel) ⟨Nat.le_of_ble_eq_true rfl, Nat.le_of_ble_eq_true rfl⟩) ⟨PC.blind, va_recv hK.1 hP (ci := 11) (q0 := 0) rfl rfl, PC.pre hK hT hP hD hS hA [0, 1, 2, 3, 4, 5, 6, 7, 8, 9, 10, 11, 12, 13, 14] rfl (by decide)⟩ rfl rfl hl.1 rfl (lv_room (Nat.le_of_ble_eq_true rfl)) dX12_beginOne_111 ⟨Nat.le_of_ble_eq_true rfl, Nat.le_of_ble_eq_true rfl⟩) hP hD hS hA [0, 1, 2, 3, 4, 5, 6, 7, 8, 9, 10, 11, 12, 13, 14] [] rfl rfl (by decide) (by decide) (fun u9 H locs hw hP hD hS => ?_)
        have hw := hw.symm
        subst hw
        have hP : va_P D vwCl (WS_X12_beginOne cI cJ cZ cY a0 a0_a a0_image a0_texts a0_board a0_taken a0_fars a0_before a0_tape a0_pile a0_rows a0_told a0_values a0_truth a0_keeps r_36) H := hP.sub [0, 1, 2, 3, 4, 5, 6, 7, 8, 9, 10, 11, 12, 13, 14] rfl
        have hD : va_D A (WS_X12_beginOne cI cJ cZ cY a0 a0_a a0_image a0_texts a0_board a0_taken a0_fars a0_before a0_tape a0_pile a0_rows a0_told a0_values a0_truth a0_keeps r_36) := hD.sub [0, 1, 2, 3, 4, 5, 6, 7, 8, 9, 10, 11, 12, 13, 14] (by decide) rfl
        refine lv_iconst (v := 0) hx hb dX12_beginOne_114 (by decide) ?_
        have hg := Option.some.inj hg
        rw [hQ]
        exact W.iret (v := 0) hx hb hr (fun t ht hW => ⟨⟨0, (r_36), rfl, ⟨by rw [← hg], by rw [← hg]⟩, by rw [ht]; exact hP, hD⟩, hS.F ht⟩) hS.2.2 dX12_beginOne_115
    · have hg := g_if hg c_16
      refine lv_aload_n hx hb dX12_beginOne_46 rfl (lv_at hl 0 rfl) ?_
      refine va_get (ci := 11) (v := .int (pX12_letters v0)) (C := RX12) (T := TX12) (N := 43) hx hb htb uX12 hown hK.1 hP 0 rfl rfl 22 (by decide) (htb _ tg_958) (fun _ h9 => h9) rfl dX12_beginOne_47 ?_
      refine lv_aload_n hx hb dX12_beginOne_50 rfl (lv_at hl 0 rfl) ?_
      obtain ⟨r_37, hr_37, hg⟩ := g_bd hg
      refine cc_i (va_runV (C := RX12) (As := []) (rest := [.int (pX12_letters v0)]) ⟨hx, hb, hml, hown, htb⟩ (k_X12_letterOf a0 a0_a a0_image a0_texts a0_board a0_taken a0_fars a0_before a0_tape a0_pile a0_rows a0_told a0_values a0_truth a0_keeps v0 r_37 hr_37) (cw_V 0 htb tg_1234 tg_13 tg_1231 tg_1233 ts_46 rfl rfl (by decide +kernel) ⟨Nat.le_of_ble_eq_true rfl, Nat.le_of_ble_eq_true rfl⟩) ⟨PC.blind, va_recv hK.1 hP (ci := 11) (q0 := 0) rfl rfl, PC.pre hK hT hP hD hS hA [0, 1, 2, 3, 4, 5, 6, 7, 8, 9, 10, 11, 12, 13, 14] rfl (by decide)⟩ rfl rfl hl.1 rfl (lv_room (Nat.le_of_ble_eq_true rfl)) dX12_beginOne_51 ⟨Nat.le_of_ble_eq_true rfl, Nat.le_of_ble_eq_true rfl⟩) hP hD hS hA [0, 1, 2, 3, 4, 5, 6, 7, 8, 9, 10, 11, 12, 13, 14] [] rfl rfl (by decide) (by decide) (fun r9 u9 H locs hw hP hD hS => ?_)
      have hw := hw.symm
      subst hw
      have hP : va_P D vwCl (WS_X12_beginOne cI cJ cZ cY a0 a0_a a0_image a0_texts a0_board a0_taken a0_fars a0_before a0_tape a0_pile a0_rows a0_told a0_values a0_truth a0_keeps v0) H := hP.sub [0, 1, 2, 3, 4, 5, 6, 7, 8, 9, 10, 11, 12, 13, 14] rfl
      have hD : va_D A (WS_X12_beginOne cI cJ cZ cY a0 a0_a a0_image a0_texts a0_board a0_taken a0_fars a0_before a0_tape a0_pile a0_rows a0_told a0_values a0_truth a0_keeps v0) := hD.sub [0, 1, 2, 3, 4, 5, 6, 7, 8, 9, 10, 11, 12, 13, 14] (by decide) rfl
      refine lv_ishr hx hb dX12_beginOne_54 ?_
      refine lv_iconst (v := 1) hx hb dX12_beginOne_55 (by decide) ?_
      refine lv_iand hx hb dX12_beginOne_56 ?_
      refine lv_if_ne (tgt := 62) hx hb dX12_beginOne_57 (by decide) (fun c_38 => ?_) (fun c_38 => ?_)
      · have hg := g_if hg c_38
        refine lv_aload_n hx hb dX12_beginOne_62 rfl (lv_at hl 0 rfl) ?_
        refine lv_iconst (v := 1) hx hb dX12_beginOne_63 (by decide) ?_
        refine lv_aload_n hx hb dX12_beginOne_64 rfl (lv_at hl 0 rfl) ?_
        obtain ⟨r_39, hr_39, hg⟩ := g_bd hg
        refine cc_i (va_runV (C := RX12) (As := []) (rest := [.int 1, .ref a0]) ⟨hx, hb, hml, hown, htb⟩ (k_X12_letterOf a0 a0_a a0_image a0_texts a0_board a0_taken a0_fars a0_before a0_tape a0_pile a0_rows a0_told a0_values a0_truth a0_keeps v0 r_39 hr_39) (cw_V 0 htb tg_1234 tg_13 tg_1231 tg_1233 ts_46 rfl rfl (by decide +kernel) ⟨Nat.le_of_ble_eq_true rfl, Nat.le_of_ble_eq_true rfl⟩) ⟨PC.blind, va_recv hK.1 hP (ci := 11) (q0 := 0) rfl rfl, PC.pre hK hT hP hD hS hA [0, 1, 2, 3, 4, 5, 6, 7, 8, 9, 10, 11, 12, 13, 14] rfl (by decide)⟩ rfl rfl hl.1 rfl (lv_room (Nat.le_of_ble_eq_true rfl)) dX12_beginOne_65 ⟨Nat.le_of_ble_eq_true rfl, Nat.le_of_ble_eq_true rfl⟩) hP hD hS hA [0, 1, 2, 3, 4, 5, 6, 7, 8, 9, 10, 11, 12, 13, 14] [] rfl rfl (by decide) (by decide) (fun r9 u9 H locs hw hP hD hS => ?_)
        have hw := hw.symm
        subst hw
        have hP : va_P D vwCl (WS_X12_beginOne cI cJ cZ cY a0 a0_a a0_image a0_texts a0_board a0_taken a0_fars a0_before a0_tape a0_pile a0_rows a0_told a0_values a0_truth a0_keeps v0) H := hP.sub [0, 1, 2, 3, 4, 5, 6, 7, 8, 9, 10, 11, 12, 13, 14] rfl
        have hD : va_D A (WS_X12_beginOne cI cJ cZ cY a0 a0_a a0_image a0_texts a0_board a0_taken a0_fars a0_before a0_tape a0_pile a0_rows a0_told a0_values a0_truth a0_keeps v0) := hD.sub [0, 1, 2, 3, 4, 5, 6, 7, 8, 9, 10, 11, 12, 13, 14] (by decide) rfl
        obtain ⟨r_40, hr_40, hg⟩ := g_bd hg
        refine cc_v (va_runV (C := RX12) (As := [.int 1, .int r_39]) (rest := []) ⟨hx, hb, hml, hown, htb⟩ (k_X12_emit a0 a0_a a0_image a0_texts a0_board a0_taken a0_fars a0_before a0_tape a0_pile a0_rows a0_told a0_values a0_truth a0_keeps v0 1 r_39 r_40 hr_40) (cw_V 2 htb tg_1272 tg_13 tg_1269 tg_1271 ts_55 rfl rfl (by decide +kernel) ⟨Nat.le_of_ble_eq_true rfl, Nat.le_of_ble_eq_true rfl⟩) ⟨PC.blind, va_recv hK.1 hP (ci := 11) (q0 := 0) rfl rfl, PC.pre hK hT hP hD hS hA [0, 1, 2, 3, 4, 5, 6, 7, 8, 9, 10, 11, 12, 13, 14] rfl (by decide)⟩ rfl rfl hl.1 rfl (lv_room (Nat.le_of_ble_eq_true rfl)) dX12_beginOne_68 ⟨Nat.le_of_ble_eq_true rfl, Nat.le_of_ble_eq_true rfl⟩) hP hD hS hA [0, 1, 2, 3, 4, 5, 6, 7, 8, 9, 10, 11, 12, 13, 14] [] rfl rfl (by decide) (by decide) (fun u9 H locs hw hP hD hS => ?_)
        have hw := hw.symm
        subst hw
        have hP : va_P D vwCl (WS_X12_beginOne cI cJ cZ cY a0 a0_a a0_image a0_texts a0_board a0_taken a0_fars a0_before a0_tape a0_pile a0_rows a0_told a0_values a0_truth a0_keeps r_40) H := hP.sub [0, 1, 2, 3, 4, 5, 6, 7, 8, 9, 10, 11, 12, 13, 14] rfl
        have hD : va_D A (WS_X12_beginOne cI cJ cZ cY a0 a0_a a0_image a0_texts a0_board a0_taken a0_fars a0_before a0_tape a0_pile a0_rows a0_told a0_values a0_truth a0_keeps r_40) := hD.sub [0, 1, 2, 3, 4, 5, 6, 7, 8, 9, 10, 11, 12, 13, 14] (by decide) rfl
        refine lv_aload_n hx hb dX12_beginOne_71 rfl (lv_at hl 0 rfl) ?_
        obtain ⟨r_41, hr_41, hg⟩ := g_bd hg
        refine cc_v (va_runV (C := RX12) (As := []) (rest := []) ⟨hx, hb, hml, hown, htb⟩ (k_X12_nextToken a0 a0_a a0_image a0_texts a0_board a0_taken a0_fars a0_before a0_tape a0_pile a0_rows a0_told a0_values a0_truth a0_keeps r_40 r_41 hr_41) (cw_V 0 htb tg_1204 tg_13 tg_1201 tg_1203 ts_42 rfl rfl (by decide +kernel) ⟨Nat.le_of_ble_eq_true rfl, Nat.le_of_ble_eq_true rfl⟩) ⟨PC.blind, va_recv hK.1 hP (ci := 11) (q0 := 0) rfl rfl, PC.pre hK hT hP hD hS hA [0, 1, 2, 3, 4, 5, 6, 7, 8, 9, 10, 11, 12, 13, 14] rfl (by decide)⟩ rfl rfl hl.1 rfl (lv_room (Nat.le_of_ble_eq_true rfl)) dX12_beginOne_72 ⟨Nat.le_of_ble_eq_true rfl, Nat.le_of_ble_eq_true rfl⟩) hP hD hS hA [0, 1, 2, 3, 4, 5, 6, 7, 8, 9, 10, 11, 12, 13, 14] [] rfl rfl (by decide) (by decide) (fun u9 H locs hw hP hD hS => ?_)
        have hw := hw.symm
        subst hw
        have hP : va_P D vwCl (WS_X12_beginOne cI cJ cZ cY a0 a0_a a0_image a0_texts a0_board a0_taken a0_fars a0_before a0_tape a0_pile a0_rows a0_told a0_values a0_truth a0_keeps r_41) H := hP.sub [0, 1, 2, 3, 4, 5, 6, 7, 8, 9, 10, 11, 12, 13, 14] rfl
        have hD : va_D A (WS_X12_beginOne cI cJ cZ cY a0 a0_a a0_image a0_texts a0_board a0_taken a0_fars a0_before a0_tape a0_pile a0_rows a0_told a0_values a0_truth a0_keeps r_41) := hD.sub [0, 1, 2, 3, 4, 5, 6, 7, 8, 9, 10, 11, 12, 13, 14] (by decide) rfl
        refine lv_aload_n hx hb dX12_beginOne_75 rfl (lv_at hl 0 rfl) ?_
        obtain ⟨r_42, hr_42, hg⟩ := g_bd hg
        refine cc_v (va_runV (C := RX12) (As := []) (rest := []) ⟨hx, hb, hml, hown, htb⟩ (k_X12_whole a0 a0_a a0_image a0_texts a0_board a0_taken a0_fars a0_before a0_tape a0_pile a0_rows a0_told a0_values a0_truth a0_keeps r_41 r_42 hr_42) (cw_V 0 htb tg_1280 tg_13 tg_1277 tg_1279 ts_57 rfl rfl (by decide +kernel) ⟨Nat.le_of_ble_eq_true rfl, Nat.le_of_ble_eq_true rfl⟩) ⟨PC.blind, va_recv hK.1 hP (ci := 11) (q0 := 0) rfl rfl, PC.pre hK hT hP hD hS hA [0, 1, 2, 3, 4, 5, 6, 7, 8, 9, 10, 11, 12, 13, 14] rfl (by decide)⟩ rfl rfl hl.1 rfl (lv_room (Nat.le_of_ble_eq_true rfl)) dX12_beginOne_76 ⟨Nat.le_of_ble_eq_true rfl, Nat.le_of_ble_eq_true rfl⟩) hP hD hS hA [0, 1, 2, 3, 4, 5, 6, 7, 8, 9, 10, 11, 12, 13, 14] [] rfl rfl (by decide) (by decide) (fun u9 H locs hw hP hD hS => ?_)
        have hw := hw.symm
        subst hw
        have hP : va_P D vwCl (WS_X12_beginOne cI cJ cZ cY a0 a0_a a0_image a0_texts a0_board a0_taken a0_fars a0_before a0_tape a0_pile a0_rows a0_told a0_values a0_truth a0_keeps r_42) H := hP.sub [0, 1, 2, 3, 4, 5, 6, 7, 8, 9, 10, 11, 12, 13, 14] rfl
        have hD : va_D A (WS_X12_beginOne cI cJ cZ cY a0 a0_a a0_image a0_texts a0_board a0_taken a0_fars a0_before a0_tape a0_pile a0_rows a0_told a0_values a0_truth a0_keeps r_42) := hD.sub [0, 1, 2, 3, 4, 5, 6, 7, 8, 9, 10, 11, 12, 13, 14] (by decide) rfl
        refine lv_iconst (v := 0) hx hb dX12_beginOne_79 (by decide) ?_
        have hg := Option.some.inj hg
        rw [hQ]
        exact W.iret (v := 0) hx hb hr (fun t ht hW => ⟨⟨0, (r_42), rfl, ⟨by rw [← hg], by rw [← hg]⟩, by rw [ht]; exact hP, hD⟩, hS.F ht⟩) hS.2.2 dX12_beginOne_80
      · have hg := g_it hg c_38
        refine lv_iconst (v := 5) hx hb dX12_beginOne_60 (by decide) ?_
        have hg := Option.some.inj hg
        rw [hQ]
        exact W.iret (v := 5) hx hb hr (fun t ht hW => ⟨⟨5, (v0), rfl, ⟨by rw [← hg], by rw [← hg]⟩, by rw [ht]; exact hP, hD⟩, hS.F ht⟩) hS.2.2 dX12_beginOne_61
  · have hg := g_it hg c_14
    refine lv_aload_n hx hb dX12_beginOne_8 rfl (lv_at hl 0 rfl) ?_
    refine va_get (ci := 11) (v := .int (pX12_number v0)) (C := RX12) (T := TX12) (N := 43) hx hb htb uX12 hown hK.1 hP 0 rfl rfl 16 (by decide) (htb _ tg_952) (fun _ h9 => h9) rfl dX12_beginOne_9 ?_
    refine lv_sipush (v := 9999) hx hb dX12_beginOne_12 (by decide) ?_
    refine lv_icmp_le (tgt := 20) hx hb dX12_beginOne_15 (by decide) (fun c_43 => ?_) (fun c_43 => ?_)
    · have hg := g_it hg c_43
      refine lv_aload_n hx hb dX12_beginOne_20 rfl (lv_at hl 0 rfl) ?_
      refine lv_iconst (v := 0) hx hb dX12_beginOne_21 (by decide) ?_
      refine lv_aload_n hx hb dX12_beginOne_22 rfl (lv_at hl 0 rfl) ?_
      refine va_get (ci := 11) (v := .int (pX12_number v0)) (C := RX12) (T := TX12) (N := 43) hx hb htb uX12 hown hK.1 hP 0 rfl rfl 16 (by decide) (htb _ tg_952) (fun _ h9 => h9) rfl dX12_beginOne_23 ?_
      obtain ⟨r_44, hr_44, hg⟩ := g_bd hg
      refine cc_v (va_runV (C := RX12) (As := [.int 0, .int (pX12_number v0)]) (rest := []) ⟨hx, hb, hml, hown, htb⟩ (k_X12_emit a0 a0_a a0_image a0_texts a0_board a0_taken a0_fars a0_before a0_tape a0_pile a0_rows a0_told a0_values a0_truth a0_keeps v0 0 (pX12_number v0) r_44 hr_44) (cw_V 2 htb tg_1272 tg_13 tg_1269 tg_1271 ts_55 rfl rfl (by decide +kernel) ⟨Nat.le_of_ble_eq_true rfl, Nat.le_of_ble_eq_true rfl⟩) ⟨PC.blind, va_recv hK.1 hP (ci := 11) (q0 := 0) rfl rfl, PC.pre hK hT hP hD hS hA [0, 1, 2, 3, 4, 5, 6, 7, 8, 9, 10, 11, 12, 13, 14] rfl (by decide)⟩ rfl rfl hl.1 rfl (lv_room (Nat.le_of_ble_eq_true rfl)) dX12_beginOne_26 ⟨Nat.le_of_ble_eq_true rfl, Nat.le_of_ble_eq_true rfl⟩) hP hD hS hA [0, 1, 2, 3, 4, 5, 6, 7, 8, 9, 10, 11, 12, 13, 14] [] rfl rfl (by decide) (by decide) (fun u9 H locs hw hP hD hS => ?_)
      have hw := hw.symm
      subst hw
      have hP : va_P D vwCl (WS_X12_beginOne cI cJ cZ cY a0 a0_a a0_image a0_texts a0_board a0_taken a0_fars a0_before a0_tape a0_pile a0_rows a0_told a0_values a0_truth a0_keeps r_44) H := hP.sub [0, 1, 2, 3, 4, 5, 6, 7, 8, 9, 10, 11, 12, 13, 14] rfl
      have hD : va_D A (WS_X12_beginOne cI cJ cZ cY a0 a0_a a0_image a0_texts a0_board a0_taken a0_fars a0_before a0_tape a0_pile a0_rows a0_told a0_values a0_truth a0_keeps r_44) := hD.sub [0, 1, 2, 3, 4, 5, 6, 7, 8, 9, 10, 11, 12, 13, 14] (by decide) rfl
      refine lv_aload_n hx hb dX12_beginOne_29 rfl (lv_at hl 0 rfl) ?_
      obtain ⟨r_45, hr_45, hg⟩ := g_bd hg
      refine cc_v (va_runV (C := RX12) (As := []) (rest := []) ⟨hx, hb, hml, hown, htb⟩ (k_X12_nextToken a0 a0_a a0_image a0_texts a0_board a0_taken a0_fars a0_before a0_tape a0_pile a0_rows a0_told a0_values a0_truth a0_keeps r_44 r_45 hr_45) (cw_V 0 htb tg_1204 tg_13 tg_1201 tg_1203 ts_42 rfl rfl (by decide +kernel) ⟨Nat.le_of_ble_eq_true rfl, Nat.le_of_ble_eq_true rfl⟩) ⟨PC.blind, va_recv hK.1 hP (ci := 11) (q0 := 0) rfl rfl, PC.pre hK hT hP hD hS hA [0, 1, 2, 3, 4, 5, 6, 7, 8, 9, 10, 11, 12, 13, 14] rfl (by decide)⟩ rfl rfl hl.1 rfl (lv_room (Nat.le_of_ble_eq_true rfl)) dX12_beginOne_30 ⟨Nat.le_of_ble_eq_true rfl, Nat.le_of_ble_eq_true rfl⟩) hP hD hS hA [0, 1, 2, 3, 4, 5, 6, 7, 8, 9, 10, 11, 12, 13, 14] [] rfl rfl (by decide) (by decide) (fun u9 H locs hw hP hD hS => ?_)
      have hw := hw.symm
      subst hw
      have hP : va_P D vwCl (WS_X12_beginOne cI cJ cZ cY a0 a0_a a0_image a0_texts a0_board a0_taken a0_fars a0_before a0_tape a0_pile a0_rows a0_told a0_values a0_truth a0_keeps r_45) H := hP.sub [0, 1, 2, 3, 4, 5, 6, 7, 8, 9, 10, 11, 12, 13, 14] rfl
      have hD : va_D A (WS_X12_beginOne cI cJ cZ cY a0 a0_a a0_image a0_texts a0_board a0_taken a0_fars a0_before a0_tape a0_pile a0_rows a0_told a0_values a0_truth a0_keeps r_45) := hD.sub [0, 1, 2, 3, 4, 5, 6, 7, 8, 9, 10, 11, 12, 13, 14] (by decide) rfl
      refine lv_aload_n hx hb dX12_beginOne_33 rfl (lv_at hl 0 rfl) ?_
      obtain ⟨r_46, hr_46, hg⟩ := g_bd hg
      refine cc_v (va_runV (C := RX12) (As := []) (rest := []) ⟨hx, hb, hml, hown, htb⟩ (k_X12_whole a0 a0_a a0_image a0_texts a0_board a0_taken a0_fars a0_before a0_tape a0_pile a0_rows a0_told a0_values a0_truth a0_keeps r_45 r_46 hr_46) (cw_V 0 htb tg_1280 tg_13 tg_1277 tg_1279 ts_57 rfl rfl (by decide +kernel) ⟨Nat.le_of_ble_eq_true rfl, Nat.le_of_ble_eq_true rfl⟩) ⟨PC.blind, va_recv hK.1 hP (ci := 11) (q0 := 0) rfl rfl, PC.pre hK hT hP hD hS hA [0, 1, 2, 3, 4, 5, 6, 7, 8, 9, 10, 11, 12, 13, 14] rfl (by decide)⟩ rfl rfl hl.1 rfl (lv_room (Nat.le_of_ble_eq_true rfl)) dX12_beginOne_34 ⟨Nat.le_of_ble_eq_true rfl, Nat.le_of_ble_eq_true rfl⟩) hP hD hS hA [0, 1, 2, 3, 4, 5, 6, 7, 8, 9, 10, 11, 12, 13, 14] [] rfl rfl (by decide) (by decide) (fun u9 H locs hw hP hD hS => ?_)
      have hw := hw.symm
      subst hw
      have hP : va_P D vwCl (WS_X12_beginOne cI cJ cZ cY a0 a0_a a0_image a0_texts a0_board a0_taken a0_fars a0_before a0_tape a0_pile a0_rows a0_told a0_values a0_truth a0_keeps r_46) H := hP.sub [0, 1, 2, 3, 4, 5, 6, 7, 8, 9, 10, 11, 12, 13, 14] rfl
      have hD : va_D A (WS_X12_beginOne cI cJ cZ cY a0 a0_a a0_image a0_texts a0_board a0_taken a0_fars a0_before a0_tape a0_pile a0_rows a0_told a0_values a0_truth a0_keeps r_46) := hD.sub [0, 1, 2, 3, 4, 5, 6, 7, 8, 9, 10, 11, 12, 13, 14] (by decide) rfl
      refine lv_iconst (v := 0) hx hb dX12_beginOne_37 (by decide) ?_
      have hg := Option.some.inj hg
      rw [hQ]
      exact W.iret (v := 0) hx hb hr (fun t ht hW => ⟨⟨0, (r_46), rfl, ⟨by rw [← hg], by rw [← hg]⟩, by rw [ht]; exact hP, hD⟩, hS.F ht⟩) hS.2.2 dX12_beginOne_38
    · have hg := g_if hg c_43
      refine lv_iconst (v := 2) hx hb dX12_beginOne_18 (by decide) ?_
      have hg := Option.some.inj hg
      rw [hQ]
      exact W.iret (v := 2) hx hb hr (fun t ht hW => ⟨⟨2, (v0), rfl, ⟨by rw [← hg], by rw [← hg]⟩, by rw [ht]; exact hP, hD⟩, hS.F ht⟩) hS.2.2 dX12_beginOne_19

/-! ManyEyesModel.hasParen()Z -/
def WS_X12_hasParen (cI cJ cZ cY : ClassId) (a0 a0_a a0_image a0_texts a0_board a0_taken a0_fars a0_before a0_tape a0_pile a0_rows a0_told a0_values a0_truth a0_keeps : Nat) (v0 : BX12) : va_W := (GX12 cI cJ cZ cY a0 a0_a a0_image a0_texts a0_board a0_taken a0_fars a0_before a0_tape a0_pile a0_rows a0_told a0_values a0_truth a0_keeps v0)
def f_X12_hasParen_b2B (v0 : BX12) (J2 : Int32 → Option (Int32)) (x1 : Int32) : Option (Int32) := if ((pX12_piled v0) : Int32) ≤ x1 then (some 0) else (g_gd (inB x1 160) (if (((pX12_pile v0) (x1 : Int32).toNatClampNeg) : Int32) < 40 then (g_lt (x1 + 1 : Int32) (fun x1_4 => J2 (x1_4))) else (some 1)))
def f_X12_hasParen_b2 (v0 : BX12) : Nat → Int32 → Option (Int32) := g_lp (fun J z => f_X12_hasParen_b2B v0 J z)
def f_X12_hasParen (v0 : BX12) : Option (Int32) := f_X12_hasParen_b2 v0 fU (0)
abbrev rm_X12_hasParen : Room := { frames := 0, cells := 0, slots := 0, locals := 0 }
set_option maxHeartbeats 4000000 in
set_option maxRecDepth 100000 in
theorem k_X12_hasParen {l : Launch} {D : va_G} {cI cJ cZ cY : ClassId} {tX tY : Nat} {sz : Nat} (a0 a0_a a0_image a0_texts a0_board a0_taken a0_fars a0_before a0_tape a0_pile a0_rows a0_told a0_values a0_truth a0_keeps : Nat) (v0 : BX12) (res : Int32) (hg : f_X12_hasParen v0 = some res) : Met l yX12_hasParen (Cond.code yX12_hasParen cX12_hasParen 2 (some .boolean) :: TB) rm_X12_hasParen (PC D cI cJ cZ cY tX tY [.ref a0] (WS_X12_hasParen cI cJ cZ cY a0 a0_a a0_image a0_texts a0_board a0_taken a0_fars a0_before a0_tape a0_pile a0_rows a0_told a0_values a0_truth a0_keeps v0) sz) (va_Qi (fun (r : Int32) (_ : Unit) => r = res) (BC D (fun _ : Unit => WS_X12_hasParen cI cJ cZ cY a0 a0_a a0_image a0_texts a0_board a0_taken a0_fars a0_before a0_tape a0_pile a0_rows a0_told a0_values a0_truth a0_keeps v0) (va_A (WS_X12_hasParen cI cJ cZ cY a0 a0_a a0_image a0_texts a0_board a0_taken a0_fars a0_before a0_tape a0_pile a0_rows a0_told a0_values a0_truth a0_keeps v0) sz)) (va_A (WS_X12_hasParen cI cJ cZ cY a0 a0_a a0_image a0_texts a0_board a0_taken a0_fars a0_before a0_tape a0_pile a0_rows a0_told a0_values a0_truth a0_keeps v0) sz)) 0 0 (va_A (WS_X12_hasParen cI cJ cZ cY a0 a0_a a0_image a0_texts a0_board a0_taken a0_fars a0_before a0_tape a0_pile a0_rows a0_told a0_values a0_truth a0_keeps v0) sz) := by
  refine Met.ofW (cc := cX12_hasParen) (maxL := 2) (ret := (some .boolean)) (by decide) rfl ?_
  intro p e s m args below meth c s₁ B hml hv
  obtain ⟨hargs, hsz, hP, hK, hD0, hT⟩ := hv
  have hx := B.exec
  have hb := B.bytes
  have hr := B.returns
  have htb : ∀ w ∈ TB, w.before args s = true := fun w h => atoms_spec (ws := Cond.code yX12_hasParen cX12_hasParen 2 (some .boolean) :: TB) B.pre w (List.mem_cons_of_mem _ h)
  have hown : s.vm.findClass "ManyEyesModel" = some m.cls := findClass_of_methodNamed B.named
  have hlocks := B.notSynchronized
  subst hsz
  have hD := hD0.self (sz := s.heap.size)
  generalize hAe : va_A (WS_X12_hasParen cI cJ cZ cY a0 a0_a a0_image a0_texts a0_board a0_taken a0_fars a0_before a0_tape a0_pile a0_rows a0_told a0_values a0_truth a0_keeps v0) s.heap.size = A at hD hT ⊢
  have hA : ∀ q : Nat, s.heap.size ≤ q → A q := fun q h => by rw [← hAe]; exact Or.inr h
  have hS : va_S A s.heap s.heap [] := va_S.rf
  have hl := lv_entry ([.ref a0]) (n := 2) (Nat.le_of_ble_eq_true rfl)
  have he : entryFrame m args 2 = F0 m 0 (lg_sl ([.ref a0]) ++ List.replicate (2 - (lg_sl ([.ref a0])).length) Slot.unset).toArray [] := by rw [hargs, lg_entry_eq]
  rw [he]
  generalize (lg_sl ([.ref a0]) ++ List.replicate (2 - (lg_sl ([.ref a0])).length) Slot.unset).toArray = ls at hl ⊢
  have hl : lv_has ls 2 [(0, .ref a0)] := hl
  show W p l e rm_X12_hasParen s m args below meth c s.heap [] 0 0 _ _
  refine W.genQ (fun Q hQ => ?_)
  have b_2 : ∀ (n : Nat), ∀ (x1 : Int32) (H : Heap) (locs : List Loc) (ls : Array Slot), va_P D vwCl (WS_X12_hasParen cI cJ cZ cY a0 a0_a a0_image a0_texts a0_board a0_taken a0_fars a0_before a0_tape a0_pile a0_rows a0_told a0_values a0_truth a0_keeps v0) H → va_D A (WS_X12_hasParen cI cJ cZ cY a0 a0_a a0_image a0_texts a0_board a0_taken a0_fars a0_before a0_tape a0_pile a0_rows a0_told a0_values a0_truth a0_keeps v0) → va_S A s.heap H locs → lv_has ls 2 [(0, .ref a0), (1, .int x1)] → f_X12_hasParen_b2 v0 n (x1) = some res → W p l e rm_X12_hasParen s m args below meth c H locs 0 0 Q (F0 m 2 ls []) := by
    intro n
    induction n with
    | zero =>
      intro x1 H locs ls hP hD hS hl hg
      exact (g_lp0 hg).elim
    | succ n ih =>
      intro x1 H locs ls hP hD hS hl hg
      have hg : f_X12_hasParen_b2B v0 (f_X12_hasParen_b2 v0 n) x1 = some res := hg
      unfold f_X12_hasParen_b2B at hg
      refine lv_iload_n hx hb dX12_hasParen_2 rfl (lv_at hl 1 rfl) ?_
      refine lv_aload_n hx hb dX12_hasParen_3 rfl (lv_at hl 0 rfl) ?_
      refine va_get (ci := 11) (v := .int (pX12_piled v0)) (C := RX12) (T := TX12) (N := 43) hx hb htb uX12 hown hK.1 hP 0 rfl rfl 24 (by decide) (htb _ tg_960) (fun _ h9 => h9) rfl dX12_hasParen_4 ?_
      refine lv_icmp_ge (tgt := 29) hx hb dX12_hasParen_7 (by decide) (fun c_1 => ?_) (fun c_1 => ?_)
      · have hg := g_it hg c_1
        refine lv_iconst (v := 0) hx hb dX12_hasParen_29 (by decide) ?_
        have hg := Option.some.inj hg
        rw [hQ]
        exact W.zret (v := 0) (ty := .boolean) hx hb hr rfl (fun t ht hW => ⟨⟨0, (), rfl, hg, by rw [ht]; exact hP, hD⟩, hS.F ht⟩) hS.2.2 dX12_hasParen_30
      · have hg := g_if hg c_1
        refine lv_aload_n hx hb dX12_hasParen_10 rfl (lv_at hl 0 rfl) ?_
        refine va_get (ci := 11) (v := .ref a0_pile) (C := RX12) (T := TX12) (N := 43) hx hb htb uX12 hown hK.1 hP 0 rfl rfl 23 (by decide) (htb _ tg_959) (fun _ h9 => h9) rfl dX12_hasParen_11 ?_
        refine lv_iload_n hx hb dX12_hasParen_14 rfl (lv_at hl 1 rfl) ?_
        obtain ⟨h_2, hg⟩ := g_gde hg
        refine va_iald hx hb hK.1 hP 9 0 rfl rfl (inB_vp h_2) dX12_hasParen_15 ?_
        refine lv_bipush (v := 40) hx hb dX12_hasParen_16 (by decide) ?_
        refine lv_icmp_lt (tgt := 23) hx hb dX12_hasParen_18 (by decide) (fun c_3 => ?_) (fun c_3 => ?_)
        · have hg := g_it hg c_3
          obtain ⟨x1_4, ex1_4⟩ : ∃ z : Int32, z = x1 + 1 := ⟨_, rfl⟩
          have hg := g_lte hg x1_4 ex1_4
          refine lv_iinc (v := x1_4) (lv' := [(1, .int x1_4), (0, .ref a0)]) hx hb dX12_hasParen_23 hl (k := 1) rfl (by rw [ex1_4]; rfl) (by decide) rfl (fun ls hl => ?_)
          refine lv_goto (tgt := 2) hx hb dX12_hasParen_26 (by decide) ?_
          exact ih x1_4 H locs ls hP hD hS (lv_sub hl [1, 0] rfl) hg
        · have hg := g_if hg c_3
          refine lv_iconst (v := 1) hx hb dX12_hasParen_21 (by decide) ?_
          have hg := Option.some.inj hg
          rw [hQ]
          exact W.zret (v := 1) (ty := .boolean) hx hb hr rfl (fun t ht hW => ⟨⟨1, (), rfl, hg, by rw [ht]; exact hP, hD⟩, hS.F ht⟩) hS.2.2 dX12_hasParen_22
  generalize hHe : s.heap = H at hP ⊢
  have hS : va_S A s.heap H [] := by rw [← hHe]; exact va_S.rf
  generalize ([] : List Loc) = locs at hS ⊢
  unfold f_X12_hasParen at hg
  refine lv_iconst (v := 0) hx hb dX12_hasParen_0 (by decide) ?_
  refine lv_istore_n (lv' := [(1, .int 0), (0, .ref a0)]) hx hb dX12_hasParen_1 rfl hl (by decide) rfl (fun ls hl => ?_)
  exact b_2 fU 0 H locs ls hP hD hS (lv_sub hl [1, 0] rfl) hg

/-! ManyEyesModel.goesOn()Z -/
def WS_X12_goesOn (cI cJ cZ cY : ClassId) (a0 a0_a a0_image a0_texts a0_board a0_taken a0_fars a0_before a0_tape a0_pile a0_rows a0_told a0_values a0_truth a0_keeps : Nat) (v0 : BX12) : va_W := (GX12 cI cJ cZ cY a0 a0_a a0_image a0_texts a0_board a0_taken a0_fars a0_before a0_tape a0_pile a0_rows a0_told a0_values a0_truth a0_keeps v0)
def f_X12_goesOn_b54 (v0 : BX12) : Option (Int32) := (f_X12_hasParen v0).bind (fun r_1 => if (r_1 : Int32) = 0 then (some 0) else (some 1))
def f_X12_goesOn (v0 : BX12) : Option (Int32) := if ((pX12_token v0) : Int32) = 43 then (some 1) else (if ((pX12_token v0) : Int32) = 45 then (some 1) else (if ((pX12_token v0) : Int32) = 42 then (some 1) else (if ((pX12_token v0) : Int32) = 47 then (some 1) else (if ((pX12_token v0) : Int32) = 44 then (f_X12_goesOn_b54 v0 ) else (if ((pX12_token v0) : Int32) = 41 then (f_X12_goesOn_b54 v0 ) else (some 0))))))
abbrev rm_X12_goesOn : Room := { frames := 1, cells := 0, slots := 0, locals := 21 }
set_option maxHeartbeats 4000000 in
set_option maxRecDepth 100000 in
theorem k_X12_goesOn {l : Launch} {D : va_G} {cI cJ cZ cY : ClassId} {tX tY : Nat} {sz : Nat} (a0 a0_a a0_image a0_texts a0_board a0_taken a0_fars a0_before a0_tape a0_pile a0_rows a0_told a0_values a0_truth a0_keeps : Nat) (v0 : BX12) (res : Int32) (hg : f_X12_goesOn v0 = some res) : Met l yX12_goesOn (Cond.code yX12_goesOn cX12_goesOn 1 (some .boolean) :: TB) rm_X12_goesOn (PC D cI cJ cZ cY tX tY [.ref a0] (WS_X12_goesOn cI cJ cZ cY a0 a0_a a0_image a0_texts a0_board a0_taken a0_fars a0_before a0_tape a0_pile a0_rows a0_told a0_values a0_truth a0_keeps v0) sz) (va_Qi (fun (r : Int32) (_ : Unit) => r = res) (BC D (fun _ : Unit => WS_X12_goesOn cI cJ cZ cY a0 a0_a a0_image a0_texts a0_board a0_taken a0_fars a0_before a0_tape a0_pile a0_rows a0_told a0_values a0_truth a0_keeps v0) (va_A (WS_X12_goesOn cI cJ cZ cY a0 a0_a a0_image a0_texts a0_board a0_taken a0_fars a0_before a0_tape a0_pile a0_rows a0_told a0_values a0_truth a0_keeps v0) sz)) (va_A (WS_X12_goesOn cI cJ cZ cY a0 a0_a a0_image a0_texts a0_board a0_taken a0_fars a0_before a0_tape a0_pile a0_rows a0_told a0_values a0_truth a0_keeps v0) sz)) 0 0 (va_A (WS_X12_goesOn cI cJ cZ cY a0 a0_a a0_image a0_texts a0_board a0_taken a0_fars a0_before a0_tape a0_pile a0_rows a0_told a0_values a0_truth a0_keeps v0) sz) := by
  refine Met.ofW (cc := cX12_goesOn) (maxL := 1) (ret := (some .boolean)) (by decide) rfl ?_
  intro p e s m args below meth c s₁ B hml hv
  obtain ⟨hargs, hsz, hP, hK, hD0, hT⟩ := hv
  have hx := B.exec
  have hb := B.bytes
  have hr := B.returns
  have htb : ∀ w ∈ TB, w.before args s = true := fun w h => atoms_spec (ws := Cond.code yX12_goesOn cX12_goesOn 1 (some .boolean) :: TB) B.pre w (List.mem_cons_of_mem _ h)
  have hown : s.vm.findClass "ManyEyesModel" = some m.cls := findClass_of_methodNamed B.named
  have hlocks := B.notSynchronized
  subst hsz
  have hD := hD0.self (sz := s.heap.size)
  generalize hAe : va_A (WS_X12_goesOn cI cJ cZ cY a0 a0_a a0_image a0_texts a0_board a0_taken a0_fars a0_before a0_tape a0_pile a0_rows a0_told a0_values a0_truth a0_keeps v0) s.heap.size = A at hD hT ⊢
  have hA : ∀ q : Nat, s.heap.size ≤ q → A q := fun q h => by rw [← hAe]; exact Or.inr h
  have hS : va_S A s.heap s.heap [] := va_S.rf
  have hl := lv_entry ([.ref a0]) (n := 1) (Nat.le_of_ble_eq_true rfl)
  have he : entryFrame m args 1 = F0 m 0 (lg_sl ([.ref a0]) ++ List.replicate (1 - (lg_sl ([.ref a0])).length) Slot.unset).toArray [] := by rw [hargs, lg_entry_eq]
  rw [he]
  generalize (lg_sl ([.ref a0]) ++ List.replicate (1 - (lg_sl ([.ref a0])).length) Slot.unset).toArray = ls at hl ⊢
  have hl : lv_has ls 1 [(0, .ref a0)] := hl
  show W p l e rm_X12_goesOn s m args below meth c s.heap [] 0 0 _ _
  refine W.genQ (fun Q hQ => ?_)
  have b_54 : ∀ (H : Heap) (locs : List Loc) (ls : Array Slot), va_P D vwCl (WS_X12_goesOn cI cJ cZ cY a0 a0_a a0_image a0_texts a0_board a0_taken a0_fars a0_before a0_tape a0_pile a0_rows a0_told a0_values a0_truth a0_keeps v0) H → va_D A (WS_X12_goesOn cI cJ cZ cY a0 a0_a a0_image a0_texts a0_board a0_taken a0_fars a0_before a0_tape a0_pile a0_rows a0_told a0_values a0_truth a0_keeps v0) → va_S A s.heap H locs → lv_has ls 1 [(0, .ref a0)] → f_X12_goesOn_b54 v0  = some res → W p l e rm_X12_goesOn s m args below meth c H locs 0 0 Q (F0 m 54 ls []) := by
    intro  H locs ls hP hD hS hl hg
    unfold f_X12_goesOn_b54 at hg
    refine lv_aload_n hx hb dX12_goesOn_54 rfl (lv_at hl 0 rfl) ?_
    obtain ⟨r_1, hr_1, hg⟩ := g_bd hg
    refine cc_i (va_runV (C := RX12) (As := []) (rest := []) ⟨hx, hb, hml, hown, htb⟩ (k_X12_hasParen a0 a0_a a0_image a0_texts a0_board a0_taken a0_fars a0_before a0_tape a0_pile a0_rows a0_told a0_values a0_truth a0_keeps v0 r_1 hr_1) (cw_V 0 htb tg_1260 tg_13 tg_1257 tg_1259 ts_52 rfl rfl (by decide +kernel) ⟨Nat.le_of_ble_eq_true rfl, Nat.le_of_ble_eq_true rfl⟩) ⟨PC.blind, va_recv hK.1 hP (ci := 11) (q0 := 0) rfl rfl, PC.pre hK hT hP hD hS hA [0, 1, 2, 3, 4, 5, 6, 7, 8, 9, 10, 11, 12, 13, 14] rfl (by decide)⟩ rfl rfl hl.1 rfl (lv_room (Nat.le_of_ble_eq_true rfl)) dX12_goesOn_55 ⟨Nat.le_of_ble_eq_true rfl, Nat.le_of_ble_eq_true rfl⟩) hP hD hS hA [0, 1, 2, 3, 4, 5, 6, 7, 8, 9, 10, 11, 12, 13, 14] [] rfl rfl (by decide) (by decide) (fun r9 u9 H locs hw hP hD hS => ?_)
    have hw := hw.symm
    subst hw
    have hP : va_P D vwCl (WS_X12_goesOn cI cJ cZ cY a0 a0_a a0_image a0_texts a0_board a0_taken a0_fars a0_before a0_tape a0_pile a0_rows a0_told a0_values a0_truth a0_keeps v0) H := hP.sub [0, 1, 2, 3, 4, 5, 6, 7, 8, 9, 10, 11, 12, 13, 14] rfl
    have hD : va_D A (WS_X12_goesOn cI cJ cZ cY a0 a0_a a0_image a0_texts a0_board a0_taken a0_fars a0_before a0_tape a0_pile a0_rows a0_told a0_values a0_truth a0_keeps v0) := hD.sub [0, 1, 2, 3, 4, 5, 6, 7, 8, 9, 10, 11, 12, 13, 14] (by decide) rfl
    refine lv_if_eq (tgt := 65) hx hb dX12_goesOn_58 (by decide) (fun c_2 => ?_) (fun c_2 => ?_)
    · have hg := g_it hg c_2
      refine lv_iconst (v := 0) hx hb dX12_goesOn_65 (by decide) ?_
      have hg := Option.some.inj hg
      rw [hQ]
      exact W.zret (v := 0) (ty := .boolean) hx hb hr rfl (fun t ht hW => ⟨⟨0, (), rfl, hg, by rw [ht]; exact hP, hD⟩, hS.F ht⟩) hS.2.2 dX12_goesOn_66
    · have hg := g_if hg c_2
      refine lv_iconst (v := 1) hx hb dX12_goesOn_61 (by decide) ?_
      refine lv_goto (tgt := 66) hx hb dX12_goesOn_62 (by decide) ?_
      have hg := Option.some.inj hg
      rw [hQ]
      exact W.zret (v := 1) (ty := .boolean) hx hb hr rfl (fun t ht hW => ⟨⟨1, (), rfl, hg, by rw [ht]; exact hP, hD⟩, hS.F ht⟩) hS.2.2 dX12_goesOn_66
  generalize hHe : s.heap = H at hP ⊢
  have hS : va_S A s.heap H [] := by rw [← hHe]; exact va_S.rf
  generalize ([] : List Loc) = locs at hS ⊢
  unfold f_X12_goesOn at hg
  refine lv_aload_n hx hb dX12_goesOn_0 rfl (lv_at hl 0 rfl) ?_
  refine va_get (ci := 11) (v := .int (pX12_token v0)) (C := RX12) (T := TX12) (N := 43) hx hb htb uX12 hown hK.1 hP 0 rfl rfl 15 (by decide) (htb _ tg_951) (fun _ h9 => h9) rfl dX12_goesOn_1 ?_
  refine lv_bipush (v := 43) hx hb dX12_goesOn_4 (by decide) ?_
  refine lv_icmp_eq (tgt := 61) hx hb dX12_goesOn_6 (by decide) (fun c_3 => ?_) (fun c_3 => ?_)
  · have hg := g_it hg c_3
    refine lv_iconst (v := 1) hx hb dX12_goesOn_61 (by decide) ?_
    refine lv_goto (tgt := 66) hx hb dX12_goesOn_62 (by decide) ?_
    have hg := Option.some.inj hg
    rw [hQ]
    exact W.zret (v := 1) (ty := .boolean) hx hb hr rfl (fun t ht hW => ⟨⟨1, (), rfl, hg, by rw [ht]; exact hP, hD⟩, hS.F ht⟩) hS.2.2 dX12_goesOn_66
  · have hg := g_if hg c_3
    refine lv_aload_n hx hb dX12_goesOn_9 rfl (lv_at hl 0 rfl) ?_
    refine va_get (ci := 11) (v := .int (pX12_token v0)) (C := RX12) (T := TX12) (N := 43) hx hb htb uX12 hown hK.1 hP 0 rfl rfl 15 (by decide) (htb _ tg_951) (fun _ h9 => h9) rfl dX12_goesOn_10 ?_
    refine lv_bipush (v := 45) hx hb dX12_goesOn_13 (by decide) ?_
    refine lv_icmp_eq (tgt := 61) hx hb dX12_goesOn_15 (by decide) (fun c_4 => ?_) (fun c_4 => ?_)
    · have hg := g_it hg c_4
      refine lv_iconst (v := 1) hx hb dX12_goesOn_61 (by decide) ?_
      refine lv_goto (tgt := 66) hx hb dX12_goesOn_62 (by decide) ?_
      have hg := Option.some.inj hg
      rw [hQ]
      exact W.zret (v := 1) (ty := .boolean) hx hb hr rfl (fun t ht hW => ⟨⟨1, (), rfl, hg, by rw [ht]; exact hP, hD⟩, hS.F ht⟩) hS.2.2 dX12_goesOn_66
    · have hg := g_if hg c_4
      refine lv_aload_n hx hb dX12_goesOn_18 rfl (lv_at hl 0 rfl) ?_
      refine va_get (ci := 11) (v := .int (pX12_token v0)) (C := RX12) (T := TX12) (N := 43) hx hb htb uX12 hown hK.1 hP 0 rfl rfl 15 (by decide) (htb _ tg_951) (fun _ h9 => h9) rfl dX12_goesOn_19 ?_
      refine lv_bipush (v := 42) hx hb dX12_goesOn_22 (by decide) ?_
      refine lv_icmp_eq (tgt := 61) hx hb dX12_goesOn_24 (by decide) (fun c_5 => ?_) (fun c_5 => ?_)
      · have hg := g_it hg c_5
        refine lv_iconst (v := 1) hx hb dX12_goesOn_61 (by decide) ?_
        refine lv_goto (tgt := 66) hx hb dX12_goesOn_62 (by decide) ?_
        have hg := Option.some.inj hg
        rw [hQ]
        exact W.zret (v := 1) (ty := .boolean) hx hb hr rfl (fun t ht hW => ⟨⟨1, (), rfl, hg, by rw [ht]; exact hP, hD⟩, hS.F ht⟩) hS.2.2 dX12_goesOn_66
      · have hg := g_if hg c_5
        refine lv_aload_n hx hb dX12_goesOn_27 rfl (lv_at hl 0 rfl) ?_
        refine va_get (ci := 11) (v := .int (pX12_token v0)) (C := RX12) (T := TX12) (N := 43) hx hb htb uX12 hown hK.1 hP 0 rfl rfl 15 (by decide) (htb _ tg_951) (fun _ h9 => h9) rfl dX12_goesOn_28 ?_
        refine lv_bipush (v := 47) hx hb dX12_goesOn_31 (by decide) ?_
        refine lv_icmp_eq (tgt := 61) hx hb dX12_goesOn_33 (by decide) (fun c_6 => ?_) (fun c_6 => ?_)
        · have hg := g_it hg c_6
          refine lv_iconst (v := 1) hx hb dX12_goesOn_61 (by decide) ?_
          refine lv_goto (tgt := 66) hx hb dX12_goesOn_62 (by decide) ?_
          have hg := Option.some.inj hg
          rw [hQ]
          exact W.zret (v := 1) (ty := .boolean) hx hb hr rfl (fun t ht hW => ⟨⟨1, (), rfl, hg, by rw [ht]; exact hP, hD⟩, hS.F ht⟩) hS.2.2 dX12_goesOn_66
        · have hg := g_if hg c_6
          refine lv_aload_n hx hb dX12_goesOn_36 rfl (lv_at hl 0 rfl) ?_
          refine va_get (ci := 11) (v := .int (pX12_token v0)) (C := RX12) (T := TX12) (N := 43) hx hb htb uX12 hown hK.1 hP 0 rfl rfl 15 (by decide) (htb _ tg_951) (fun _ h9 => h9) rfl dX12_goesOn_37 ?_
          refine lv_bipush (v := 44) hx hb dX12_goesOn_40 (by decide) ?_
          refine lv_icmp_eq (tgt := 54) hx hb dX12_goesOn_42 (by decide) (fun c_7 => ?_) (fun c_7 => ?_)
          · have hg := g_it hg c_7
            exact b_54  H locs ls hP hD hS (lv_sub hl [0] rfl) hg
          · have hg := g_if hg c_7
            refine lv_aload_n hx hb dX12_goesOn_45 rfl (lv_at hl 0 rfl) ?_
            refine va_get (ci := 11) (v := .int (pX12_token v0)) (C := RX12) (T := TX12) (N := 43) hx hb htb uX12 hown hK.1 hP 0 rfl rfl 15 (by decide) (htb _ tg_951) (fun _ h9 => h9) rfl dX12_goesOn_46 ?_
            refine lv_bipush (v := 41) hx hb dX12_goesOn_49 (by decide) ?_
            refine lv_icmp_ne (tgt := 65) hx hb dX12_goesOn_51 (by decide) (fun c_8 => ?_) (fun c_8 => ?_)
            · have hg := g_if hg c_8
              refine lv_iconst (v := 0) hx hb dX12_goesOn_65 (by decide) ?_
              have hg := Option.some.inj hg
              rw [hQ]
              exact W.zret (v := 0) (ty := .boolean) hx hb hr rfl (fun t ht hW => ⟨⟨0, (), rfl, hg, by rw [ht]; exact hP, hD⟩, hS.F ht⟩) hS.2.2 dX12_goesOn_66
            · have hg := g_it hg c_8
              exact b_54  H locs ls hP hD hS (lv_sub hl [0] rfl) hg
