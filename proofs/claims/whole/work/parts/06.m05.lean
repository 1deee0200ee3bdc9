/-! ManyEyesModel.covered(I)I -/
def WS_X12_covered (cI cJ cZ cY : ClassId) (a0 a0_a a0_image a0_texts a0_board a0_taken a0_fars a0_before a0_tape a0_pile a0_rows a0_told a0_values a0_truth a0_keeps : Nat) (v0 : BX12) : va_W := (GX12 cI cJ cZ cY a0 a0_a a0_image a0_texts a0_board a0_taken a0_fars a0_before a0_tape a0_pile a0_rows a0_told a0_values a0_truth a0_keeps v0)
def f_X12_covered_b49 (v0 : BX12) (J29 : (Int32 × Int32) → Option (Int32)) (x3 : Int32) (t0 : Int32) (t1 : Int32) : Option (Int32) := g_lt ((t0 + t1) : Int32) (fun x2_1 => g_lt (x3 + 1 : Int32) (fun x3_2 => J29 (x2_1, x3_2)))
def f_X12_covered_b29B (v0 : BX12) (J29 : Int32 × Int32 → Option (Int32)) (x2 : Int32) (x3 : Int32) : Option (Int32) := if (64 : Int32) ≤ x3 then (some x2) else ((f_X12_coverOf v0 x3).bind (fun r_4 => if (r_4 : Int32) = 0 then (f_X12_covered_b49 v0 J29 x3 x2 1) else (f_X12_covered_b49 v0 J29 x3 x2 0)))
def f_X12_covered_b29 (v0 : BX12) : Nat → (Int32 × Int32) → Option (Int32) := g_lp (fun J z => f_X12_covered_b29B v0 J z.1 z.2)
def f_X12_covered_b14 (v0 : BX12) (x1 : Int32) : Option (Int32) := if (x1 : Int32) = (-1) then (f_X12_covered_b29 v0 fU (0, 0)) else ((f_X12_coverOf v0 x1).bind (fun r_7 => some r_7))
def f_X12_covered (v0 : BX12) (p0 : Int32) : Option (Int32) := if (p0 : Int32) = (-1) then (f_X12_covered_b14 v0 p0) else ((f_X12_isSide p0).bind (fun r_9 => if (r_9 : Int32) = 0 then (some (-1)) else (f_X12_covered_b14 v0 p0)))
abbrev rm_X12_covered : Room := { frames := 3, cells := 0, slots := 0, locals := 66 }
set_option maxHeartbeats 4000000 in
set_option maxRecDepth 100000 in
theorem k_X12_covered {l : Launch} {D : va_G} {cI cJ cZ cY : ClassId} {tX tY : Nat} {sz : Nat} (a0 a0_a a0_image a0_texts a0_board a0_taken a0_fars a0_before a0_tape a0_pile a0_rows a0_told a0_values a0_truth a0_keeps : Nat) (v0 : BX12) (p0 : Int32) (res : Int32) (hg : f_X12_covered v0 p0 = some res) : Met l yX12_covered (Cond.code yX12_covered cX12_covered 4 (some .int) :: TB) rm_X12_covered (PC D cI cJ cZ cY tX tY [.ref a0, .int p0] (WS_X12_covered cI cJ cZ cY a0 a0_a a0_image a0_texts a0_board a0_taken a0_fars a0_before a0_tape a0_pile a0_rows a0_told a0_values a0_truth a0_keeps v0) sz) (va_Qi (fun (r : Int32) (_ : Unit) => r = res) (BC D (fun _ : Unit => WS_X12_covered cI cJ cZ cY a0 a0_a a0_image a0_texts a0_board a0_taken a0_fars a0_before a0_tape a0_pile a0_rows a0_told a0_values a0_truth a0_keeps v0) (va_A (WS_X12_covered cI cJ cZ cY a0 a0_a a0_image a0_texts a0_board a0_taken a0_fars a0_before a0_tape a0_pile a0_rows a0_told a0_values a0_truth a0_keeps v0) sz)) (va_A (WS_X12_covered cI cJ cZ cY a0 a0_a a0_image a0_texts a0_board a0_taken a0_fars a0_before a0_tape a0_pile a0_rows a0_told a0_values a0_truth a0_keeps v0) sz)) 0 0 (va_A (WS_X12_covered cI cJ cZ cY a0 a0_a a0_image a0_texts a0_board a0_taken a0_fars a0_before a0_tape a0_pile a0_rows a0_told a0_values a0_truth a0_keeps v0) sz) := by
  refine Met.ofW (cc := cX12_covered) (maxL := 4) (ret := (some .int)) (by decide) rfl ?_
  intro p e s m args below meth c s₁ B hml hv
  obtain ⟨hargs, hsz, hP, hK, hD0, hT⟩ := hv
  have hx := B.exec
  have hb := B.bytes
  have hr := B.returns
  have htb : ∀ w ∈ TB, w.before args s = true := fun w h => atoms_spec (ws := Cond.code yX12_covered cX12_covered 4 (some .int) :: TB) B.pre w (List.mem_cons_of_mem _ h)
  have hown : s.vm.findClass "ManyEyesModel" = some m.cls := findClass_of_methodNamed B.named
  have hlocks := B.notSynchronized
  subst hsz
  have hD := hD0.self (sz := s.heap.size)
  generalize hAe : va_A (WS_X12_covered cI cJ cZ cY a0 a0_a a0_image a0_texts a0_board a0_taken a0_fars a0_before a0_tape a0_pile a0_rows a0_told a0_values a0_truth a0_keeps v0) s.heap.size = A at hD hT ⊢
  have hA : ∀ q : Nat, s.heap.size ≤ q → A q := fun q h => by rw [← hAe]; exact Or.inr h
  have hS : va_S A s.heap s.heap [] := va_S.rf
  have hl := lv_entry ([.ref a0, .int p0]) (n := 4) (Nat.le_of_ble_eq_true rfl)
  have he : entryFrame m args 4 = F0 m 0 (lg_sl ([.ref a0, .int p0]) ++ List.replicate (4 - (lg_sl ([.ref a0, .int p0])).length) Slot.unset).toArray [] := by rw [hargs, lg_entry_eq]
  rw [he]
  generalize (lg_sl ([.ref a0, .int p0]) ++ List.replicate (4 - (lg_sl ([.ref a0, .int p0])).length) Slot.unset).toArray = ls at hl ⊢
  have hl : lv_has ls 4 [(0, .ref a0), (1, .int p0)] := hl
  show W p l e rm_X12_covered s m args below meth c s.heap [] 0 0 _ _
  refine W.genQ (fun Q hQ => ?_)
  have b_49 : ∀ (J29 : (Int32 × Int32) → Option (Int32)) (hJ29 : ∀ (x2 : Int32) (x3 : Int32) (H : Heap) (locs : List Loc) (ls : Array Slot), va_P D vwCl (WS_X12_covered cI cJ cZ cY a0 a0_a a0_image a0_texts a0_board a0_taken a0_fars a0_before a0_tape a0_pile a0_rows a0_told a0_values a0_truth a0_keeps v0) H → va_D A (WS_X12_covered cI cJ cZ cY a0 a0_a a0_image a0_texts a0_board a0_taken a0_fars a0_before a0_tape a0_pile a0_rows a0_told a0_values a0_truth a0_keeps v0) → va_S A s.heap H locs → lv_has ls 4 [(0, .ref a0), (2, .int x2), (3, .int x3)] → J29 (x2, x3) = some res → W p l e rm_X12_covered s m args below meth c H locs 0 0 Q (F0 m 29 ls [])), ∀ (x3 : Int32) (t0 : Int32) (t1 : Int32) (H : Heap) (locs : List Loc) (ls : Array Slot), va_P D vwCl (WS_X12_covered cI cJ cZ cY a0 a0_a a0_image a0_texts a0_board a0_taken a0_fars a0_before a0_tape a0_pile a0_rows a0_told a0_values a0_truth a0_keeps v0) H → va_D A (WS_X12_covered cI cJ cZ cY a0 a0_a a0_image a0_texts a0_board a0_taken a0_fars a0_before a0_tape a0_pile a0_rows a0_told a0_values a0_truth a0_keeps v0) → va_S A s.heap H locs → lv_has ls 4 [(0, .ref a0), (3, .int x3)] → f_X12_covered_b49 v0 J29 x3 t0 t1 = some res → W p l e rm_X12_covered s m args below meth c H locs 0 0 Q (F0 m 49 ls [.int t1, .int t0]) := by
    intro J29 hJ29 x3 t0 t1 H locs ls hP hD hS hl hg
    unfold f_X12_covered_b49 at hg
    refine lv_iadd hx hb dX12_covered_49 ?_
    refine lv_topi (fun x2_1 ex2_1 => ?_)
    have hg := g_lte hg x2_1 ex2_1
    refine lv_istore_n (lv' := [(2, .int x2_1), (0, .ref a0), (3, .int x3)]) hx hb dX12_covered_50 rfl hl (by decide) rfl (fun ls hl => ?_)
    obtain ⟨x3_2, ex3_2⟩ : ∃ z : Int32, z = x3 + 1 := ⟨_, rfl⟩
    have hg := g_lte hg x3_2 ex3_2
    refine lv_iinc (v := x3_2) (lv' := [(3, .int x3_2), (2, .int x2_1), (0, .ref a0)]) hx hb dX12_covered_51 hl (k := 2) rfl (by rw [ex3_2]; rfl) (by decide) rfl (fun ls hl => ?_)
    refine lv_goto (tgt := 29) hx hb dX12_covered_54 (by decide) ?_
    exact hJ29 x2_1 x3_2 H locs ls hP hD hS (lv_sub hl [2, 1, 0] rfl) hg
  have b_29 : ∀ (n : Nat), ∀ (x2 : Int32) (x3 : Int32) (H : Heap) (locs : List Loc) (ls : Array Slot), va_P D vwCl (WS_X12_covered cI cJ cZ cY a0 a0_a a0_image a0_texts a0_board a0_taken a0_fars a0_before a0_tape a0_pile a0_rows a0_told a0_values a0_truth a0_keeps v0) H → va_D A (WS_X12_covered cI cJ cZ cY a0 a0_a a0_image a0_texts a0_board a0_taken a0_fars a0_before a0_tape a0_pile a0_rows a0_told a0_values a0_truth a0_keeps v0) → va_S A s.heap H locs → lv_has ls 4 [(0, .ref a0), (2, .int x2), (3, .int x3)] → f_X12_covered_b29 v0 n (x2, x3) = some res → W p l e rm_X12_covered s m args below meth c H locs 0 0 Q (F0 m 29 ls []) := by
    intro n
    induction n with
    | zero =>
      intro x2 x3 H locs ls hP hD hS hl hg
      exact (g_lp0 hg).elim
    | succ n ih =>
      intro x2 x3 H locs ls hP hD hS hl hg
      have hg : f_X12_covered_b29B v0 (f_X12_covered_b29 v0 n) x2 x3 = some res := hg
      unfold f_X12_covered_b29B at hg
      refine lv_iload_n hx hb dX12_covered_29 rfl (lv_at hl 2 rfl) ?_
      refine lv_bipush (v := 64) hx hb dX12_covered_30 (by decide) ?_
      refine lv_icmp_ge (tgt := 57) hx hb dX12_covered_32 (by decide) (fun c_3 => ?_) (fun c_3 => ?_)
      · have hg := g_it hg c_3
        refine lv_iload_n hx hb dX12_covered_57 rfl (lv_at hl 1 rfl) ?_
        have hg := Option.some.inj hg
        rw [hQ]
        exact W.iret (v := x2) hx hb hr (fun t ht hW => ⟨⟨x2, (), rfl, hg, by rw [ht]; exact hP, hD⟩, hS.F ht⟩) hS.2.2 dX12_covered_58
      · have hg := g_if hg c_3
        refine lv_iload_n hx hb dX12_covered_35 rfl (lv_at hl 1 rfl) ?_
        refine lv_aload_n hx hb dX12_covered_36 rfl (lv_at hl 0 rfl) ?_
        refine lv_iload_n hx hb dX12_covered_37 rfl (lv_at hl 2 rfl) ?_
        obtain ⟨r_4, hr_4, hg⟩ := g_bd hg
        refine cc_i (va_runV (C := RX12) (As := [.int x3]) (rest := [.int x2]) ⟨hx, hb, hml, hown, htb⟩ (k_X12_coverOf a0 a0_a a0_image a0_texts a0_board a0_taken a0_fars a0_before a0_tape a0_pile a0_rows a0_told a0_values a0_truth a0_keeps v0 x3 r_4 hr_4) (cw_V 1 htb tg_1164 tg_13 tg_1161 tg_1163 ts_38 rfl rfl (by decide +kernel) ⟨Nat.le_of_ble_eq_true rfl, Nat.le_of_ble_eq_true rfl⟩) ⟨PC.blind, va_recv hK.1 hP (ci := 11) (q0 := 0) rfl rfl, PC.pre hK hT hP hD hS hA [0, 1, 2, 3, 4, 5, 6, 7, 8, 9, 10, 11, 12, 13, 14] rfl (by decide)⟩ rfl rfl hl.1 rfl (lv_room (Nat.le_of_ble_eq_true rfl)) dX12_covered_38 ⟨Nat.le_of_ble_eq_true rfl, Nat.le_of_ble_eq_true rfl⟩) hP hD hS hA [0, 1, 2, 3, 4, 5, 6, 7, 8, 9, 10, 11, 12, 13, 14] [] rfl rfl (by decide) (by decide) (fun r9 u9 H locs hw hP hD hS => ?_)
        have hw := hw.symm
        subst hw
        have hP : va_P D vwCl (WS_X12_covered cI cJ cZ cY a0 a0_a a0_image a0_texts a0_board a0_taken a0_fars a0_before a0_tape a0_pile a0_rows a0_told a0_values a0_truth a0_keeps v0) H := hP.sub [0, 1, 2, 3, 4, 5, 6, 7, 8, 9, 10, 11, 12, 13, 14] rfl
        have hD : va_D A (WS_X12_covered cI cJ cZ cY a0 a0_a a0_image a0_texts a0_board a0_taken a0_fars a0_before a0_tape a0_pile a0_rows a0_told a0_values a0_truth a0_keeps v0) := hD.sub [0, 1, 2, 3, 4, 5, 6, 7, 8, 9, 10, 11, 12, 13, 14] (by decide) rfl
        refine lv_if_ne (tgt := 48) hx hb dX12_covered_41 (by decide) (fun c_5 => ?_) (fun c_5 => ?_)
        · have hg := g_if hg c_5
          refine lv_iconst (v := 0) hx hb dX12_covered_48 (by decide) ?_
          exact b_49 (f_X12_covered_b29 v0 n) ih x3 x2 0 H locs ls hP hD hS (lv_sub hl [0, 2] rfl) hg
        · have hg := g_it hg c_5
          refine lv_iconst (v := 1) hx hb dX12_covered_44 (by decide) ?_
          refine lv_goto (tgt := 49) hx hb dX12_covered_45 (by decide) ?_
          exact b_49 (f_X12_covered_b29 v0 n) ih x3 x2 1 H locs ls hP hD hS (lv_sub hl [0, 2] rfl) hg
  have b_14 : ∀ (x1 : Int32) (H : Heap) (locs : List Loc) (ls : Array Slot), va_P D vwCl (WS_X12_covered cI cJ cZ cY a0 a0_a a0_image a0_texts a0_board a0_taken a0_fars a0_before a0_tape a0_pile a0_rows a0_told a0_values a0_truth a0_keeps v0) H → va_D A (WS_X12_covered cI cJ cZ cY a0 a0_a a0_image a0_texts a0_board a0_taken a0_fars a0_before a0_tape a0_pile a0_rows a0_told a0_values a0_truth a0_keeps v0) → va_S A s.heap H locs → lv_has ls 4 [(0, .ref a0), (1, .int x1)] → f_X12_covered_b14 v0 x1 = some res → W p l e rm_X12_covered s m args below meth c H locs 0 0 Q (F0 m 14 ls []) := by
    intro x1 H locs ls hP hD hS hl hg
    unfold f_X12_covered_b14 at hg
    refine lv_iload_n hx hb dX12_covered_14 rfl (lv_at hl 1 rfl) ?_
    refine lv_iconst (v := (-1)) hx hb dX12_covered_15 (by decide) ?_
    refine lv_icmp_eq (tgt := 25) hx hb dX12_covered_16 (by decide) (fun c_6 => ?_) (fun c_6 => ?_)
    · have hg := g_it hg c_6
      refine lv_iconst (v := 0) hx hb dX12_covered_25 (by decide) ?_
      refine lv_istore_n (lv' := [(2, .int 0), (0, .ref a0), (1, .int x1)]) hx hb dX12_covered_26 rfl hl (by decide) rfl (fun ls hl => ?_)
      refine lv_iconst (v := 0) hx hb dX12_covered_27 (by decide) ?_
      refine lv_istore_n (lv' := [(3, .int 0), (2, .int 0), (0, .ref a0), (1, .int x1)]) hx hb dX12_covered_28 rfl hl (by decide) rfl (fun ls hl => ?_)
      exact b_29 fU 0 0 H locs ls hP hD hS (lv_sub hl [2, 1, 0] rfl) hg
    · have hg := g_if hg c_6
      refine lv_aload_n hx hb dX12_covered_19 rfl (lv_at hl 0 rfl) ?_
      refine lv_iload_n hx hb dX12_covered_20 rfl (lv_at hl 1 rfl) ?_
      obtain ⟨r_7, hr_7, hg⟩ := g_bd hg
      refine cc_i (va_runV (C := RX12) (As := [.int x1]) (rest := []) ⟨hx, hb, hml, hown, htb⟩ (k_X12_coverOf a0 a0_a a0_image a0_texts a0_board a0_taken a0_fars a0_before a0_tape a0_pile a0_rows a0_told a0_values a0_truth a0_keeps v0 x1 r_7 hr_7) (cw_V 1 htb tg_1164 tg_13 tg_1161 tg_1163 ts_38 rfl rfl (by decide +kernel) ⟨Nat.le_of_ble_eq_true rfl, Nat.le_of_ble_eq_true rfl⟩) ⟨PC.blind, va_recv hK.1 hP (ci := 11) (q0 := 0) rfl rfl, PC.pre hK hT hP hD hS hA [0, 1, 2, 3, 4, 5, 6, 7, 8, 9, 10, 11, 12, 13, 14] rfl (by decide)⟩ rfl rfl hl.1 rfl (lv_room (Nat.le_of_ble_eq_true rfl)) dX12_covered_21 ⟨Nat.le_of_ble_eq_true rfl, Nat.le_of_ble_eq_true rfl⟩) hP hD hS hA [0, 1, 2, 3, 4, 5, 6, 7, 8, 9, 10, 11, 12, 13, 14] [] rfl rfl (by decide) (by decide) (fun r9 u9 H locs hw hP hD hS => ?_)
      have hw := hw.symm
      subst hw
      have hP : va_P D vwCl (WS_X12_covered cI cJ cZ cY a0 a0_a a0_image a0_texts a0_board a0_taken a0_fars a0_before a0_tape a0_pile a0_rows a0_told a0_values a0_truth a0_keeps v0) H := hP.sub [0, 1, 2, 3, 4, 5, 6, 7, 8, 9, 10, 11, 12, 13, 14] rfl
      have hD : va_D A (WS_X12_covered cI cJ cZ cY a0 a0_a a0_image a0_texts a0_board a0_taken a0_fars a0_before a0_tape a0_pile a0_rows a0_told a0_values a0_truth a0_keeps v0) := hD.sub [0, 1, 2, 3, 4, 5, 6, 7, 8, 9, 10, 11, 12, 13, 14] (by decide) rfl
      have hg := Option.some.inj hg
      rw [hQ]
      exact W.iret (v := r_7) hx hb hr (fun t ht hW => ⟨⟨r_7, (), rfl, hg, by rw [ht]; exact hP, hD⟩, hS.F ht⟩) hS.2.2 dX12_covered_24
  generalize hHe : s.heap = H at hP ⊢
  have hS : va_S A s.heap H [] := by rw [← hHe]; exact va_S.rf
  generalize ([] : List Loc) = locs at hS ⊢
  unfold f_X12_covered at hg
  refine lv_iload_n hx hb dX12_covered_0 rfl (lv_at hl 1 rfl) ?_
  refine lv_iconst (v := (-1)) hx hb dX12_covered_1 (by decide) ?_
  refine lv_icmp_eq (tgt := 14) hx hb dX12_covered_2 (by decide) (fun c_8 => ?_) (fun c_8 => ?_)
  · have hg := g_it hg c_8
    exact b_14 p0 H locs ls hP hD hS (lv_sub hl [0, 1] rfl) hg
  · have hg := g_if hg c_8
    refine lv_iload_n hx hb dX12_covered_5 rfl (lv_at hl 1 rfl) ?_
    obtain ⟨r_9, hr_9, hg⟩ := g_bd hg
    refine cc_i (va_runS (As := [.int p0]) (rest := []) ⟨hx, hb, hml, hown, htb⟩ (k_X12_isSide p0 r_9 hr_9) (cw_S 1 htb tg_1108 tg_13 tg_1106 tg_1107 rfl rfl (by decide +kernel) ⟨Nat.le_of_ble_eq_true rfl, Nat.le_of_ble_eq_true rfl⟩) ⟨PC.blind, PC.pre hK hT hP hD hS hA [] rfl (by decide)⟩ rfl rfl hl.1 rfl (lv_room (Nat.le_of_ble_eq_true rfl)) dX12_covered_6 ⟨Nat.le_of_ble_eq_true rfl, Nat.le_of_ble_eq_true rfl⟩) hP hD hS hA [] [0, 1, 2, 3, 4, 5, 6, 7, 8, 9, 10, 11, 12, 13, 14] rfl rfl (by decide) (by decide) (fun r9 u9 H locs hw hP hD hS => ?_)
    have hw := hw.symm
    subst hw
    have hP : va_P D vwCl (WS_X12_covered cI cJ cZ cY a0 a0_a a0_image a0_texts a0_board a0_taken a0_fars a0_before a0_tape a0_pile a0_rows a0_told a0_values a0_truth a0_keeps v0) H := hP.sub [0, 1, 2, 3, 4, 5, 6, 7, 8, 9, 10, 11, 12, 13, 14] rfl
    have hD : va_D A (WS_X12_covered cI cJ cZ cY a0 a0_a a0_image a0_texts a0_board a0_taken a0_fars a0_before a0_tape a0_pile a0_rows a0_told a0_values a0_truth a0_keeps v0) := hD.sub [0, 1, 2, 3, 4, 5, 6, 7, 8, 9, 10, 11, 12, 13, 14] (by decide) rfl
    refine lv_if_ne (tgt := 14) hx hb dX12_covered_9 (by decide) (fun c_10 => ?_) (fun c_10 => ?_)
    · have hg := g_if hg c_10
      exact b_14 p0 H locs ls hP hD hS (lv_sub hl [0, 1] rfl) hg
    · have hg := g_it hg c_10
      refine lv_iconst (v := (-1)) hx hb dX12_covered_12 (by decide) ?_
      have hg := Option.some.inj hg
      rw [hQ]
      exact W.iret (v := (-1)) hx hb hr (fun t ht hW => ⟨⟨(-1), (), rfl, hg, by rw [ht]; exact hP, hD⟩, hS.F ht⟩) hS.2.2 dX12_covered_13

/-! ManyEyesModel.ends(IIIIZ)I -/
def WS_X12_ends (cI cJ cZ cY : ClassId) (a0 a0_a a0_image a0_texts a0_board a0_taken a0_fars a0_before a0_tape a0_pile a0_rows a0_told a0_values a0_truth a0_keeps : Nat) (v0 : BX12) : va_W := (GX12 cI cJ cZ cY a0 a0_a a0_image a0_texts a0_board a0_taken a0_fars a0_before a0_tape a0_pile a0_rows a0_told a0_values a0_truth a0_keeps v0)
def f_X12_ends_b182 (J44 : (Int32 × Int32 × Int32 × Int32 × Int32 × Int32 × BX12) → Option (Int32 × BX12)) (x1 : Int32) (x4 : Int32) (x5 : Int32) (x6 : Int32) (x7 : Int32) (x8 : Int32) (v0 : BX12) : Option (Int32 × BX12) := g_lt (x8 + 1 : Int32) (fun x8_1 => J44 (x1, x4, x5, x6, x7, x8_1, v0))
def f_X12_ends_b171 (J44 : (Int32 × Int32 × Int32 × Int32 × Int32 × Int32 × BX12) → Option (Int32 × BX12)) (x1 : Int32) (x4 : Int32) (x5 : Int32) (x6 : Int32) (x7 : Int32) (x8 : Int32) (x14 : Int32) (v0 : BX12) : Option (Int32 × BX12) := if (x7 : Int32) ≤ x14 then (f_X12_ends_b182 J44 x1 x4 x5 x6 x7 x8 v0) else (f_X12_ends_b182 J44 x1 x4 x5 x6 x14 x8 v0)
def f_X12_ends_b44B (J44 : Int32 × Int32 × Int32 × Int32 × Int32 × Int32 × BX12 → Option (Int32 × BX12)) (x1 : Int32) (x4 : Int32) (x5 : Int32) (x6 : Int32) (x7 : Int32) (x8 : Int32) (v0 : BX12) : Option (Int32 × BX12) := g_gd (inB 1 3170) (if (((pX12_a v0) (1 : Int32).toNatClampNeg) : Int32) ≤ x8 then (if (x5 : Int32) = 0 then (some (x6, v0)) else (some (x7, v0))) else (g_gd (inB (((620 : Int32) + ((2 : Int32) * x8)) + 1) 3170) (g_lt (((pX12_a v0) ((((620 : Int32) + ((2 : Int32) * x8)) + 1) : Int32).toNatClampNeg) : Int32) (fun x9_7 => (f_X12_apart v0 x8 x1).bind (fun r_8 => if (r_8 : Int32) ≤ x9_7 then ((f_X12_apart v0 x8 x1).bind (fun r_10 => g_lt (((x9_7 + 1) - r_10) : Int32) (fun x10_11 => g_lt (((x9_7 + 1) * (x9_7 + 1)) : Int32) (fun x11_12 => (f_X12_lensTake v0 x8 x4).bind (fun r_13 => (f_X12_floor (-((r_13 * x11_12) - ((255 : Int32) * (x11_12 - x10_11)))) x10_11).bind (fun r_14 => g_lt ((-r_14) : Int32) (fun x13_15 => g_gd (¬ (x10_11 : Int32) = 0) (g_lt (((((r_13 + 1) * x11_12) - 1) / x10_11) : Int32) (fun x14_17 => if (x13_15 : Int32) ≤ x6 then (f_X12_ends_b171 J44 x1 x4 x5 x6 x7 x8 x14_17 v0) else (f_X12_ends_b171 J44 x1 x4 x5 x13_15 x7 x8 x14_17 v0)))))))))) else (f_X12_ends_b182 J44 x1 x4 x5 x6 x7 x8 v0))))))
def f_X12_ends_b44 : Nat → (Int32 × Int32 × Int32 × Int32 × Int32 × Int32 × BX12) → Option (Int32 × BX12) := g_lp (fun J z => f_X12_ends_b44B J z.1 z.2.1 z.2.2.1 z.2.2.2.1 z.2.2.2.2.1 z.2.2.2.2.2.1 z.2.2.2.2.2.2)
def f_X12_ends (v0 : BX12) (p0 : Int32) (p1 : Int32) (p2 : Int32) (p3 : Int32) (p4 : Int32) : Option (Int32 × BX12) := (f_X12_isSide p0).bind (fun r_19 => if (r_19 : Int32) = 0 then (some ((-1), v0)) else ((f_X12_isPlace v0 p1 p2).bind (fun r_21 => if (r_21 : Int32) = 0 then (some ((-1), v0)) else ((f_X12_isSide p3).bind (fun r_23 => if (r_23 : Int32) = 0 then (some ((-1), v0)) else ((f_X12_look v0 p1 p2 0).bind (fun r_25 => f_X12_ends_b44 fU (p0, p3, p4, 0, 255, 0, r_25))))))))
abbrev rm_X12_ends : Room := { frames := 4, cells := 0, slots := 0, locals := 92 }
set_option maxHeartbeats 4000000 in
set_option maxRecDepth 100000 in
theorem k_X12_ends {l : Launch} {D : va_G} {cI cJ cZ cY : ClassId} {tX tY : Nat} {sz : Nat} (a0 a0_a a0_image a0_texts a0_board a0_taken a0_fars a0_before a0_tape a0_pile a0_rows a0_told a0_values a0_truth a0_keeps : Nat) (v0 : BX12) (p0 : Int32) (p1 : Int32) (p2 : Int32) (p3 : Int32) (p4 : Int32) (res : Int32 × BX12) (hg : f_X12_ends v0 p0 p1 p2 p3 p4 = some res) : Met l yX12_ends (Cond.code yX12_ends cX12_ends 15 (some .int) :: TB) rm_X12_ends (PC D cI cJ cZ cY tX tY [.ref a0, .int p0, .int p1, .int p2, .int p3, .int p4] (WS_X12_ends cI cJ cZ cY a0 a0_a a0_image a0_texts a0_board a0_taken a0_fars a0_before a0_tape a0_pile a0_rows a0_told a0_values a0_truth a0_keeps v0) sz) (va_Qi (fun (r : Int32) (u : BX12) => r = res.1 ∧ u = res.2) (BC D (fun u : BX12 => WS_X12_ends cI cJ cZ cY a0 a0_a a0_image a0_texts a0_board a0_taken a0_fars a0_before a0_tape a0_pile a0_rows a0_told a0_values a0_truth a0_keeps u) (va_A (WS_X12_ends cI cJ cZ cY a0 a0_a a0_image a0_texts a0_board a0_taken a0_fars a0_before a0_tape a0_pile a0_rows a0_told a0_values a0_truth a0_keeps v0) sz)) (va_A (WS_X12_ends cI cJ cZ cY a0 a0_a a0_image a0_texts a0_board a0_taken a0_fars a0_before a0_tape a0_pile a0_rows a0_told a0_values a0_truth a0_keeps v0) sz)) 0 0 (va_A (WS_X12_ends cI cJ cZ cY a0 a0_a a0_image a0_texts a0_board a0_taken a0_fars a0_before a0_tape a0_pile a0_rows a0_told a0_values a0_truth a0_keeps v0) sz) := by
  refine Met.ofW (cc := cX12_ends) (maxL := 15) (ret := (some .int)) (by decide) rfl ?_
  intro p e s m args below meth c s₁ B hml hv
  obtain ⟨hargs, hsz, hP, hK, hD0, hT⟩ := hv
  have hx := B.exec
  have hb := B.bytes
  have hr := B.returns
  have htb : ∀ w ∈ TB, w.before args s = true := fun w h => atoms_spec (ws := Cond.code yX12_ends cX12_ends 15 (some .int) :: TB) B.pre w (List.mem_cons_of_mem _ h)
  have hown : s.vm.findClass "ManyEyesModel" = some m.cls := findClass_of_methodNamed B.named
  have hlocks := B.notSynchronized
  subst hsz
  have hD := hD0.self (sz := s.heap.size)
  generalize hAe : va_A (WS_X12_ends cI cJ cZ cY a0 a0_a a0_image a0_texts a0_board a0_taken a0_fars a0_before a0_tape a0_pile a0_rows a0_told a0_values a0_truth a0_keeps v0) s.heap.size = A at hD hT ⊢
  have hA : ∀ q : Nat, s.heap.size ≤ q → A q := fun q h => by rw [← hAe]; exact Or.inr h
  have hS : va_S A s.heap s.heap [] := va_S.rf
  have hl := lv_entry ([.ref a0, .int p0, .int p1, .int p2, .int p3, .int p4]) (n := 15) (Nat.le_of_ble_eq_true rfl)
  have he : entryFrame m args 15 = F0 m 0 (lg_sl ([.ref a0, .int p0, .int p1, .int p2, .int p3, .int p4]) ++ List.replicate (15 - (lg_sl ([.ref a0, .int p0, .int p1, .int p2, .int p3, .int p4])).length) Slot.unset).toArray [] := by rw [hargs, lg_entry_eq]
  rw [he]
  generalize (lg_sl ([.ref a0, .int p0, .int p1, .int p2, .int p3, .int p4]) ++ List.replicate (15 - (lg_sl ([.ref a0, .int p0, .int p1, .int p2, .int p3, .int p4])).length) Slot.unset).toArray = ls at hl ⊢
  have hl : lv_has ls 15 [(0, .ref a0), (1, .int p0), (2, .int p1), (3, .int p2), (4, .int p3), (5, .int p4)] := hl
  show W p l e rm_X12_ends s m args below meth c s.heap [] 0 0 _ _
  refine W.genQ (fun Q hQ => ?_)
  have b_182 : ∀ (J44 : (Int32 × Int32 × Int32 × Int32 × Int32 × Int32 × BX12) → Option (Int32 × BX12)) (hJ44 : ∀ (x1 : Int32) (x4 : Int32) (x5 : Int32) (x6 : Int32) (x7 : Int32) (x8 : Int32) (v0 : BX12) (H : Heap) (locs : List Loc) (ls : Array Slot), va_P D vwCl (WS_X12_ends cI cJ cZ cY a0 a0_a a0_image a0_texts a0_board a0_taken a0_fars a0_before a0_tape a0_pile a0_rows a0_told a0_values a0_truth a0_keeps v0) H → va_D A (WS_X12_ends cI cJ cZ cY a0 a0_a a0_image a0_texts a0_board a0_taken a0_fars a0_before a0_tape a0_pile a0_rows a0_told a0_values a0_truth a0_keeps v0) → va_S A s.heap H locs → lv_has ls 15 [(0, .ref a0), (1, .int x1), (4, .int x4), (5, .int x5), (6, .int x6), (7, .int x7), (8, .int x8)] → J44 (x1, x4, x5, x6, x7, x8, v0) = some res → W p l e rm_X12_ends s m args below meth c H locs 0 0 Q (F0 m 44 ls [])), ∀ (x1 : Int32) (x4 : Int32) (x5 : Int32) (x6 : Int32) (x7 : Int32) (x8 : Int32) (v0 : BX12) (H : Heap) (locs : List Loc) (ls : Array Slot), va_P D vwCl (WS_X12_ends cI cJ cZ cY a0 a0_a a0_image a0_texts a0_board a0_taken a0_fars a0_before a0_tape a0_pile a0_rows a0_told a0_values a0_truth a0_keeps v0) H → va_D A (WS_X12_ends cI cJ cZ cY a0 a0_a a0_image a0_texts a0_board a0_taken a0_fars a0_before a0_tape a0_pile a0_rows a0_told a0_values a0_truth a0_keeps v0) → va_S A s.heap H locs → lv_has ls 15 [(0, .ref a0), (1, .int x1), (4, .int x4), (5, .int x5), (6, .int x6), (7, .int x7), (8, .int x8)] → f_X12_ends_b182 J44 x1 x4 x5 x6 x7 x8 v0 = some res → W p l e rm_X12_ends s m args below meth c H locs 0 0 Q (F0 m 182 ls []) := by
    intro J44 hJ44 x1 x4 x5 x6 x7 x8 v0 H locs ls hP hD hS hl hg
    unfold f_X12_ends_b182 at hg
    obtain ⟨x8_1, ex8_1⟩ : ∃ z : Int32, z = x8 + 1 := ⟨_, rfl⟩
    have hg := g_lte hg x8_1 ex8_1
    refine lv_iinc (v := x8_1) (lv' := [(8, .int x8_1), (0, .ref a0), (1, .int x1), (4, .int x4), (5, .int x5), (6, .int x6), (7, .int x7)]) hx hb dX12_ends_182 hl (k := 6) rfl (by rw [ex8_1]; rfl) (by decide) rfl (fun ls hl => ?_)
    refine lv_goto (tgt := 44) hx hb dX12_ends_185 (by decide) ?_
    exact hJ44 x1 x4 x5 x6 x7 x8_1 v0 H locs ls hP hD hS (lv_sub hl [1, 2, 3, 4, 5, 6, 0] rfl) hg
  have b_171 : ∀ (J44 : (Int32 × Int32 × Int32 × Int32 × Int32 × Int32 × BX12) → Option (Int32 × BX12)) (hJ44 : ∀ (x1 : Int32) (x4 : Int32) (x5 : Int32) (x6 : Int32) (x7 : Int32) (x8 : Int32) (v0 : BX12) (H : Heap) (locs : List Loc) (ls : Array Slot), va_P D vwCl (WS_X12_ends cI cJ cZ cY a0 a0_a a0_image a0_texts a0_board a0_taken a0_fars a0_before a0_tape a0_pile a0_rows a0_told a0_values a0_truth a0_keeps v0) H → va_D A (WS_X12_ends cI cJ cZ cY a0 a0_a a0_image a0_texts a0_board a0_taken a0_fars a0_before a0_tape a0_pile a0_rows a0_told a0_values a0_truth a0_keeps v0) → va_S A s.heap H locs → lv_has ls 15 [(0, .ref a0), (1, .int x1), (4, .int x4), (5, .int x5), (6, .int x6), (7, .int x7), (8, .int x8)] → J44 (x1, x4, x5, x6, x7, x8, v0) = some res → W p l e rm_X12_ends s m args below meth c H locs 0 0 Q (F0 m 44 ls [])), ∀ (x1 : Int32) (x4 : Int32) (x5 : Int32) (x6 : Int32) (x7 : Int32) (x8 : Int32) (x14 : Int32) (v0 : BX12) (H : Heap) (locs : List Loc) (ls : Array Slot), va_P D vwCl (WS_X12_ends cI cJ cZ cY a0 a0_a a0_image a0_texts a0_board a0_taken a0_fars a0_before a0_tape a0_pile a0_rows a0_told a0_values a0_truth a0_keeps v0) H → va_D A (WS_X12_ends cI cJ cZ cY a0 a0_a a0_image a0_texts a0_board a0_taken a0_fars a0_before a0_tape a0_pile a0_rows a0_told a0_values a0_truth a0_keeps v0) → va_S A s.heap H locs → lv_has ls 15 [(0, .ref a0), (1, .int x1), (4, .int x4), (5, .int x5), (6, .int x6), (7, .int x7), (8, .int x8), (14, .int x14)] → f_X12_ends_b171 J44 x1 x4 x5 x6 x7 x8 x14 v0 = some res → W p l e rm_X12_ends s m args below meth c H locs 0 0 Q (F0 m 171 ls []) := by
    intro J44 hJ44 x1 x4 x5 x6 x7 x8 x14 v0 H locs ls hP hD hS hl hg
    unfold f_X12_ends_b171 at hg
    refine lv_iload hx hb dX12_ends_171 (lv_at hl 7 rfl) ?_
    refine lv_iload hx hb dX12_ends_173 (lv_at hl 5 rfl) ?_
    refine lv_icmp_ge (tgt := 182) hx hb dX12_ends_175 (by decide) (fun c_2 => ?_) (fun c_2 => ?_)
    · have hg := g_it hg c_2
      exact b_182 J44 hJ44 x1 x4 x5 x6 x7 x8 v0 H locs ls hP hD hS (lv_sub hl [0, 1, 2, 3, 4, 5, 6] rfl) hg
    · have hg := g_if hg c_2
      refine lv_iload hx hb dX12_ends_178 (lv_at hl 7 rfl) ?_
      refine lv_istore (lv' := [(7, .int x14), (0, .ref a0), (1, .int x1), (4, .int x4), (5, .int x5), (6, .int x6), (8, .int x8), (14, .int x14)]) hx hb dX12_ends_180 hl (by decide) rfl (fun ls hl => ?_)
      exact b_182 J44 hJ44 x1 x4 x5 x6 x14 x8 v0 H locs ls hP hD hS (lv_sub hl [1, 2, 3, 4, 5, 0, 6] rfl) hg
  have b_44 : ∀ (n : Nat), ∀ (x1 : Int32) (x4 : Int32) (x5 : Int32) (x6 : Int32) (x7 : Int32) (x8 : Int32) (v0 : BX12) (H : Heap) (locs : List Loc) (ls : Array Slot), va_P D vwCl (WS_X12_ends cI cJ cZ cY a0 a0_a a0_image a0_texts a0_board a0_taken a0_fars a0_before a0_tape a0_pile a0_rows a0_told a0_values a0_truth a0_keeps v0) H → va_D A (WS_X12_ends cI cJ cZ cY a0 a0_a a0_image a0_texts a0_board a0_taken a0_fars a0_before a0_tape a0_pile a0_rows a0_told a0_values a0_truth a0_keeps v0) → va_S A s.heap H locs → lv_has ls 15 [(0, .ref a0), (1, .int x1), (4, .int x4), (5, .int x5), (6, .int x6), (7, .int x7), (8, .int x8)] → f_X12_ends_b44 n (x1, x4, x5, x6, x7, x8, v0) = some res → W p l e rm_X12_ends s m args below meth c H locs 0 0 Q (F0 m 44 ls []) := by
    intro n
    induction n with
    | zero =>
      intro x1 x4 x5 x6 x7 x8 v0 H locs ls hP hD hS hl hg
      exact (g_lp0 hg).elim
    | succ n ih =>
      intro x1 x4 x5 x6 x7 x8 v0 H locs ls hP hD hS hl hg
      have hg : f_X12_ends_b44B (f_X12_ends_b44 n) x1 x4 x5 x6 x7 x8 v0 = some res := hg
      unfold f_X12_ends_b44B at hg
      refine lv_iload hx hb dX12_ends_44 (lv_at hl 6 rfl) ?_
      refine lv_aload_n hx hb dX12_ends_46 rfl (lv_at hl 0 rfl) ?_
      refine va_get (ci := 11) (v := .ref a0_a) (C := RX12) (T := TX12) (N := 43) hx hb htb uX12 hown hK.1 hP 0 rfl rfl 2 (by decide) (htb _ tg_938) (fun _ h9 => h9) rfl dX12_ends_47 ?_
      refine lv_iconst (v := 1) hx hb dX12_ends_50 (by decide) ?_
      obtain ⟨h_3, hg⟩ := g_gde hg
      refine va_iald hx hb hK.1 hP 1 0 rfl rfl (inB_vp h_3) dX12_ends_51 ?_
      refine lv_icmp_ge (tgt := 188) hx hb dX12_ends_52 (by decide) (fun c_4 => ?_) (fun c_4 => ?_)
      · have hg := g_it hg c_4
        refine lv_iload hx hb dX12_ends_188 (lv_at hl 3 rfl) ?_
        refine lv_if_eq (tgt := 198) hx hb dX12_ends_190 (by decide) (fun c_5 => ?_) (fun c_5 => ?_)
        · have hg := g_it hg c_5
          refine lv_iload hx hb dX12_ends_198 (lv_at hl 4 rfl) ?_
          have hg := Option.some.inj hg
          rw [hQ]
          exact W.iret (v := x6) hx hb hr (fun t ht hW => ⟨⟨x6, (v0), rfl, ⟨by rw [← hg], by rw [← hg]⟩, by rw [ht]; exact hP, hD⟩, hS.F ht⟩) hS.2.2 dX12_ends_200
        · have hg := g_if hg c_5
          refine lv_iload hx hb dX12_ends_193 (lv_at hl 5 rfl) ?_
          refine lv_goto (tgt := 200) hx hb dX12_ends_195 (by decide) ?_
          have hg := Option.some.inj hg
          rw [hQ]
          exact W.iret (v := x7) hx hb hr (fun t ht hW => ⟨⟨x7, (v0), rfl, ⟨by rw [← hg], by rw [← hg]⟩, by rw [ht]; exact hP, hD⟩, hS.F ht⟩) hS.2.2 dX12_ends_200
      · have hg := g_if hg c_4
        refine lv_aload_n hx hb dX12_ends_55 rfl (lv_at hl 0 rfl) ?_
        refine va_get (ci := 11) (v := .ref a0_a) (C := RX12) (T := TX12) (N := 43) hx hb htb uX12 hown hK.1 hP 0 rfl rfl 2 (by decide) (htb _ tg_938) (fun _ h9 => h9) rfl dX12_ends_56 ?_
        refine lv_sipush (v := 620) hx hb dX12_ends_59 (by decide) ?_
        refine lv_iconst (v := 2) hx hb dX12_ends_62 (by decide) ?_
        refine lv_iload hx hb dX12_ends_63 (lv_at hl 6 rfl) ?_
        refine lv_imul hx hb dX12_ends_65 ?_
        refine lv_iadd hx hb dX12_ends_66 ?_
        refine lv_iconst (v := 1) hx hb dX12_ends_67 (by decide) ?_
        refine lv_iadd hx hb dX12_ends_68 ?_
        obtain ⟨h_6, hg⟩ := g_gde hg
        refine va_iald hx hb hK.1 hP 1 0 rfl rfl (inB_vp h_6) dX12_ends_69 ?_
        refine lv_topi (fun x9_7 ex9_7 => ?_)
        have hg := g_lte hg x9_7 ex9_7
        refine lv_istore (lv' := [(9, .int x9_7), (0, .ref a0), (1, .int x1), (4, .int x4), (5, .int x5), (6, .int x6), (7, .int x7), (8, .int x8)]) hx hb dX12_ends_70 hl (by decide) rfl (fun ls hl => ?_)
        refine lv_aload_n hx hb dX12_ends_72 rfl (lv_at hl 1 rfl) ?_
        refine lv_iload hx hb dX12_ends_73 (lv_at hl 7 rfl) ?_
        refine lv_iload_n hx hb dX12_ends_75 rfl (lv_at hl 2 rfl) ?_
        obtain ⟨r_8, hr_8, hg⟩ := g_bd hg
        refine cc_i (va_runV (C := RX12) (As := [.int x8, .int x1]) (rest := []) ⟨hx, hb, hml, hown, htb⟩ (k_X12_apart a0 a0_a a0_image a0_texts a0_board a0_taken a0_fars a0_before a0_tape a0_pile a0_rows a0_told a0_values a0_truth a0_keeps v0 x8 x1 r_8 hr_8) (cw_V 2 htb tg_1168 tg_13 tg_1165 tg_1167 ts_39 rfl rfl (by decide +kernel) ⟨Nat.le_of_ble_eq_true rfl, Nat.le_of_ble_eq_true rfl⟩) ⟨PC.blind, va_recv hK.1 hP (ci := 11) (q0 := 0) rfl rfl, PC.pre hK hT hP hD hS hA [0, 1, 2, 3, 4, 5, 6, 7, 8, 9, 10, 11, 12, 13, 14] rfl (by decide)⟩ rfl rfl hl.1 rfl (lv_room (Nat.le_of_ble_eq_true rfl)) dX12_ends_76 ⟨Nat.le_of_ble_eq_true rfl, Nat.le_of_ble_eq_true rfl⟩) hP hD hS hA [0, 1, 2, 3, 4, 5, 6, 7, 8, 9, 10, 11, 12, 13, 14] [] rfl rfl (by decide) (by decide) (fun r9 u9 H locs hw hP hD hS => ?_)
        have hw := hw.symm
        subst hw
        have hP : va_P D vwCl (WS_X12_ends cI cJ cZ cY a0 a0_a a0_image a0_texts a0_board a0_taken a0_fars a0_before a0_tape a0_pile a0_rows a0_told a0_values a0_truth a0_keeps v0) H := hP.sub [0, 1, 2, 3, 4, 5, 6, 7, 8, 9, 10, 11, 12, 13, 14] rfl
        have hD : va_D A (WS_X12_ends cI cJ cZ cY a0 a0_a a0_image a0_texts a0_board a0_taken a0_fars a0_before a0_tape a0_pile a0_rows a0_told a0_values a0_truth a0_keeps v0) := hD.sub [0, 1, 2, 3, 4, 5, 6, 7, 8, 9, 10, 11, 12, 13, 14] (by decide) rfl
        refine lv_iload hx hb dX12_ends_79 (lv_at hl 0 rfl) ?_
        refine lv_icmp_le (tgt := 87) hx hb dX12_ends_81 (by decide) (fun c_9 => ?_) (fun c_9 => ?_)
        · have hg := g_it hg c_9
          refine lv_iload hx hb dX12_ends_87 (lv_at hl 0 rfl) ?_
          refine lv_iconst (v := 1) hx hb dX12_ends_89 (by decide) ?_
          refine lv_iadd hx hb dX12_ends_90 ?_
          refine lv_aload_n hx hb dX12_ends_91 rfl (lv_at hl 1 rfl) ?_
          refine lv_iload hx hb dX12_ends_92 (lv_at hl 7 rfl) ?_
          refine lv_iload_n hx hb dX12_ends_94 rfl (lv_at hl 2 rfl) ?_
          obtain ⟨r_10, hr_10, hg⟩ := g_bd hg
          refine cc_i (va_runV (C := RX12) (As := [.int x8, .int x1]) (rest := [.int (x9_7 + 1)]) ⟨hx, hb, hml, hown, htb⟩ (k_X12_apart a0 a0_a a0_image a0_texts a0_board a0_taken a0_fars a0_before a0_tape a0_pile a0_rows a0_told a0_values a0_truth a0_keeps v0 x8 x1 r_10 hr_10) (cw_V 2 htb tg_1168 tg_13 tg_1165 tg_1167 ts_39 rfl rfl (by decide +kernel) ⟨Nat.le_of_ble_eq_true rfl, Nat.le_of_ble_eq_true rfl⟩) ⟨PC.blind, va_recv hK.1 hP (ci := 11) (q0 := 0) rfl rfl, PC.pre hK hT hP hD hS hA [0, 1, 2, 3, 4, 5, 6, 7, 8, 9, 10, 11, 12, 13, 14] rfl (by decide)⟩ rfl rfl hl.1 rfl (lv_room (Nat.le_of_ble_eq_true rfl)) dX12_ends_95 ⟨Nat.le_of_ble_eq_true rfl, Nat.le_of_ble_eq_true rfl⟩) hP hD hS hA [0, 1, 2, 3, 4, 5, 6, 7, 8, 9, 10, 11, 12, 13, 14] [] rfl rfl (by decide) (by decide) (fun r9 u9 H locs hw hP hD hS => ?_)
          have hw := hw.symm
          subst hw
          have hP : va_P D vwCl (WS_X12_ends cI cJ cZ cY a0 a0_a a0_image a0_texts a0_board a0_taken a0_fars a0_before a0_tape a0_pile a0_rows a0_told a0_values a0_truth a0_keeps v0) H := hP.sub [0, 1, 2, 3, 4, 5, 6, 7, 8, 9, 10, 11, 12, 13, 14] rfl
          have hD : va_D A (WS_X12_ends cI cJ cZ cY a0 a0_a a0_image a0_texts a0_board a0_taken a0_fars a0_before a0_tape a0_pile a0_rows a0_told a0_values a0_truth a0_keeps v0) := hD.sub [0, 1, 2, 3, 4, 5, 6, 7, 8, 9, 10, 11, 12, 13, 14] (by decide) rfl
          refine lv_isub hx hb dX12_ends_98 ?_
          refine lv_topi (fun x10_11 ex10_11 => ?_)
          have hg := g_lte hg x10_11 ex10_11
          refine lv_istore (lv' := [(10, .int x10_11), (9, .int x9_7), (0, .ref a0), (1, .int x1), (4, .int x4), (5, .int x5), (6, .int x6), (7, .int x7), (8, .int x8)]) hx hb dX12_ends_99 hl (by decide) rfl (fun ls hl => ?_)
          refine lv_iload hx hb dX12_ends_101 (lv_at hl 1 rfl) ?_
          refine lv_iconst (v := 1) hx hb dX12_ends_103 (by decide) ?_
          refine lv_iadd hx hb dX12_ends_104 ?_
          refine lv_iload hx hb dX12_ends_105 (lv_at hl 1 rfl) ?_
          refine lv_iconst (v := 1) hx hb dX12_ends_107 (by decide) ?_
          refine lv_iadd hx hb dX12_ends_108 ?_
          refine lv_imul hx hb dX12_ends_109 ?_
          refine lv_topi (fun x11_12 ex11_12 => ?_)
          have hg := g_lte hg x11_12 ex11_12
          refine lv_istore (lv' := [(11, .int x11_12), (10, .int x10_11), (9, .int x9_7), (0, .ref a0), (1, .int x1), (4, .int x4), (5, .int x5), (6, .int x6), (7, .int x7), (8, .int x8)]) hx hb dX12_ends_110 hl (by decide) rfl (fun ls hl => ?_)
          refine lv_aload_n hx hb dX12_ends_112 rfl (lv_at hl 3 rfl) ?_
          refine lv_iload hx hb dX12_ends_113 (lv_at hl 9 rfl) ?_
          refine lv_iload hx hb dX12_ends_115 (lv_at hl 5 rfl) ?_
          obtain ⟨r_13, hr_13, hg⟩ := g_bd hg
          refine cc_i (va_runV (C := RX12) (As := [.int x8, .int x4]) (rest := []) ⟨hx, hb, hml, hown, htb⟩ (k_X12_lensTake a0 a0_a a0_image a0_texts a0_board a0_taken a0_fars a0_before a0_tape a0_pile a0_rows a0_told a0_values a0_truth a0_keeps v0 x8 x4 r_13 hr_13) (cw_V 2 htb tg_1149 tg_13 tg_1146 tg_1148 ts_36 rfl rfl (by decide +kernel) ⟨Nat.le_of_ble_eq_true rfl, Nat.le_of_ble_eq_true rfl⟩) ⟨PC.blind, va_recv hK.1 hP (ci := 11) (q0 := 0) rfl rfl, PC.pre hK hT hP hD hS hA [0, 1, 2, 3, 4, 5, 6, 7, 8, 9, 10, 11, 12, 13, 14] rfl (by decide)⟩ rfl rfl hl.1 rfl (lv_room (Nat.le_of_ble_eq_true rfl)) dX12_ends_117 ⟨Nat.le_of_ble_eq_true rfl, Nat.le_of_ble_eq_true rfl⟩) hP hD hS hA [0, 1, 2, 3, 4, 5, 6, 7, 8, 9, 10, 11, 12, 13, 14] [] rfl rfl (by decide) (by decide) (fun r9 u9 H locs hw hP hD hS => ?_)
          have hw := hw.symm
          subst hw
          have hP : va_P D vwCl (WS_X12_ends cI cJ cZ cY a0 a0_a a0_image a0_texts a0_board a0_taken a0_fars a0_before a0_tape a0_pile a0_rows a0_told a0_values a0_truth a0_keeps v0) H := hP.sub [0, 1, 2, 3, 4, 5, 6, 7, 8, 9, 10, 11, 12, 13, 14] rfl
          have hD : va_D A (WS_X12_ends cI cJ cZ cY a0 a0_a a0_image a0_texts a0_board a0_taken a0_fars a0_before a0_tape a0_pile a0_rows a0_told a0_values a0_truth a0_keeps v0) := hD.sub [0, 1, 2, 3, 4, 5, 6, 7, 8, 9, 10, 11, 12, 13, 14] (by decide) rfl
          refine lv_istore (lv' := [(12, .int r_13), (11, .int x11_12), (10, .int x10_11), (9, .int x9_7), (0, .ref a0), (1, .int x1), (4, .int x4), (5, .int x5), (6, .int x6), (7, .int x7), (8, .int x8)]) hx hb dX12_ends_120 hl (by decide) rfl (fun ls hl => ?_)
          refine lv_iload hx hb dX12_ends_122 (lv_at hl 0 rfl) ?_
          refine lv_iload hx hb dX12_ends_124 (lv_at hl 1 rfl) ?_
          refine lv_imul hx hb dX12_ends_126 ?_
          refine lv_sipush (v := 255) hx hb dX12_ends_127 (by decide) ?_
          refine lv_iload hx hb dX12_ends_130 (lv_at hl 1 rfl) ?_
          refine lv_iload hx hb dX12_ends_132 (lv_at hl 2 rfl) ?_
          refine lv_isub hx hb dX12_ends_134 ?_
          refine lv_imul hx hb dX12_ends_135 ?_
          refine lv_isub hx hb dX12_ends_136 ?_
          refine lv_ineg hx hb dX12_ends_137 ?_
          refine lv_iload hx hb dX12_ends_138 (lv_at hl 2 rfl) ?_
          obtain ⟨r_14, hr_14, hg⟩ := g_bd hg
          refine cc_i (va_runS (As := [.int (-((r_13 * x11_12) - ((255 : Int32) * (x11_12 - x10_11)))), .int x10_11]) (rest := []) ⟨hx, hb, hml, hown, htb⟩ (k_X12_floor (-((r_13 * x11_12) - ((255 : Int32) * (x11_12 - x10_11)))) x10_11 r_14 hr_14) (cw_S 2 htb tg_1122 tg_13 tg_1120 tg_1121 rfl rfl (by decide +kernel) ⟨Nat.le_of_ble_eq_true rfl, Nat.le_of_ble_eq_true rfl⟩) ⟨PC.blind, PC.pre hK hT hP hD hS hA [] rfl (by decide)⟩ rfl rfl hl.1 rfl (lv_room (Nat.le_of_ble_eq_true rfl)) dX12_ends_140 ⟨Nat.le_of_ble_eq_true rfl, Nat.le_of_ble_eq_true rfl⟩) hP hD hS hA [] [0, 1, 2, 3, 4, 5, 6, 7, 8, 9, 10, 11, 12, 13, 14] rfl rfl (by decide) (by decide) (fun r9 u9 H locs hw hP hD hS => ?_)
          have hw := hw.symm
          subst hw
          have hP : va_P D vwCl (WS_X12_ends cI cJ cZ cY a0 a0_a a0_image a0_texts a0_board a0_taken a0_fars a0_before a0_tape a0_pile a0_rows a0_told a0_values a0_truth a0_keeps v0) H := hP.sub [0, 1, 2, 3, 4, 5, 6, 7, 8, 9, 10, 11, 12, 13, 14] rfl
          have hD : va_D A (WS_X12_ends cI cJ cZ cY a0 a0_a a0_image a0_texts a0_board a0_taken a0_fars a0_before a0_tape a0_pile a0_rows a0_told a0_values a0_truth a0_keeps v0) := hD.sub [0, 1, 2, 3, 4, 5, 6, 7, 8, 9, 10, 11, 12, 13, 14] (by decide) rfl
          refine lv_ineg hx hb dX12_ends_143 ?_
          refine lv_topi (fun x13_15 ex13_15 => ?_)
          have hg := g_lte hg x13_15 ex13_15
          refine lv_istore (lv' := [(13, .int x13_15), (12, .int r_13), (11, .int x11_12), (10, .int x10_11), (9, .int x9_7), (0, .ref a0), (1, .int x1), (4, .int x4), (5, .int x5), (6, .int x6), (7, .int x7), (8, .int x8)]) hx hb dX12_ends_144 hl (by decide) rfl (fun ls hl => ?_)
          refine lv_iload hx hb dX12_ends_146 (lv_at hl 1 rfl) ?_
          refine lv_iconst (v := 1) hx hb dX12_ends_148 (by decide) ?_
          refine lv_iadd hx hb dX12_ends_149 ?_
          refine lv_iload hx hb dX12_ends_150 (lv_at hl 2 rfl) ?_
          refine lv_imul hx hb dX12_ends_152 ?_
          refine lv_iconst (v := 1) hx hb dX12_ends_153 (by decide) ?_
          refine lv_isub hx hb dX12_ends_154 ?_
          refine lv_iload hx hb dX12_ends_155 (lv_at hl 3 rfl) ?_
          obtain ⟨h_16, hg⟩ := g_gde hg
          refine lv_idiv hx hb dX12_ends_157 h_16 ?_
          refine lv_topi (fun x14_17 ex14_17 => ?_)
          have hg := g_lte hg x14_17 ex14_17
          refine lv_istore (lv' := [(14, .int x14_17), (13, .int x13_15), (12, .int r_13), (11, .int x11_12), (10, .int x10_11), (9, .int x9_7), (0, .ref a0), (1, .int x1), (4, .int x4), (5, .int x5), (6, .int x6), (7, .int x7), (8, .int x8)]) hx hb dX12_ends_158 hl (by decide) rfl (fun ls hl => ?_)
          refine lv_iload hx hb dX12_ends_160 (lv_at hl 1 rfl) ?_
          refine lv_iload hx hb dX12_ends_162 (lv_at hl 10 rfl) ?_
          refine lv_icmp_le (tgt := 171) hx hb dX12_ends_164 (by decide) (fun c_18 => ?_) (fun c_18 => ?_)
          · have hg := g_it hg c_18
            exact b_171 (f_X12_ends_b44 n) ih x1 x4 x5 x6 x7 x8 x14_17 v0 H locs ls hP hD hS (lv_sub hl [6, 7, 8, 9, 10, 11, 12, 0] rfl) hg
          · have hg := g_if hg c_18
            refine lv_iload hx hb dX12_ends_167 (lv_at hl 1 rfl) ?_
            refine lv_istore (lv' := [(6, .int x13_15), (14, .int x14_17), (13, .int x13_15), (12, .int r_13), (11, .int x11_12), (10, .int x10_11), (9, .int x9_7), (0, .ref a0), (1, .int x1), (4, .int x4), (5, .int x5), (7, .int x7), (8, .int x8)]) hx hb dX12_ends_169 hl (by decide) rfl (fun ls hl => ?_)
            exact b_171 (f_X12_ends_b44 n) ih x1 x4 x5 x13_15 x7 x8 x14_17 v0 H locs ls hP hD hS (lv_sub hl [7, 8, 9, 10, 0, 11, 12, 1] rfl) hg
        · have hg := g_if hg c_9
          refine lv_goto (tgt := 182) hx hb dX12_ends_84 (by decide) ?_
          exact b_182 (f_X12_ends_b44 n) ih x1 x4 x5 x6 x7 x8 v0 H locs ls hP hD hS (lv_sub hl [1, 2, 3, 4, 5, 6, 7] rfl) hg
  generalize hHe : s.heap = H at hP ⊢
  have hS : va_S A s.heap H [] := by rw [← hHe]; exact va_S.rf
  generalize ([] : List Loc) = locs at hS ⊢
  unfold f_X12_ends at hg
  refine lv_iload_n hx hb dX12_ends_0 rfl (lv_at hl 1 rfl) ?_
  obtain ⟨r_19, hr_19, hg⟩ := g_bd hg
  refine cc_i (va_runS (As := [.int p0]) (rest := []) ⟨hx, hb, hml, hown, htb⟩ (k_X12_isSide p0 r_19 hr_19) (cw_S 1 htb tg_1108 tg_13 tg_1106 tg_1107 rfl rfl (by decide +kernel) ⟨Nat.le_of_ble_eq_true rfl, Nat.le_of_ble_eq_true rfl⟩) ⟨PC.blind, PC.pre hK hT hP hD hS hA [] rfl (by decide)⟩ rfl rfl hl.1 rfl (lv_room (Nat.le_of_ble_eq_true rfl)) dX12_ends_1 ⟨Nat.le_of_ble_eq_true rfl, Nat.le_of_ble_eq_true rfl⟩) hP hD hS hA [] [0, 1, 2, 3, 4, 5, 6, 7, 8, 9, 10, 11, 12, 13, 14] rfl rfl (by decide) (by decide) (fun r9 u9 H locs hw hP hD hS => ?_)
  have hw := hw.symm
  subst hw
  have hP : va_P D vwCl (WS_X12_ends cI cJ cZ cY a0 a0_a a0_image a0_texts a0_board a0_taken a0_fars a0_before a0_tape a0_pile a0_rows a0_told a0_values a0_truth a0_keeps v0) H := hP.sub [0, 1, 2, 3, 4, 5, 6, 7, 8, 9, 10, 11, 12, 13, 14] rfl
  have hD : va_D A (WS_X12_ends cI cJ cZ cY a0 a0_a a0_image a0_texts a0_board a0_taken a0_fars a0_before a0_tape a0_pile a0_rows a0_told a0_values a0_truth a0_keeps v0) := hD.sub [0, 1, 2, 3, 4, 5, 6, 7, 8, 9, 10, 11, 12, 13, 14] (by decide) rfl
  refine lv_if_eq (tgt := 24) hx hb dX12_ends_4 (by decide) (fun c_20 => ?_) (fun c_20 => ?_)
  · have hg := g_it hg c_20
    refine lv_iconst (v := (-1)) hx hb dX12_ends_24 (by decide) ?_
    have hg := Option.some.inj hg
    rw [hQ]
    exact W.iret (v := (-1)) hx hb hr (fun t ht hW => ⟨⟨(-1), (v0), rfl, ⟨by rw [← hg], by rw [← hg]⟩, by rw [ht]; exact hP, hD⟩, hS.F ht⟩) hS.2.2 dX12_ends_25
  · have hg := g_if hg c_20
    refine lv_aload_n hx hb dX12_ends_7 rfl (lv_at hl 0 rfl) ?_
    refine lv_iload_n hx hb dX12_ends_8 rfl (lv_at hl 2 rfl) ?_
    refine lv_iload_n hx hb dX12_ends_9 rfl (lv_at hl 3 rfl) ?_
    obtain ⟨r_21, hr_21, hg⟩ := g_bd hg
    refine cc_i (va_runV (C := RX12) (As := [.int p1, .int p2]) (rest := []) ⟨hx, hb, hml, hown, htb⟩ (k_X12_isPlace a0 a0_a a0_image a0_texts a0_board a0_taken a0_fars a0_before a0_tape a0_pile a0_rows a0_told a0_values a0_truth a0_keeps v0 p1 p2 r_21 hr_21) (cw_V 2 htb tg_1105 tg_13 tg_1102 tg_1104 ts_31 rfl rfl (by decide +kernel) ⟨Nat.le_of_ble_eq_true rfl, Nat.le_of_ble_eq_true rfl⟩) ⟨PC.blind, va_recv hK.1 hP (ci := 11) (q0 := 0) rfl rfl, PC.pre hK hT hP hD hS hA [0, 1, 2, 3, 4, 5, 6, 7, 8, 9, 10, 11, 12, 13, 14] rfl (by decide)⟩ rfl rfl hl.1 rfl (lv_room (Nat.le_of_ble_eq_true rfl)) dX12_ends_10 ⟨Nat.le_of_ble_eq_true rfl, Nat.le_of_ble_eq_true rfl⟩) hP hD hS hA [0, 1, 2, 3, 4, 5, 6, 7, 8, 9, 10, 11, 12, 13, 14] [] rfl rfl (by decide) (by decide) (fun r9 u9 H locs hw hP hD hS => ?_)
    have hw := hw.symm
    subst hw
    have hP : va_P D vwCl (WS_X12_ends cI cJ cZ cY a0 a0_a a0_image a0_texts a0_board a0_taken a0_fars a0_before a0_tape a0_pile a0_rows a0_told a0_values a0_truth a0_keeps v0) H := hP.sub [0, 1, 2, 3, 4, 5, 6, 7, 8, 9, 10, 11, 12, 13, 14] rfl
    have hD : va_D A (WS_X12_ends cI cJ cZ cY a0 a0_a a0_image a0_texts a0_board a0_taken a0_fars a0_before a0_tape a0_pile a0_rows a0_told a0_values a0_truth a0_keeps v0) := hD.sub [0, 1, 2, 3, 4, 5, 6, 7, 8, 9, 10, 11, 12, 13, 14] (by decide) rfl
    refine lv_if_eq (tgt := 24) hx hb dX12_ends_13 (by decide) (fun c_22 => ?_) (fun c_22 => ?_)
    · have hg := g_it hg c_22
      refine lv_iconst (v := (-1)) hx hb dX12_ends_24 (by decide) ?_
      have hg := Option.some.inj hg
      rw [hQ]
      exact W.iret (v := (-1)) hx hb hr (fun t ht hW => ⟨⟨(-1), (v0), rfl, ⟨by rw [← hg], by rw [← hg]⟩, by rw [ht]; exact hP, hD⟩, hS.F ht⟩) hS.2.2 dX12_ends_25
    · have hg := g_if hg c_22
      refine lv_iload hx hb dX12_ends_16 (lv_at hl 4 rfl) ?_
      obtain ⟨r_23, hr_23, hg⟩ := g_bd hg
      refine cc_i (va_runS (As := [.int p3]) (rest := []) ⟨hx, hb, hml, hown, htb⟩ (k_X12_isSide p3 r_23 hr_23) (cw_S 1 htb tg_1108 tg_13 tg_1106 tg_1107 rfl rfl (by decide +kernel) ⟨Nat.le_of_ble_eq_true rfl, Nat.le_of_ble_eq_true rfl⟩) ⟨PC.blind, PC.pre hK hT hP hD hS hA [] rfl (by decide)⟩ rfl rfl hl.1 rfl (lv_room (Nat.le_of_ble_eq_true rfl)) dX12_ends_18 ⟨Nat.le_of_ble_eq_true rfl, Nat.le_of_ble_eq_true rfl⟩) hP hD hS hA [] [0, 1, 2, 3, 4, 5, 6, 7, 8, 9, 10, 11, 12, 13, 14] rfl rfl (by decide) (by decide) (fun r9 u9 H locs hw hP hD hS => ?_)
      have hw := hw.symm
      subst hw
      have hP : va_P D vwCl (WS_X12_ends cI cJ cZ cY a0 a0_a a0_image a0_texts a0_board a0_taken a0_fars a0_before a0_tape a0_pile a0_rows a0_told a0_values a0_truth a0_keeps v0) H := hP.sub [0, 1, 2, 3, 4, 5, 6, 7, 8, 9, 10, 11, 12, 13, 14] rfl
      have hD : va_D A (WS_X12_ends cI cJ cZ cY a0 a0_a a0_image a0_texts a0_board a0_taken a0_fars a0_before a0_tape a0_pile a0_rows a0_told a0_values a0_truth a0_keeps v0) := hD.sub [0, 1, 2, 3, 4, 5, 6, 7, 8, 9, 10, 11, 12, 13, 14] (by decide) rfl
      refine lv_if_ne (tgt := 26) hx hb dX12_ends_21 (by decide) (fun c_24 => ?_) (fun c_24 => ?_)
      · have hg := g_if hg c_24
        refine lv_aload_n hx hb dX12_ends_26 rfl (lv_at hl 0 rfl) ?_
        refine lv_iload_n hx hb dX12_ends_27 rfl (lv_at hl 2 rfl) ?_
        refine lv_iload_n hx hb dX12_ends_28 rfl (lv_at hl 3 rfl) ?_
        refine lv_iconst (v := 0) hx hb dX12_ends_29 (by decide) ?_
        obtain ⟨r_25, hr_25, hg⟩ := g_bd hg
        refine cc_v (va_runV (C := RX12) (As := [.int p1, .int p2, .int 0]) (rest := []) ⟨hx, hb, hml, hown, htb⟩ (k_X12_look a0 a0_a a0_image a0_texts a0_board a0_taken a0_fars a0_before a0_tape a0_pile a0_rows a0_told a0_values a0_truth a0_keeps v0 p1 p2 0 r_25 hr_25) (cw_V 3 htb tg_1145 tg_13 tg_1142 tg_1144 ts_35 rfl rfl (by decide +kernel) ⟨Nat.le_of_ble_eq_true rfl, Nat.le_of_ble_eq_true rfl⟩) ⟨PC.blind, va_recv hK.1 hP (ci := 11) (q0 := 0) rfl rfl, PC.pre hK hT hP hD hS hA [0, 1, 2, 3, 4, 5, 6, 7, 8, 9, 10, 11, 12, 13, 14] rfl (by decide)⟩ rfl rfl hl.1 rfl (lv_room (Nat.le_of_ble_eq_true rfl)) dX12_ends_30 ⟨Nat.le_of_ble_eq_true rfl, Nat.le_of_ble_eq_true rfl⟩) hP hD hS hA [0, 1, 2, 3, 4, 5, 6, 7, 8, 9, 10, 11, 12, 13, 14] [] rfl rfl (by decide) (by decide) (fun u9 H locs hw hP hD hS => ?_)
        have hw := hw.symm
        subst hw
        have hP : va_P D vwCl (WS_X12_ends cI cJ cZ cY a0 a0_a a0_image a0_texts a0_board a0_taken a0_fars a0_before a0_tape a0_pile a0_rows a0_told a0_values a0_truth a0_keeps r_25) H := hP.sub [0, 1, 2, 3, 4, 5, 6, 7, 8, 9, 10, 11, 12, 13, 14] rfl
        have hD : va_D A (WS_X12_ends cI cJ cZ cY a0 a0_a a0_image a0_texts a0_board a0_taken a0_fars a0_before a0_tape a0_pile a0_rows a0_told a0_values a0_truth a0_keeps r_25) := hD.sub [0, 1, 2, 3, 4, 5, 6, 7, 8, 9, 10, 11, 12, 13, 14] (by decide) rfl
        refine lv_iconst (v := 0) hx hb dX12_ends_33 (by decide) ?_
        refine lv_istore (lv' := [(6, .int 0), (0, .ref a0), (1, .int p0), (2, .int p1), (3, .int p2), (4, .int p3), (5, .int p4)]) hx hb dX12_ends_34 hl (by decide) rfl (fun ls hl => ?_)
        refine lv_sipush (v := 255) hx hb dX12_ends_36 (by decide) ?_
        refine lv_istore (lv' := [(7, .int 255), (6, .int 0), (0, .ref a0), (1, .int p0), (2, .int p1), (3, .int p2), (4, .int p3), (5, .int p4)]) hx hb dX12_ends_39 hl (by decide) rfl (fun ls hl => ?_)
        refine lv_iconst (v := 0) hx hb dX12_ends_41 (by decide) ?_
        refine lv_istore (lv' := [(8, .int 0), (7, .int 255), (6, .int 0), (0, .ref a0), (1, .int p0), (2, .int p1), (3, .int p2), (4, .int p3), (5, .int p4)]) hx hb dX12_ends_42 hl (by decide) rfl (fun ls hl => ?_)
        exact b_44 fU p0 p3 p4 0 255 0 r_25 H locs ls hP hD hS (lv_sub hl [3, 4, 7, 8, 2, 1, 0] rfl) hg
      · have hg := g_it hg c_24
        refine lv_iconst (v := (-1)) hx hb dX12_ends_24 (by decide) ?_
        have hg := Option.some.inj hg
        rw [hQ]
        exact W.iret (v := (-1)) hx hb hr (fun t ht hW => ⟨⟨(-1), (v0), rfl, ⟨by rw [← hg], by rw [← hg]⟩, by rw [ht]; exact hP, hD⟩, hS.F ht⟩) hS.2.2 dX12_ends_25

/-! ManyEyesModel.width(IIIII)I -/
def WS_X12_width (cI cJ cZ cY : ClassId) (a0 a0_a a0_image a0_texts a0_board a0_taken a0_fars a0_before a0_tape a0_pile a0_rows a0_told a0_values a0_truth a0_keeps : Nat) (v0 : BX12) : va_W := (GX12 cI cJ cZ cY a0 a0_a a0_image a0_texts a0_board a0_taken a0_fars a0_before a0_tape a0_pile a0_rows a0_told a0_values a0_truth a0_keeps v0)
def f_X12_width_b100 (J51 : (Int32 × Int32 × Int32 × Int32 × Int32 × Int32 × BX12) → Option (Int32 × BX12)) (x1 : Int32) (x2 : Int32) (x5 : Int32) (x6 : Int32) (x7 : Int32) (x8 : Int32) (v0 : BX12) : Option (Int32 × BX12) := g_lt (x8 + 1 : Int32) (fun x8_1 => J51 (x1, x2, x5, x6, x7, x8_1, v0))
def f_X12_width_b51B (J51 : Int32 × Int32 × Int32 × Int32 × Int32 × Int32 × BX12 → Option (Int32 × BX12)) (x1 : Int32) (x2 : Int32) (x5 : Int32) (x6 : Int32) (x7 : Int32) (x8 : Int32) (v0 : BX12) : Option (Int32 × BX12) := if (8 : Int32) ≤ x8 then (some (x6, v0)) else ((f_X12_takeOf v0 x1 x8 x5).bind (fun r_3 => (f_X12_takeOf v0 x2 x8 x5).bind (fun r_4 => (f_X12_abs (r_3 - r_4)).bind (fun r_5 => if (x7 : Int32) < r_5 then (f_X12_width_b100 J51 x1 x2 x5 x8 r_5 x8 v0) else (f_X12_width_b100 J51 x1 x2 x5 x6 x7 x8 v0)))))
def f_X12_width_b51 : Nat → (Int32 × Int32 × Int32 × Int32 × Int32 × Int32 × BX12) → Option (Int32 × BX12) := g_lp (fun J z => f_X12_width_b51B J z.1 z.2.1 z.2.2.1 z.2.2.2.1 z.2.2.2.2.1 z.2.2.2.2.2.1 z.2.2.2.2.2.2)
def f_X12_width (v0 : BX12) (p0 : Int32) (p1 : Int32) (p2 : Int32) (p3 : Int32) (p4 : Int32) : Option (Int32 × BX12) := (f_X12_isSide p0).bind (fun r_7 => if (r_7 : Int32) = 0 then (some ((-1), v0)) else ((f_X12_isSide p1).bind (fun r_9 => if (r_9 : Int32) = 0 then (some ((-1), v0)) else ((f_X12_isPlace v0 p2 p3).bind (fun r_11 => if (r_11 : Int32) = 0 then (some ((-1), v0)) else ((f_X12_isSide p4).bind (fun r_13 => if (r_13 : Int32) = 0 then (some ((-1), v0)) else ((f_X12_look v0 p2 p3 0).bind (fun r_15 => g_lt ((-1) : Int32) (fun x7_16 => f_X12_width_b51 fU (p0, p1, p4, 0, x7_16, 0, r_15)))))))))))
abbrev rm_X12_width : Room := { frames := 4, cells := 0, slots := 0, locals := 92 }
set_option maxHeartbeats 4000000 in
set_option maxRecDepth 100000 in
theorem k_X12_width {l : Launch} {D : va_G} {cI cJ cZ cY : ClassId} {tX tY : Nat} {sz : Nat} (a0 a0_a a0_image a0_texts a0_board a0_taken a0_fars a0_before a0_tape a0_pile a0_rows a0_told a0_values a0_truth a0_keeps : Nat) (v0 : BX12) (p0 : Int32) (p1 : Int32) (p2 : Int32) (p3 : Int32) (p4 : Int32) (res : Int32 × BX12) (hg : f_X12_width v0 p0 p1 p2 p3 p4 = some res) : Met l yX12_width (Cond.code yX12_width cX12_width 10 (some .int) :: TB) rm_X12_width (PC D cI cJ cZ cY tX tY [.ref a0, .int p0, .int p1, .int p2, .int p3, .int p4] (WS_X12_width cI cJ cZ cY a0 a0_a a0_image a0_texts a0_board a0_taken a0_fars a0_before a0_tape a0_pile a0_rows a0_told a0_values a0_truth a0_keeps v0) sz) (va_Qi (fun (r : Int32) (u : BX12) => r = res.1 ∧ u = res.2) (BC D (fun u : BX12 => WS_X12_width cI cJ cZ cY a0 a0_a a0_image a0_texts a0_board a0_taken a0_fars a0_before a0_tape a0_pile a0_rows a0_told a0_values a0_truth a0_keeps u) (va_A (WS_X12_width cI cJ cZ cY a0 a0_a a0_image a0_texts a0_board a0_taken a0_fars a0_before a0_tape a0_pile a0_rows a0_told a0_values a0_truth a0_keeps v0) sz)) (va_A (WS_X12_width cI cJ cZ cY a0 a0_a a0_image a0_texts a0_board a0_taken a0_fars a0_before a0_tape a0_pile a0_rows a0_told a0_values a0_truth a0_keeps v0) sz)) 0 0 (va_A (WS_X12_width cI cJ cZ cY a0 a0_a a0_image a0_texts a0_board a0_taken a0_fars a0_before a0_tape a0_pile a0_rows a0_told a0_values a0_truth a0_keeps v0) sz) := by
  refine Met.ofW (cc := cX12_width) (maxL := 10) (ret := (some .int)) (by decide) rfl ?_
  intro p e s m args below meth c s₁ B hml hv
  obtain ⟨hargs, hsz, hP, hK, hD0, hT⟩ := hv
  have hx := B.exec
  have hb := B.bytes
  have hr := B.returns
  have htb : ∀ w ∈ TB, w.before args s = true := fun w h => atoms_spec (ws := Cond.code yX12_width cX12_width 10 (some .int) :: TB) B.pre w (List.mem_cons_of_mem _ h)
  have hown : s.vm.findClass "ManyEyesModel" = some m.cls := findClass_of_methodNamed B.named
  have hlocks := B.notSynchronized
  subst hsz
  have hD := hD0.self (sz := s.heap.size)
  generalize hAe : va_A (WS_X12_width cI cJ cZ cY a0 a0_a a0_image a0_texts a0_board a0_taken a0_fars a0_before a0_tape a0_pile a0_rows a0_told a0_values a0_truth a0_keeps v0) s.heap.size = A at hD hT ⊢
  have hA : ∀ q : Nat, s.heap.size ≤ q → A q := fun q h => by rw [← hAe]; exact Or.inr h
  have hS : va_S A s.heap s.heap [] := va_S.rf
  have hl := lv_entry ([.ref a0, .int p0, .int p1, .int p2, .int p3, .int p4]) (n := 10) (Nat.le_of_ble_eq_true rfl)
  have he : entryFrame m args 10 = F0 m 0 (lg_sl ([.ref a0, .int p0, .int p1, .int p2, .int p3, .int p4]) ++ List.replicate (10 - (lg_sl ([.ref a0, .int p0, .int p1, .int p2, .int p3, .int p4])).length) Slot.unset).toArray [] := by rw [hargs, lg_entry_eq]
  rw [he]
  generalize (lg_sl ([.ref a0, .int p0, .int p1, .int p2, .int p3, .int p4]) ++ List.replicate (10 - (lg_sl ([.ref a0, .int p0, .int p1, .int p2, .int p3, .int p4])).length) Slot.unset).toArray = ls at hl ⊢
  have hl : lv_has ls 10 [(0, .ref a0), (1, .int p0), (2, .int p1), (3, .int p2), (4, .int p3), (5, .int p4)] := hl
  show W p l e rm_X12_width s m args below meth c s.heap [] 0 0 _ _
  refine W.genQ (fun Q hQ => ?_)
  have b_100 : ∀ (J51 : (Int32 × Int32 × Int32 × Int32 × Int32 × Int32 × BX12) → Option (Int32 × BX12)) (hJ51 : ∀ (x1 : Int32) (x2 : Int32) (x5 : Int32) (x6 : Int32) (x7 : Int32) (x8 : Int32) (v0 : BX12) (H : Heap) (locs : List Loc) (ls : Array Slot), va_P D vwCl (WS_X12_width cI cJ cZ cY a0 a0_a a0_image a0_texts a0_board a0_taken a0_fars a0_before a0_tape a0_pile a0_rows a0_told a0_values a0_truth a0_keeps v0) H → va_D A (WS_X12_width cI cJ cZ cY a0 a0_a a0_image a0_texts a0_board a0_taken a0_fars a0_before a0_tape a0_pile a0_rows a0_told a0_values a0_truth a0_keeps v0) → va_S A s.heap H locs → lv_has ls 10 [(0, .ref a0), (1, .int x1), (2, .int x2), (5, .int x5), (6, .int x6), (7, .int x7), (8, .int x8)] → J51 (x1, x2, x5, x6, x7, x8, v0) = some res → W p l e rm_X12_width s m args below meth c H locs 0 0 Q (F0 m 51 ls [])), ∀ (x1 : Int32) (x2 : Int32) (x5 : Int32) (x6 : Int32) (x7 : Int32) (x8 : Int32) (v0 : BX12) (H : Heap) (locs : List Loc) (ls : Array Slot), va_P D vwCl (WS_X12_width cI cJ cZ cY a0 a0_a a0_image a0_texts a0_board a0_taken a0_fars a0_before a0_tape a0_pile a0_rows a0_told a0_values a0_truth a0_keeps v0) H → va_D A (WS_X12_width cI cJ cZ cY a0 a0_a a0_image a0_texts a0_board a0_taken a0_fars a0_before a0_tape a0_pile a0_rows a0_told a0_values a0_truth a0_keeps v0) → va_S A s.heap H locs → lv_has ls 10 [(0, .ref a0), (1, .int x1), (2, .int x2), (5, .int x5), (6, .int x6), (7, .int x7), (8, .int x8)] → f_X12_width_b100 J51 x1 x2 x5 x6 x7 x8 v0 = some res → W p l e rm_X12_width s m args below meth c H locs 0 0 Q (F0 m 100 ls []) := by
    intro J51 hJ51 x1 x2 x5 x6 x7 x8 v0 H locs ls hP hD hS hl hg
    unfold f_X12_width_b100 at hg
    obtain ⟨x8_1, ex8_1⟩ : ∃ z : Int32, z = x8 + 1 := ⟨_, rfl⟩
    have hg := g_lte hg x8_1 ex8_1
    refine lv_iinc (v := x8_1) (lv' := [(8, .int x8_1), (0, .ref a0), (1, .int x1), (2, .int x2), (5, .int x5), (6, .int x6), (7, .int x7)]) hx hb dX12_width_100 hl (k := 6) rfl (by rw [ex8_1]; rfl) (by decide) rfl (fun ls hl => ?_)
    refine lv_goto (tgt := 51) hx hb dX12_width_103 (by decide) ?_
    exact hJ51 x1 x2 x5 x6 x7 x8_1 v0 H locs ls hP hD hS (lv_sub hl [1, 2, 3, 4, 5, 6, 0] rfl) hg
  have b_51 : ∀ (n : Nat), ∀ (x1 : Int32) (x2 : Int32) (x5 : Int32) (x6 : Int32) (x7 : Int32) (x8 : Int32) (v0 : BX12) (H : Heap) (locs : List Loc) (ls : Array Slot), va_P D vwCl (WS_X12_width cI cJ cZ cY a0 a0_a a0_image a0_texts a0_board a0_taken a0_fars a0_before a0_tape a0_pile a0_rows a0_told a0_values a0_truth a0_keeps v0) H → va_D A (WS_X12_width cI cJ cZ cY a0 a0_a a0_image a0_texts a0_board a0_taken a0_fars a0_before a0_tape a0_pile a0_rows a0_told a0_values a0_truth a0_keeps v0) → va_S A s.heap H locs → lv_has ls 10 [(0, .ref a0), (1, .int x1), (2, .int x2), (5, .int x5), (6, .int x6), (7, .int x7), (8, .int x8)] → f_X12_width_b51 n (x1, x2, x5, x6, x7, x8, v0) = some res → W p l e rm_X12_width s m args below meth c H locs 0 0 Q (F0 m 51 ls []) := by
    intro n
    induction n with
    | zero =>
      intro x1 x2 x5 x6 x7 x8 v0 H locs ls hP hD hS hl hg
      exact (g_lp0 hg).elim
    | succ n ih =>
      intro x1 x2 x5 x6 x7 x8 v0 H locs ls hP hD hS hl hg
      have hg : f_X12_width_b51B (f_X12_width_b51 n) x1 x2 x5 x6 x7 x8 v0 = some res := hg
      unfold f_X12_width_b51B at hg
      refine lv_iload hx hb dX12_width_51 (lv_at hl 6 rfl) ?_
      refine lv_bipush (v := 8) hx hb dX12_width_53 (by decide) ?_
      refine lv_icmp_ge (tgt := 106) hx hb dX12_width_55 (by decide) (fun c_2 => ?_) (fun c_2 => ?_)
      · have hg := g_it hg c_2
        refine lv_iload hx hb dX12_width_106 (lv_at hl 4 rfl) ?_
        have hg := Option.some.inj hg
        rw [hQ]
        exact W.iret (v := x6) hx hb hr (fun t ht hW => ⟨⟨x6, (v0), rfl, ⟨by rw [← hg], by rw [← hg]⟩, by rw [ht]; exact hP, hD⟩, hS.F ht⟩) hS.2.2 dX12_width_108
      · have hg := g_if hg c_2
        refine lv_aload_n hx hb dX12_width_58 rfl (lv_at hl 0 rfl) ?_
        refine lv_iload_n hx hb dX12_width_59 rfl (lv_at hl 1 rfl) ?_
        refine lv_iload hx hb dX12_width_60 (lv_at hl 6 rfl) ?_
        refine lv_iload hx hb dX12_width_62 (lv_at hl 3 rfl) ?_
        obtain ⟨r_3, hr_3, hg⟩ := g_bd hg
        refine cc_i (va_runV (C := RX12) (As := [.int x1, .int x8, .int x5]) (rest := []) ⟨hx, hb, hml, hown, htb⟩ (k_X12_takeOf a0 a0_a a0_image a0_texts a0_board a0_taken a0_fars a0_before a0_tape a0_pile a0_rows a0_told a0_values a0_truth a0_keeps v0 x1 x8 x5 r_3 hr_3) (cw_V 3 htb tg_1153 tg_13 tg_1150 tg_1152 ts_37 rfl rfl (by decide +kernel) ⟨Nat.le_of_ble_eq_true rfl, Nat.le_of_ble_eq_true rfl⟩) ⟨PC.blind, va_recv hK.1 hP (ci := 11) (q0 := 0) rfl rfl, PC.pre hK hT hP hD hS hA [0, 1, 2, 3, 4, 5, 6, 7, 8, 9, 10, 11, 12, 13, 14] rfl (by decide)⟩ rfl rfl hl.1 rfl (lv_room (Nat.le_of_ble_eq_true rfl)) dX12_width_64 ⟨Nat.le_of_ble_eq_true rfl, Nat.le_of_ble_eq_true rfl⟩) hP hD hS hA [0, 1, 2, 3, 4, 5, 6, 7, 8, 9, 10, 11, 12, 13, 14] [] rfl rfl (by decide) (by decide) (fun r9 u9 H locs hw hP hD hS => ?_)
        have hw := hw.symm
        subst hw
        have hP : va_P D vwCl (WS_X12_width cI cJ cZ cY a0 a0_a a0_image a0_texts a0_board a0_taken a0_fars a0_before a0_tape a0_pile a0_rows a0_told a0_values a0_truth a0_keeps v0) H := hP.sub [0, 1, 2, 3, 4, 5, 6, 7, 8, 9, 10, 11, 12, 13, 14] rfl
        have hD : va_D A (WS_X12_width cI cJ cZ cY a0 a0_a a0_image a0_texts a0_board a0_taken a0_fars a0_before a0_tape a0_pile a0_rows a0_told a0_values a0_truth a0_keeps v0) := hD.sub [0, 1, 2, 3, 4, 5, 6, 7, 8, 9, 10, 11, 12, 13, 14] (by decide) rfl
        refine lv_aload_n hx hb dX12_width_67 rfl (lv_at hl 0 rfl) ?_
        refine lv_iload_n hx hb dX12_width_68 rfl (lv_at hl 2 rfl) ?_
        refine lv_iload hx hb dX12_width_69 (lv_at hl 6 rfl) ?_
        refine lv_iload hx hb dX12_width_71 (lv_at hl 3 rfl) ?_
        obtain ⟨r_4, hr_4, hg⟩ := g_bd hg
        refine cc_i (va_runV (C := RX12) (As := [.int x2, .int x8, .int x5]) (rest := [.int r_3]) ⟨hx, hb, hml, hown, htb⟩ (k_X12_takeOf a0 a0_a a0_image a0_texts a0_board a0_taken a0_fars a0_before a0_tape a0_pile a0_rows a0_told a0_values a0_truth a0_keeps v0 x2 x8 x5 r_4 hr_4) (cw_V 3 htb tg_1153 tg_13 tg_1150 tg_1152 ts_37 rfl rfl (by decide +kernel) ⟨Nat.le_of_ble_eq_true rfl, Nat.le_of_ble_eq_true rfl⟩) ⟨PC.blind, va_recv hK.1 hP (ci := 11) (q0 := 0) rfl rfl, PC.pre hK hT hP hD hS hA [0, 1, 2, 3, 4, 5, 6, 7, 8, 9, 10, 11, 12, 13, 14] rfl (by decide)⟩ rfl rfl hl.1 rfl (lv_room (Nat.le_of_ble_eq_true rfl)) dX12_width_73 ⟨Nat.le_of_ble_eq_true rfl, Nat.le_of_ble_eq_true rfl⟩) hP hD hS hA [0, 1, 2, 3, 4, 5, 6, 7, 8, 9, 10, 11, 12, 13, 14] [] rfl rfl (by decide) (by decide) (fun r9 u9 H locs hw hP hD hS => ?_)
        have hw := hw.symm
        subst hw
        have hP : va_P D vwCl (WS_X12_width cI cJ cZ cY a0 a0_a a0_image a0_texts a0_board a0_taken a0_fars a0_before a0_tape a0_pile a0_rows a0_told a0_values a0_truth a0_keeps v0) H := hP.sub [0, 1, 2, 3, 4, 5, 6, 7, 8, 9, 10, 11, 12, 13, 14] rfl
        have hD : va_D A (WS_X12_width cI cJ cZ cY a0 a0_a a0_image a0_texts a0_board a0_taken a0_fars a0_before a0_tape a0_pile a0_rows a0_told a0_values a0_truth a0_keeps v0) := hD.sub [0, 1, 2, 3, 4, 5, 6, 7, 8, 9, 10, 11, 12, 13, 14] (by decide) rfl
        refine lv_isub hx hb dX12_width_76 ?_
        obtain ⟨r_5, hr_5, hg⟩ := g_bd hg
        refine cc_i (va_runS (As := [.int (r_3 - r_4)]) (rest := []) ⟨hx, hb, hml, hown, htb⟩ (k_X12_abs (r_3 - r_4) r_5 hr_5) (cw_S 1 htb tg_1156 tg_13 tg_1154 tg_1155 rfl rfl (by decide +kernel) ⟨Nat.le_of_ble_eq_true rfl, Nat.le_of_ble_eq_true rfl⟩) ⟨PC.blind, PC.pre hK hT hP hD hS hA [] rfl (by decide)⟩ rfl rfl hl.1 rfl (lv_room (Nat.le_of_ble_eq_true rfl)) dX12_width_77 ⟨Nat.le_of_ble_eq_true rfl, Nat.le_of_ble_eq_true rfl⟩) hP hD hS hA [] [0, 1, 2, 3, 4, 5, 6, 7, 8, 9, 10, 11, 12, 13, 14] rfl rfl (by decide) (by decide) (fun r9 u9 H locs hw hP hD hS => ?_)
        have hw := hw.symm
        subst hw
        have hP : va_P D vwCl (WS_X12_width cI cJ cZ cY a0 a0_a a0_image a0_texts a0_board a0_taken a0_fars a0_before a0_tape a0_pile a0_rows a0_told a0_values a0_truth a0_keeps v0) H := hP.sub [0, 1, 2, 3, 4, 5, 6, 7, 8, 9, 10, 11, 12, 13, 14] rfl
        have hD : va_D A (WS_X12_width cI cJ cZ cY a0 a0_a a0_image a0_texts a0_board a0_taken a0_fars a0_before a0_tape a0_pile a0_rows a0_told a0_values a0_truth a0_keeps v0) := hD.sub [0, 1, 2, 3, 4, 5, 6, 7, 8, 9, 10, 11, 12, 13, 14] (by decide) rfl
        refine lv_istore (lv' := [(9, .int r_5), (0, .ref a0), (1, .int x1), (2, .int x2), (5, .int x5), (6, .int x6), (7, .int x7), (8, .int x8)]) hx hb dX12_width_80 hl (by decide) rfl (fun ls hl => ?_)
        refine lv_iload hx hb dX12_width_82 (lv_at hl 0 rfl) ?_
        refine lv_iload hx hb dX12_width_84 (lv_at hl 6 rfl) ?_
        refine lv_icmp_gt (tgt := 92) hx hb dX12_width_86 (by decide) (fun c_6 => ?_) (fun c_6 => ?_)
        · have hg := g_it hg c_6
          refine lv_iload hx hb dX12_width_92 (lv_at hl 7 rfl) ?_
          refine lv_istore (lv' := [(6, .int x8), (9, .int r_5), (0, .ref a0), (1, .int x1), (2, .int x2), (5, .int x5), (7, .int x7), (8, .int x8)]) hx hb dX12_width_94 hl (by decide) rfl (fun ls hl => ?_)
          refine lv_iload hx hb dX12_width_96 (lv_at hl 1 rfl) ?_
          refine lv_istore (lv' := [(7, .int r_5), (6, .int x8), (9, .int r_5), (0, .ref a0), (1, .int x1), (2, .int x2), (5, .int x5), (8, .int x8)]) hx hb dX12_width_98 hl (by decide) rfl (fun ls hl => ?_)
          exact b_100 (f_X12_width_b51 n) ih x1 x2 x5 x8 r_5 x8 v0 H locs ls hP hD hS (lv_sub hl [3, 4, 5, 6, 1, 0, 7] rfl) hg
        · have hg := g_if hg c_6
          refine lv_goto (tgt := 100) hx hb dX12_width_89 (by decide) ?_
          exact b_100 (f_X12_width_b51 n) ih x1 x2 x5 x6 x7 x8 v0 H locs ls hP hD hS (lv_sub hl [1, 2, 3, 4, 5, 6, 7] rfl) hg
  generalize hHe : s.heap = H at hP ⊢
  have hS : va_S A s.heap H [] := by rw [← hHe]; exact va_S.rf
  generalize ([] : List Loc) = locs at hS ⊢
  unfold f_X12_width at hg
  refine lv_iload_n hx hb dX12_width_0 rfl (lv_at hl 1 rfl) ?_
  obtain ⟨r_7, hr_7, hg⟩ := g_bd hg
  refine cc_i (va_runS (As := [.int p0]) (rest := []) ⟨hx, hb, hml, hown, htb⟩ (k_X12_isSide p0 r_7 hr_7) (cw_S 1 htb tg_1108 tg_13 tg_1106 tg_1107 rfl rfl (by decide +kernel) ⟨Nat.le_of_ble_eq_true rfl, Nat.le_of_ble_eq_true rfl⟩) ⟨PC.blind, PC.pre hK hT hP hD hS hA [] rfl (by decide)⟩ rfl rfl hl.1 rfl (lv_room (Nat.le_of_ble_eq_true rfl)) dX12_width_1 ⟨Nat.le_of_ble_eq_true rfl, Nat.le_of_ble_eq_true rfl⟩) hP hD hS hA [] [0, 1, 2, 3, 4, 5, 6, 7, 8, 9, 10, 11, 12, 13, 14] rfl rfl (by decide) (by decide) (fun r9 u9 H locs hw hP hD hS => ?_)
  have hw := hw.symm
  subst hw
  have hP : va_P D vwCl (WS_X12_width cI cJ cZ cY a0 a0_a a0_image a0_texts a0_board a0_taken a0_fars a0_before a0_tape a0_pile a0_rows a0_told a0_values a0_truth a0_keeps v0) H := hP.sub [0, 1, 2, 3, 4, 5, 6, 7, 8, 9, 10, 11, 12, 13, 14] rfl
  have hD : va_D A (WS_X12_width cI cJ cZ cY a0 a0_a a0_image a0_texts a0_board a0_taken a0_fars a0_before a0_tape a0_pile a0_rows a0_told a0_values a0_truth a0_keeps v0) := hD.sub [0, 1, 2, 3, 4, 5, 6, 7, 8, 9, 10, 11, 12, 13, 14] (by decide) rfl
  refine lv_if_eq (tgt := 32) hx hb dX12_width_4 (by decide) (fun c_8 => ?_) (fun c_8 => ?_)
  · have hg := g_it hg c_8
    refine lv_iconst (v := (-1)) hx hb dX12_width_32 (by decide) ?_
    have hg := Option.some.inj hg
    rw [hQ]
    exact W.iret (v := (-1)) hx hb hr (fun t ht hW => ⟨⟨(-1), (v0), rfl, ⟨by rw [← hg], by rw [← hg]⟩, by rw [ht]; exact hP, hD⟩, hS.F ht⟩) hS.2.2 dX12_width_33
  · have hg := g_if hg c_8
    refine lv_iload_n hx hb dX12_width_7 rfl (lv_at hl 2 rfl) ?_
    obtain ⟨r_9, hr_9, hg⟩ := g_bd hg
    refine cc_i (va_runS (As := [.int p1]) (rest := []) ⟨hx, hb, hml, hown, htb⟩ (k_X12_isSide p1 r_9 hr_9) (cw_S 1 htb tg_1108 tg_13 tg_1106 tg_1107 rfl rfl (by decide +kernel) ⟨Nat.le_of_ble_eq_true rfl, Nat.le_of_ble_eq_true rfl⟩) ⟨PC.blind, PC.pre hK hT hP hD hS hA [] rfl (by decide)⟩ rfl rfl hl.1 rfl (lv_room (Nat.le_of_ble_eq_true rfl)) dX12_width_8 ⟨Nat.le_of_ble_eq_true rfl, Nat.le_of_ble_eq_true rfl⟩) hP hD hS hA [] [0, 1, 2, 3, 4, 5, 6, 7, 8, 9, 10, 11, 12, 13, 14] rfl rfl (by decide) (by decide) (fun r9 u9 H locs hw hP hD hS => ?_)
    have hw := hw.symm
    subst hw
    have hP : va_P D vwCl (WS_X12_width cI cJ cZ cY a0 a0_a a0_image a0_texts a0_board a0_taken a0_fars a0_before a0_tape a0_pile a0_rows a0_told a0_values a0_truth a0_keeps v0) H := hP.sub [0, 1, 2, 3, 4, 5, 6, 7, 8, 9, 10, 11, 12, 13, 14] rfl
    have hD : va_D A (WS_X12_width cI cJ cZ cY a0 a0_a a0_image a0_texts a0_board a0_taken a0_fars a0_before a0_tape a0_pile a0_rows a0_told a0_values a0_truth a0_keeps v0) := hD.sub [0, 1, 2, 3, 4, 5, 6, 7, 8, 9, 10, 11, 12, 13, 14] (by decide) rfl
    refine lv_if_eq (tgt := 32) hx hb dX12_width_11 (by decide) (fun c_10 => ?_) (fun c_10 => ?_)
    · have hg := g_it hg c_10
      refine lv_iconst (v := (-1)) hx hb dX12_width_32 (by decide) ?_
      have hg := Option.some.inj hg
      rw [hQ]
      exact W.iret (v := (-1)) hx hb hr (fun t ht hW => ⟨⟨(-1), (v0), rfl, ⟨by rw [← hg], by rw [← hg]⟩, by rw [ht]; exact hP, hD⟩, hS.F ht⟩) hS.2.2 dX12_width_33
    · have hg := g_if hg c_10
      refine lv_aload_n hx hb dX12_width_14 rfl (lv_at hl 0 rfl) ?_
      refine lv_iload_n hx hb dX12_width_15 rfl (lv_at hl 3 rfl) ?_
      refine lv_iload hx hb dX12_width_16 (lv_at hl 4 rfl) ?_
      obtain ⟨r_11, hr_11, hg⟩ := g_bd hg
      refine cc_i (va_runV (C := RX12) (As := [.int p2, .int p3]) (rest := []) ⟨hx, hb, hml, hown, htb⟩ (k_X12_isPlace a0 a0_a a0_image a0_texts a0_board a0_taken a0_fars a0_before a0_tape a0_pile a0_rows a0_told a0_values a0_truth a0_keeps v0 p2 p3 r_11 hr_11) (cw_V 2 htb tg_1105 tg_13 tg_1102 tg_1104 ts_31 rfl rfl (by decide +kernel) ⟨Nat.le_of_ble_eq_true rfl, Nat.le_of_ble_eq_true rfl⟩) ⟨PC.blind, va_recv hK.1 hP (ci := 11) (q0 := 0) rfl rfl, PC.pre hK hT hP hD hS hA [0, 1, 2, 3, 4, 5, 6, 7, 8, 9, 10, 11, 12, 13, 14] rfl (by decide)⟩ rfl rfl hl.1 rfl (lv_room (Nat.le_of_ble_eq_true rfl)) dX12_width_18 ⟨Nat.le_of_ble_eq_true rfl, Nat.le_of_ble_eq_true rfl⟩) hP hD hS hA [0, 1, 2, 3, 4, 5, 6, 7, 8, 9, 10, 11, 12, 13, 14] [] rfl rfl (by decide) (by decide) (fun r9 u9 H locs hw hP hD hS => ?_)
      have hw := hw.symm
      subst hw
      have hP : va_P D vwCl (WS_X12_width cI cJ cZ cY a0 a0_a a0_image a0_texts a0_board a0_taken a0_fars a0_before a0_tape a0_pile a0_rows a0_told a0_values a0_truth a0_keeps v0) H := hP.sub [0, 1, 2, 3, 4, 5, 6, 7, 8, 9, 10, 11, 12, 13, 14] rfl
      have hD : va_D A (WS_X12_width cI cJ cZ cY a0 a0_a a0_image a0_texts a0_board a0_taken a0_fars a0_before a0_tape a0_pile a0_rows a0_told a0_values a0_truth a0_keeps v0) := hD.sub [0, 1, 2, 3, 4, 5, 6, 7, 8, 9, 10, 11, 12, 13, 14] (by decide) rfl
      refine lv_if_eq (tgt := 32) hx hb dX12_width_21 (by decide) (fun c_12 => ?_) (fun c_12 => ?_)
      · have hg := g_it hg c_12
        refine lv_iconst (v := (-1)) hx hb dX12_width_32 (by decide) ?_
        have hg := Option.some.inj hg
        rw [hQ]
        exact W.iret (v := (-1)) hx hb hr (fun t ht hW => ⟨⟨(-1), (v0), rfl, ⟨by rw [← hg], by rw [← hg]⟩, by rw [ht]; exact hP, hD⟩, hS.F ht⟩) hS.2.2 dX12_width_33
      · have hg := g_if hg c_12
        refine lv_iload hx hb dX12_width_24 (lv_at hl 5 rfl) ?_
        obtain ⟨r_13, hr_13, hg⟩ := g_bd hg
        refine cc_i (va_runS (As := [.int p4]) (rest := []) ⟨hx, hb, hml, hown, htb⟩ (k_X12_isSide p4 r_13 hr_13) (cw_S 1 htb tg_1108 tg_13 tg_1106 tg_1107 rfl rfl (by decide +kernel) ⟨Nat.le_of_ble_eq_true rfl, Nat.le_of_ble_eq_true rfl⟩) ⟨PC.blind, PC.pre hK hT hP hD hS hA [] rfl (by decide)⟩ rfl rfl hl.1 rfl (lv_room (Nat.le_of_ble_eq_true rfl)) dX12_width_26 ⟨Nat.le_of_ble_eq_true rfl, Nat.le_of_ble_eq_true rfl⟩) hP hD hS hA [] [0, 1, 2, 3, 4, 5, 6, 7, 8, 9, 10, 11, 12, 13, 14] rfl rfl (by decide) (by decide) (fun r9 u9 H locs hw hP hD hS => ?_)
        have hw := hw.symm
        subst hw
        have hP : va_P D vwCl (WS_X12_width cI cJ cZ cY a0 a0_a a0_image a0_texts a0_board a0_taken a0_fars a0_before a0_tape a0_pile a0_rows a0_told a0_values a0_truth a0_keeps v0) H := hP.sub [0, 1, 2, 3, 4, 5, 6, 7, 8, 9, 10, 11, 12, 13, 14] rfl
        have hD : va_D A (WS_X12_width cI cJ cZ cY a0 a0_a a0_image a0_texts a0_board a0_taken a0_fars a0_before a0_tape a0_pile a0_rows a0_told a0_values a0_truth a0_keeps v0) := hD.sub [0, 1, 2, 3, 4, 5, 6, 7, 8, 9, 10, 11, 12, 13, 14] (by decide) rfl
        refine lv_if_ne (tgt := 34) hx hb dX12_width_29 (by decide) (fun c_14 => ?_) (fun c_14 => ?_)
        · have hg := g_if hg c_14
          refine lv_aload_n hx hb dX12_width_34 rfl (lv_at hl 0 rfl) ?_
          refine lv_iload_n hx hb dX12_width_35 rfl (lv_at hl 3 rfl) ?_
          refine lv_iload hx hb dX12_width_36 (lv_at hl 4 rfl) ?_
          refine lv_iconst (v := 0) hx hb dX12_width_38 (by decide) ?_
          obtain ⟨r_15, hr_15, hg⟩ := g_bd hg
          refine cc_v (va_runV (C := RX12) (As := [.int p2, .int p3, .int 0]) (rest := []) ⟨hx, hb, hml, hown, htb⟩ (k_X12_look a0 a0_a a0_image a0_texts a0_board a0_taken a0_fars a0_before a0_tape a0_pile a0_rows a0_told a0_values a0_truth a0_keeps v0 p2 p3 0 r_15 hr_15) (cw_V 3 htb tg_1145 tg_13 tg_1142 tg_1144 ts_35 rfl rfl (by decide +kernel) ⟨Nat.le_of_ble_eq_true rfl, Nat.le_of_ble_eq_true rfl⟩) ⟨PC.blind, va_recv hK.1 hP (ci := 11) (q0 := 0) rfl rfl, PC.pre hK hT hP hD hS hA [0, 1, 2, 3, 4, 5, 6, 7, 8, 9, 10, 11, 12, 13, 14] rfl (by decide)⟩ rfl rfl hl.1 rfl (lv_room (Nat.le_of_ble_eq_true rfl)) dX12_width_39 ⟨Nat.le_of_ble_eq_true rfl, Nat.le_of_ble_eq_true rfl⟩) hP hD hS hA [0, 1, 2, 3, 4, 5, 6, 7, 8, 9, 10, 11, 12, 13, 14] [] rfl rfl (by decide) (by decide) (fun u9 H locs hw hP hD hS => ?_)
          have hw := hw.symm
          subst hw
          have hP : va_P D vwCl (WS_X12_width cI cJ cZ cY a0 a0_a a0_image a0_texts a0_board a0_taken a0_fars a0_before a0_tape a0_pile a0_rows a0_told a0_values a0_truth a0_keeps r_15) H := hP.sub [0, 1, 2, 3, 4, 5, 6, 7, 8, 9, 10, 11, 12, 13, 14] rfl
          have hD : va_D A (WS_X12_width cI cJ cZ cY a0 a0_a a0_image a0_texts a0_board a0_taken a0_fars a0_before a0_tape a0_pile a0_rows a0_told a0_values a0_truth a0_keeps r_15) := hD.sub [0, 1, 2, 3, 4, 5, 6, 7, 8, 9, 10, 11, 12, 13, 14] (by decide) rfl
          refine lv_iconst (v := 0) hx hb dX12_width_42 (by decide) ?_
          refine lv_istore (lv' := [(6, .int 0), (0, .ref a0), (1, .int p0), (2, .int p1), (3, .int p2), (4, .int p3), (5, .int p4)]) hx hb dX12_width_43 hl (by decide) rfl (fun ls hl => ?_)
          refine lv_iconst (v := (-1)) hx hb dX12_width_45 (by decide) ?_
          refine lv_topi (fun x7_16 ex7_16 => ?_)
          have hg := g_lte hg x7_16 ex7_16
          refine lv_istore (lv' := [(7, .int x7_16), (6, .int 0), (0, .ref a0), (1, .int p0), (2, .int p1), (3, .int p2), (4, .int p3), (5, .int p4)]) hx hb dX12_width_46 hl (by decide) rfl (fun ls hl => ?_)
          refine lv_iconst (v := 0) hx hb dX12_width_48 (by decide) ?_
          refine lv_istore (lv' := [(8, .int 0), (7, .int x7_16), (6, .int 0), (0, .ref a0), (1, .int p0), (2, .int p1), (3, .int p2), (4, .int p3), (5, .int p4)]) hx hb dX12_width_49 hl (by decide) rfl (fun ls hl => ?_)
          exact b_51 fU p0 p1 p4 0 x7_16 0 r_15 H locs ls hP hD hS (lv_sub hl [3, 4, 5, 8, 2, 1, 0] rfl) hg
        · have hg := g_it hg c_14
          refine lv_iconst (v := (-1)) hx hb dX12_width_32 (by decide) ?_
          have hg := Option.some.inj hg
          rw [hQ]
          exact W.iret (v := (-1)) hx hb hr (fun t ht hW => ⟨⟨(-1), (v0), rfl, ⟨by rw [← hg], by rw [← hg]⟩, by rw [ht]; exact hP, hD⟩, hS.F ht⟩) hS.2.2 dX12_width_33
