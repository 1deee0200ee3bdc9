/-! ManyEyesModel.either()I -/
def WS_X12_either (cI cJ cZ cY : ClassId) (a0 a0_a a0_image a0_texts a0_board a0_taken a0_fars a0_before a0_tape a0_pile a0_rows a0_told a0_values a0_truth a0_keeps : Nat) (v0 : BX12) : va_W := (GX12 cI cJ cZ cY a0 a0_a a0_image a0_texts a0_board a0_taken a0_fars a0_before a0_tape a0_pile a0_rows a0_told a0_values a0_truth a0_keeps v0)
def f_X12_either_b107 (J6 : (Int32 × Int32 × Int32 × BX12) → Option (Int32 × BX12)) (x1 : Int32) (x2 : Int32) (t0 : Int32) (v0 : BX12) : Option (Int32 × BX12) := if (t0 : Int32) = 0 then (J6 (x1, x2, t0, v0)) else ((f_X12_nextToken v0).bind (fun r_2 => J6 (x1, x2, t0, r_2)))
def f_X12_either_b102 (J6 : (Int32 × Int32 × Int32 × BX12) → Option (Int32 × BX12)) (x1 : Int32) (x2 : Int32) (v0 : BX12) : Option (Int32 × BX12) := f_X12_either_b107 J6 x1 x2 1 v0
def f_X12_either_b93 (J6 : (Int32 × Int32 × Int32 × BX12) → Option (Int32 × BX12)) (x1 : Int32) (x2 : Int32) (x5 : Int32) (v0 : BX12) : Option (Int32 × BX12) := if (x1 : Int32) = 0 then (if (x5 : Int32) = 0 then (f_X12_either_b107 J6 x1 x2 0 v0) else (f_X12_either_b102 J6 x1 x2 v0)) else (f_X12_either_b102 J6 x1 x2 v0)
def f_X12_either_b90 (J6 : (Int32 × Int32 × Int32 × BX12) → Option (Int32 × BX12)) (x1 : Int32) (x5 : Int32) (v0 : BX12) : Option (Int32 × BX12) := f_X12_either_b93 J6 x1 x5 x5 v0
def f_X12_either_b73 (J6 : (Int32 × Int32 × Int32 × BX12) → Option (Int32 × BX12)) (x1 : Int32) (x2 : Int32) (t0 : Int32) (v0 : BX12) : Option (Int32 × BX12) := if (x1 : Int32) = 0 then (if (x2 : Int32) = 0 then (f_X12_either_b90 J6 x1 t0 v0) else ((f_X12_emit v0 22 0).bind (fun r_7 => f_X12_either_b90 J6 x1 t0 r_7))) else (f_X12_either_b93 J6 x1 x2 t0 v0)
def f_X12_either_b72 (J6 : (Int32 × Int32 × Int32 × BX12) → Option (Int32 × BX12)) (x1 : Int32) (x2 : Int32) (v0 : BX12) : Option (Int32 × BX12) := f_X12_either_b73 J6 x1 x2 0 v0
def f_X12_either_b35 (J6 : (Int32 × Int32 × Int32 × BX12) → Option (Int32 × BX12)) (x2 : Int32) (v0 : BX12) : Option (Int32 × BX12) := (f_X12_w3 97 110 100).bind (fun r_8 => (f_X12_isWord v0 r_8).bind (fun r_9 => if ((pX12_token v0) : Int32) = 2 then (if ((lg_cmp (pX12_word v0) 28530) : Int32) = 0 then (f_X12_either_b73 J6 r_9 x2 1 v0) else (f_X12_either_b72 J6 r_9 x2 v0)) else (f_X12_either_b72 J6 r_9 x2 v0)))
def f_X12_either_b6B (J6 : Int32 × Int32 × Int32 × BX12 → Option (Int32 × BX12)) (x1 : Int32) (x2 : Int32) (x3 : Int32) (v0 : BX12) : Option (Int32 × BX12) := if (x3 : Int32) = 0 then (some (0, v0)) else ((f_X12_ask v0).bind (fun r_13 => if (r_13.1 : Int32) = 0 then (if (x1 : Int32) = 0 then (f_X12_either_b35 J6 x2 r_13.2) else ((f_X12_emit r_13.2 21 0).bind (fun r_16 => f_X12_either_b35 J6 x2 r_16))) else (some (r_13.1, r_13.2))))
def f_X12_either_b6 : Nat → (Int32 × Int32 × Int32 × BX12) → Option (Int32 × BX12) := g_lp (fun J z => f_X12_either_b6B J z.1 z.2.1 z.2.2.1 z.2.2.2)
def f_X12_either (v0 : BX12) : Option (Int32 × BX12) := f_X12_either_b6 fU (0, 0, 1, v0)
abbrev rm_X12_either : Room := { frames := 7, cells := 0, slots := 0, locals := 151 }
set_option maxHeartbeats 4000000 in
set_option maxRecDepth 100000 in
theorem k_X12_either {l : Launch} {D : va_G} {cI cJ cZ cY : ClassId} {tX tY : Nat} {sz : Nat} (a0 a0_a a0_image a0_texts a0_board a0_taken a0_fars a0_before a0_tape a0_pile a0_rows a0_told a0_values a0_truth a0_keeps : Nat) (v0 : BX12) (res : Int32 × BX12) (hg : f_X12_either v0 = some res) : Met l yX12_either (Cond.code yX12_either cX12_either 6 (some .int) :: TB) rm_X12_either (PC D cI cJ cZ cY tX tY [.ref a0] (WS_X12_either cI cJ cZ cY a0 a0_a a0_image a0_texts a0_board a0_taken a0_fars a0_before a0_tape a0_pile a0_rows a0_told a0_values a0_truth a0_keeps v0) sz) (va_Qi (fun (r : Int32) (u : BX12) => r = res.1 ∧ u = res.2) (BC D (fun u : BX12 => WS_X12_either cI cJ cZ cY a0 a0_a a0_image a0_texts a0_board a0_taken a0_fars a0_before a0_tape a0_pile a0_rows a0_told a0_values a0_truth a0_keeps u) (va_A (WS_X12_either cI cJ cZ cY a0 a0_a a0_image a0_texts a0_board a0_taken a0_fars a0_before a0_tape a0_pile a0_rows a0_told a0_values a0_truth a0_keeps v0) sz)) (va_A (WS_X12_either cI cJ cZ cY a0 a0_a a0_image a0_texts a0_board a0_taken a0_fars a0_before a0_tape a0_pile a0_rows a0_told a0_values a0_truth a0_keeps v0) sz)) 0 0 (va_A (WS_X12_either cI cJ cZ cY a0 a0_a a0_image a0_texts a0_board a0_taken a0_fars a0_before a0_tape a0_pile a0_rows a0_told a0_values a0_truth a0_keeps v0) sz) := by
  refine Met.ofW (cc := cX12_either) (maxL := 6) (ret := (some .int)) (by decide) rfl ?_
  intro p e s m args below meth c s₁ B hml hv
  obtain ⟨hargs, hsz, hP, hK, hD0, hT⟩ := hv
  have hx := B.exec
  have hb := B.bytes
  have hr := B.returns
  have htb : ∀ w ∈ TB, w.before args s = true := fun w h => atoms_spec (ws := Cond.code yX12_either cX12_either 6 (some .int) :: TB) B.pre w (List.mem_cons_of_mem _ h)
  have hown : s.vm.findClass "ManyEyesModel" = some m.cls := findClass_of_methodNamed B.named
  have hlocks := B.notSynchronized
  subst hsz
  have hD := hD0.self (sz := s.heap.size)
  generalize hAe : va_A (WS_X12_either cI cJ cZ cY a0 a0_a a0_image a0_texts a0_board a0_taken a0_fars a0_before a0_tape a0_pile a0_rows a0_told a0_values a0_truth a0_keeps v0) s.heap.size = A at hD hT ⊢
  have hA : ∀ q : Nat, s.heap.size ≤ q → A q := fun q h => by rw [← hAe]; exact Or.inr h
  have hS : va_S A s.heap s.heap [] := va_S.rf
  have hl := lv_entry ([.ref a0]) (n := 6) (Nat.le_of_ble_eq_true rfl)
  have he : entryFrame m args 6 = F0 m 0 (lg_sl ([.ref a0]) ++ List.replicate (6 - (lg_sl ([.ref a0])).length) Slot.unset).toArray [] := by rw [hargs, lg_entry_eq]
  rw [he]
  generalize (lg_sl ([.ref a0]) ++ List.replicate (6 - (lg_sl ([.ref a0])).length) Slot.unset).toArray = ls at hl ⊢
  have hl : lv_has ls 6 [(0, .ref a0)] := hl
  show W p l e rm_X12_either s m args below meth c s.heap [] 0 0 _ _
  refine W.genQ (fun Q hQ => ?_)
  have b_107 : ∀ (J6 : (Int32 × Int32 × Int32 × BX12) → Option (Int32 × BX12)) (hJ6 : ∀ (x1 : Int32) (x2 : Int32) (x3 : Int32) (v0 : BX12) (H : Heap) (locs : List Loc) (ls : Array Slot), va_P D vwCl (WS_X12_either cI cJ cZ cY a0 a0_a a0_image a0_texts a0_board a0_taken a0_fars a0_before a0_tape a0_pile a0_rows a0_told a0_values a0_truth a0_keeps v0) H → va_D A (WS_X12_either cI cJ cZ cY a0 a0_a a0_image a0_texts a0_board a0_taken a0_fars a0_before a0_tape a0_pile a0_rows a0_told a0_values a0_truth a0_keeps v0) → va_S A s.heap H locs → lv_has ls 6 [(0, .ref a0), (1, .int x1), (2, .int x2), (3, .int x3)] → J6 (x1, x2, x3, v0) = some res → W p l e rm_X12_either s m args below meth c H locs 0 0 Q (F0 m 6 ls [])), ∀ (x1 : Int32) (x2 : Int32) (t0 : Int32) (v0 : BX12) (H : Heap) (locs : List Loc) (ls : Array Slot), va_P D vwCl (WS_X12_either cI cJ cZ cY a0 a0_a a0_image a0_texts a0_board a0_taken a0_fars a0_before a0_tape a0_pile a0_rows a0_told a0_values a0_truth a0_keeps v0) H → va_D A (WS_X12_either cI cJ cZ cY a0 a0_a a0_image a0_texts a0_board a0_taken a0_fars a0_before a0_tape a0_pile a0_rows a0_told a0_values a0_truth a0_keeps v0) → va_S A s.heap H locs → lv_has ls 6 [(0, .ref a0), (1, .int x1), (2, .int x2)] → f_X12_either_b107 J6 x1 x2 t0 v0 = some res → W p l e rm_X12_either s m args below meth c H locs 0 0 Q (F0 m 107 ls [.int t0]) := by
    intro J6 hJ6 x1 x2 t0 v0 H locs ls hP hD hS hl hg
    unfold f_X12_either_b107 at hg
    refine lv_istore_n (lv' := [(3, .int t0), (0, .ref a0), (1, .int x1), (2, .int x2)]) hx hb dX12_either_107 rfl hl (by decide) rfl (fun ls hl => ?_)
    refine lv_iload_n hx hb dX12_either_108 rfl (lv_at hl 0 rfl) ?_
    refine lv_if_eq (tgt := 116) hx hb dX12_either_109 (by decide) (fun c_1 => ?_) (fun c_1 => ?_)
    · have hg := g_it hg c_1
      refine lv_goto (tgt := 6) hx hb dX12_either_116 (by decide) ?_
      exact hJ6 x1 x2 t0 v0 H locs ls hP hD hS (lv_sub hl [1, 2, 3, 0] rfl) hg
    · have hg := g_if hg c_1
      refine lv_aload_n hx hb dX12_either_112 rfl (lv_at hl 1 rfl) ?_
      obtain ⟨r_2, hr_2, hg⟩ := g_bd hg
      refine cc_v (va_runV (C := RX12) (As := []) (rest := []) ⟨hx, hb, hml, hown, htb⟩ (k_X12_nextToken a0 a0_a a0_image a0_texts a0_board a0_taken a0_fars a0_before a0_tape a0_pile a0_rows a0_told a0_values a0_truth a0_keeps v0 r_2 hr_2) (cw_V 0 htb tg_1204 tg_13 tg_1201 tg_1203 ts_42 rfl rfl (by decide +kernel) ⟨Nat.le_of_ble_eq_true rfl, Nat.le_of_ble_eq_true rfl⟩) ⟨PC.blind, va_recv hK.1 hP (ci := 11) (q0 := 0) rfl rfl, PC.pre hK hT hP hD hS hA [0, 1, 2, 3, 4, 5, 6, 7, 8, 9, 10, 11, 12, 13, 14] rfl (by decide)⟩ rfl rfl hl.1 rfl (lv_room (Nat.le_of_ble_eq_true rfl)) dX12_either_113 ⟨Nat.le_of_ble_eq_true rfl, Nat.le_of_ble_eq_true rfl⟩) hP hD hS hA [0, 1, 2, 3, 4, 5, 6, 7, 8, 9, 10, 11, 12, 13, 14] [] rfl rfl (by decide) (by decide) (fun u9 H locs hw hP hD hS => ?_)
      have hw := hw.symm
      subst hw
      have hP : va_P D vwCl (WS_X12_either cI cJ cZ cY a0 a0_a a0_image a0_texts a0_board a0_taken a0_fars a0_before a0_tape a0_pile a0_rows a0_told a0_values a0_truth a0_keeps r_2) H := hP.sub [0, 1, 2, 3, 4, 5, 6, 7, 8, 9, 10, 11, 12, 13, 14] rfl
      have hD : va_D A (WS_X12_either cI cJ cZ cY a0 a0_a a0_image a0_texts a0_board a0_taken a0_fars a0_before a0_tape a0_pile a0_rows a0_told a0_values a0_truth a0_keeps r_2) := hD.sub [0, 1, 2, 3, 4, 5, 6, 7, 8, 9, 10, 11, 12, 13, 14] (by decide) rfl
      refine lv_goto (tgt := 6) hx hb dX12_either_116 (by decide) ?_
      exact hJ6 x1 x2 t0 r_2 H locs ls hP hD hS (lv_sub hl [1, 2, 3, 0] rfl) hg
  have b_102 : ∀ (J6 : (Int32 × Int32 × Int32 × BX12) → Option (Int32 × BX12)) (hJ6 : ∀ (x1 : Int32) (x2 : Int32) (x3 : Int32) (v0 : BX12) (H : Heap) (locs : List Loc) (ls : Array Slot), va_P D vwCl (WS_X12_either cI cJ cZ cY a0 a0_a a0_image a0_texts a0_board a0_taken a0_fars a0_before a0_tape a0_pile a0_rows a0_told a0_values a0_truth a0_keeps v0) H → va_D A (WS_X12_either cI cJ cZ cY a0 a0_a a0_image a0_texts a0_board a0_taken a0_fars a0_before a0_tape a0_pile a0_rows a0_told a0_values a0_truth a0_keeps v0) → va_S A s.heap H locs → lv_has ls 6 [(0, .ref a0), (1, .int x1), (2, .int x2), (3, .int x3)] → J6 (x1, x2, x3, v0) = some res → W p l e rm_X12_either s m args below meth c H locs 0 0 Q (F0 m 6 ls [])), ∀ (x1 : Int32) (x2 : Int32) (v0 : BX12) (H : Heap) (locs : List Loc) (ls : Array Slot), va_P D vwCl (WS_X12_either cI cJ cZ cY a0 a0_a a0_image a0_texts a0_board a0_taken a0_fars a0_before a0_tape a0_pile a0_rows a0_told a0_values a0_truth a0_keeps v0) H → va_D A (WS_X12_either cI cJ cZ cY a0 a0_a a0_image a0_texts a0_board a0_taken a0_fars a0_before a0_tape a0_pile a0_rows a0_told a0_values a0_truth a0_keeps v0) → va_S A s.heap H locs → lv_has ls 6 [(0, .ref a0), (1, .int x1), (2, .int x2)] → f_X12_either_b102 J6 x1 x2 v0 = some res → W p l e rm_X12_either s m args below meth c H locs 0 0 Q (F0 m 102 ls []) := by
    intro J6 hJ6 x1 x2 v0 H locs ls hP hD hS hl hg
    unfold f_X12_either_b102 at hg
    refine lv_iconst (v := 1) hx hb dX12_either_102 (by decide) ?_
    refine lv_goto (tgt := 107) hx hb dX12_either_103 (by decide) ?_
    exact b_107 J6 hJ6 x1 x2 1 v0 H locs ls hP hD hS (lv_sub hl [0, 1, 2] rfl) hg
  have b_93 : ∀ (J6 : (Int32 × Int32 × Int32 × BX12) → Option (Int32 × BX12)) (hJ6 : ∀ (x1 : Int32) (x2 : Int32) (x3 : Int32) (v0 : BX12) (H : Heap) (locs : List Loc) (ls : Array Slot), va_P D vwCl (WS_X12_either cI cJ cZ cY a0 a0_a a0_image a0_texts a0_board a0_taken a0_fars a0_before a0_tape a0_pile a0_rows a0_told a0_values a0_truth a0_keeps v0) H → va_D A (WS_X12_either cI cJ cZ cY a0 a0_a a0_image a0_texts a0_board a0_taken a0_fars a0_before a0_tape a0_pile a0_rows a0_told a0_values a0_truth a0_keeps v0) → va_S A s.heap H locs → lv_has ls 6 [(0, .ref a0), (1, .int x1), (2, .int x2), (3, .int x3)] → J6 (x1, x2, x3, v0) = some res → W p l e rm_X12_either s m args below meth c H locs 0 0 Q (F0 m 6 ls [])), ∀ (x1 : Int32) (x2 : Int32) (x5 : Int32) (v0 : BX12) (H : Heap) (locs : List Loc) (ls : Array Slot), va_P D vwCl (WS_X12_either cI cJ cZ cY a0 a0_a a0_image a0_texts a0_board a0_taken a0_fars a0_before a0_tape a0_pile a0_rows a0_told a0_values a0_truth a0_keeps v0) H → va_D A (WS_X12_either cI cJ cZ cY a0 a0_a a0_image a0_texts a0_board a0_taken a0_fars a0_before a0_tape a0_pile a0_rows a0_told a0_values a0_truth a0_keeps v0) → va_S A s.heap H locs → lv_has ls 6 [(0, .ref a0), (1, .int x1), (2, .int x2), (5, .int x5)] → f_X12_either_b93 J6 x1 x2 x5 v0 = some res → W p l e rm_X12_either s m args below meth c H locs 0 0 Q (F0 m 93 ls []) := by
    intro J6 hJ6 x1 x2 x5 v0 H locs ls hP hD hS hl hg
    unfold f_X12_either_b93 at hg
    refine lv_iload_n hx hb dX12_either_93 rfl (lv_at hl 1 rfl) ?_
    refine lv_if_ne (tgt := 102) hx hb dX12_either_94 (by decide) (fun c_3 => ?_) (fun c_3 => ?_)
    · have hg := g_if hg c_3
      exact b_102 J6 hJ6 x1 x2 v0 H locs ls hP hD hS (lv_sub hl [0, 1, 2] rfl) hg
    · have hg := g_it hg c_3
      refine lv_iload hx hb dX12_either_97 (lv_at hl 3 rfl) ?_
      refine lv_if_eq (tgt := 106) hx hb dX12_either_99 (by decide) (fun c_4 => ?_) (fun c_4 => ?_)
      · have hg := g_it hg c_4
        refine lv_iconst (v := 0) hx hb dX12_either_106 (by decide) ?_
        exact b_107 J6 hJ6 x1 x2 0 v0 H locs ls hP hD hS (lv_sub hl [0, 1, 2] rfl) hg
      · have hg := g_if hg c_4
        exact b_102 J6 hJ6 x1 x2 v0 H locs ls hP hD hS (lv_sub hl [0, 1, 2] rfl) hg
  have b_90 : ∀ (J6 : (Int32 × Int32 × Int32 × BX12) → Option (Int32 × BX12)) (hJ6 : ∀ (x1 : Int32) (x2 : Int32) (x3 : Int32) (v0 : BX12) (H : Heap) (locs : List Loc) (ls : Array Slot), va_P D vwCl (WS_X12_either cI cJ cZ cY a0 a0_a a0_image a0_texts a0_board a0_taken a0_fars a0_before a0_tape a0_pile a0_rows a0_told a0_values a0_truth a0_keeps v0) H → va_D A (WS_X12_either cI cJ cZ cY a0 a0_a a0_image a0_texts a0_board a0_taken a0_fars a0_before a0_tape a0_pile a0_rows a0_told a0_values a0_truth a0_keeps v0) → va_S A s.heap H locs → lv_has ls 6 [(0, .ref a0), (1, .int x1), (2, .int x2), (3, .int x3)] → J6 (x1, x2, x3, v0) = some res → W p l e rm_X12_either s m args below meth c H locs 0 0 Q (F0 m 6 ls [])), ∀ (x1 : Int32) (x5 : Int32) (v0 : BX12) (H : Heap) (locs : List Loc) (ls : Array Slot), va_P D vwCl (WS_X12_either cI cJ cZ cY a0 a0_a a0_image a0_texts a0_board a0_taken a0_fars a0_before a0_tape a0_pile a0_rows a0_told a0_values a0_truth a0_keeps v0) H → va_D A (WS_X12_either cI cJ cZ cY a0 a0_a a0_image a0_texts a0_board a0_taken a0_fars a0_before a0_tape a0_pile a0_rows a0_told a0_values a0_truth a0_keeps v0) → va_S A s.heap H locs → lv_has ls 6 [(0, .ref a0), (1, .int x1), (5, .int x5)] → f_X12_either_b90 J6 x1 x5 v0 = some res → W p l e rm_X12_either s m args below meth c H locs 0 0 Q (F0 m 90 ls []) := by
    intro J6 hJ6 x1 x5 v0 H locs ls hP hD hS hl hg
    unfold f_X12_either_b90 at hg
    refine lv_iload hx hb dX12_either_90 (lv_at hl 2 rfl) ?_
    refine lv_istore_n (lv' := [(2, .int x5), (0, .ref a0), (1, .int x1), (5, .int x5)]) hx hb dX12_either_92 rfl hl (by decide) rfl (fun ls hl => ?_)
    exact b_93 J6 hJ6 x1 x5 x5 v0 H locs ls hP hD hS (lv_sub hl [1, 2, 0, 3] rfl) hg
  have b_73 : ∀ (J6 : (Int32 × Int32 × Int32 × BX12) → Option (Int32 × BX12)) (hJ6 : ∀ (x1 : Int32) (x2 : Int32) (x3 : Int32) (v0 : BX12) (H : Heap) (locs : List Loc) (ls : Array Slot), va_P D vwCl (WS_X12_either cI cJ cZ cY a0 a0_a a0_image a0_texts a0_board a0_taken a0_fars a0_before a0_tape a0_pile a0_rows a0_told a0_values a0_truth a0_keeps v0) H → va_D A (WS_X12_either cI cJ cZ cY a0 a0_a a0_image a0_texts a0_board a0_taken a0_fars a0_before a0_tape a0_pile a0_rows a0_told a0_values a0_truth a0_keeps v0) → va_S A s.heap H locs → lv_has ls 6 [(0, .ref a0), (1, .int x1), (2, .int x2), (3, .int x3)] → J6 (x1, x2, x3, v0) = some res → W p l e rm_X12_either s m args below meth c H locs 0 0 Q (F0 m 6 ls [])), ∀ (x1 : Int32) (x2 : Int32) (t0 : Int32) (v0 : BX12) (H : Heap) (locs : List Loc) (ls : Array Slot), va_P D vwCl (WS_X12_either cI cJ cZ cY a0 a0_a a0_image a0_texts a0_board a0_taken a0_fars a0_before a0_tape a0_pile a0_rows a0_told a0_values a0_truth a0_keeps v0) H → va_D A (WS_X12_either cI cJ cZ cY a0 a0_a a0_image a0_texts a0_board a0_taken a0_fars a0_before a0_tape a0_pile a0_rows a0_told a0_values a0_truth a0_keeps v0) → va_S A s.heap H locs → lv_has ls 6 [(0, .ref a0), (1, .int x1), (2, .int x2)] → f_X12_either_b73 J6 x1 x2 t0 v0 = some res → W p l e rm_X12_either s m args below meth c H locs 0 0 Q (F0 m 73 ls [.int t0]) := by
    intro J6 hJ6 x1 x2 t0 v0 H locs ls hP hD hS hl hg
    unfold f_X12_either_b73 at hg
    refine lv_istore (lv' := [(5, .int t0), (0, .ref a0), (1, .int x1), (2, .int x2)]) hx hb dX12_either_73 hl (by decide) rfl (fun ls hl => ?_)
    refine lv_iload_n hx hb dX12_either_75 rfl (lv_at hl 2 rfl) ?_
    refine lv_if_ne (tgt := 93) hx hb dX12_either_76 (by decide) (fun c_5 => ?_) (fun c_5 => ?_)
    · have hg := g_if hg c_5
      exact b_93 J6 hJ6 x1 x2 t0 v0 H locs ls hP hD hS (lv_sub hl [1, 2, 3, 0] rfl) hg
    · have hg := g_it hg c_5
      refine lv_iload_n hx hb dX12_either_79 rfl (lv_at hl 3 rfl) ?_
      refine lv_if_eq (tgt := 90) hx hb dX12_either_80 (by decide) (fun c_6 => ?_) (fun c_6 => ?_)
      · have hg := g_it hg c_6
        exact b_90 J6 hJ6 x1 t0 v0 H locs ls hP hD hS (lv_sub hl [1, 2, 0] rfl) hg
      · have hg := g_if hg c_6
        refine lv_aload_n hx hb dX12_either_83 rfl (lv_at hl 1 rfl) ?_
        refine lv_bipush (v := 22) hx hb dX12_either_84 (by decide) ?_
        refine lv_iconst (v := 0) hx hb dX12_either_86 (by decide) ?_
        obtain ⟨r_7, hr_7, hg⟩ := g_bd hg
        refine cc_v (va_runV (C := RX12) (As := [.int 22, .int 0]) (rest := []) ⟨hx, hb, hml, hown, htb⟩ (k_X12_emit a0 a0_a a0_image a0_texts a0_board a0_taken a0_fars a0_before a0_tape a0_pile a0_rows a0_told a0_values a0_truth a0_keeps v0 22 0 r_7 hr_7) (cw_V 2 htb tg_1272 tg_13 tg_1269 tg_1271 ts_55 rfl rfl (by decide +kernel) ⟨Nat.le_of_ble_eq_true rfl, Nat.le_of_ble_eq_true rfl⟩) ⟨PC.blind, va_recv hK.1 hP (ci := 11) (q0 := 0) rfl rfl, PC.pre hK hT hP hD hS hA [0, 1, 2, 3, 4, 5, 6, 7, 8, 9, 10, 11, 12, 13, 14] rfl (by decide)⟩ rfl rfl hl.1 rfl (lv_room (Nat.le_of_ble_eq_true rfl)) dX12_either_87 ⟨Nat.le_of_ble_eq_true rfl, Nat.le_of_ble_eq_true rfl⟩) hP hD hS hA [0, 1, 2, 3, 4, 5, 6, 7, 8, 9, 10, 11, 12, 13, 14] [] rfl rfl (by decide) (by decide) (fun u9 H locs hw hP hD hS => ?_)
        have hw := hw.symm
        subst hw
        have hP : va_P D vwCl (WS_X12_either cI cJ cZ cY a0 a0_a a0_image a0_texts a0_board a0_taken a0_fars a0_before a0_tape a0_pile a0_rows a0_told a0_values a0_truth a0_keeps r_7) H := hP.sub [0, 1, 2, 3, 4, 5, 6, 7, 8, 9, 10, 11, 12, 13, 14] rfl
        have hD : va_D A (WS_X12_either cI cJ cZ cY a0 a0_a a0_image a0_texts a0_board a0_taken a0_fars a0_before a0_tape a0_pile a0_rows a0_told a0_values a0_truth a0_keeps r_7) := hD.sub [0, 1, 2, 3, 4, 5, 6, 7, 8, 9, 10, 11, 12, 13, 14] (by decide) rfl
        exact b_90 J6 hJ6 x1 t0 r_7 H locs ls hP hD hS (lv_sub hl [1, 2, 0] rfl) hg
  have b_72 : ∀ (J6 : (Int32 × Int32 × Int32 × BX12) → Option (Int32 × BX12)) (hJ6 : ∀ (x1 : Int32) (x2 : Int32) (x3 : Int32) (v0 : BX12) (H : Heap) (locs : List Loc) (ls : Array Slot), va_P D vwCl (WS_X12_either cI cJ cZ cY a0 a0_a a0_image a0_texts a0_board a0_taken a0_fars a0_before a0_tape a0_pile a0_rows a0_told a0_values a0_truth a0_keeps v0) H → va_D A (WS_X12_either cI cJ cZ cY a0 a0_a a0_image a0_texts a0_board a0_taken a0_fars a0_before a0_tape a0_pile a0_rows a0_told a0_values a0_truth a0_keeps v0) → va_S A s.heap H locs → lv_has ls 6 [(0, .ref a0), (1, .int x1), (2, .int x2), (3, .int x3)] → J6 (x1, x2, x3, v0) = some res → W p l e rm_X12_either s m args below meth c H locs 0 0 Q (F0 m 6 ls [])), ∀ (x1 : Int32) (x2 : Int32) (v0 : BX12) (H : Heap) (locs : List Loc) (ls : Array Slot), va_P D vwCl (WS_X12_either cI cJ cZ cY a0 a0_a a0_image a0_texts a0_board a0_taken a0_fars a0_before a0_tape a0_pile a0_rows a0_told a0_values a0_truth a0_keeps v0) H → va_D A (WS_X12_either cI cJ cZ cY a0 a0_a a0_image a0_texts a0_board a0_taken a0_fars a0_before a0_tape a0_pile a0_rows a0_told a0_values a0_truth a0_keeps v0) → va_S A s.heap H locs → lv_has ls 6 [(0, .ref a0), (1, .int x1), (2, .int x2)] → f_X12_either_b72 J6 x1 x2 v0 = some res → W p l e rm_X12_either s m args below meth c H locs 0 0 Q (F0 m 72 ls []) := by
    intro J6 hJ6 x1 x2 v0 H locs ls hP hD hS hl hg
    unfold f_X12_either_b72 at hg
    refine lv_iconst (v := 0) hx hb dX12_either_72 (by decide) ?_
    exact b_73 J6 hJ6 x1 x2 0 v0 H locs ls hP hD hS (lv_sub hl [0, 1, 2] rfl) hg
  have b_35 : ∀ (J6 : (Int32 × Int32 × Int32 × BX12) → Option (Int32 × BX12)) (hJ6 : ∀ (x1 : Int32) (x2 : Int32) (x3 : Int32) (v0 : BX12) (H : Heap) (locs : List Loc) (ls : Array Slot), va_P D vwCl (WS_X12_either cI cJ cZ cY a0 a0_a a0_image a0_texts a0_board a0_taken a0_fars a0_before a0_tape a0_pile a0_rows a0_told a0_values a0_truth a0_keeps v0) H → va_D A (WS_X12_either cI cJ cZ cY a0 a0_a a0_image a0_texts a0_board a0_taken a0_fars a0_before a0_tape a0_pile a0_rows a0_told a0_values a0_truth a0_keeps v0) → va_S A s.heap H locs → lv_has ls 6 [(0, .ref a0), (1, .int x1), (2, .int x2), (3, .int x3)] → J6 (x1, x2, x3, v0) = some res → W p l e rm_X12_either s m args below meth c H locs 0 0 Q (F0 m 6 ls [])), ∀ (x2 : Int32) (v0 : BX12) (H : Heap) (locs : List Loc) (ls : Array Slot), va_P D vwCl (WS_X12_either cI cJ cZ cY a0 a0_a a0_image a0_texts a0_board a0_taken a0_fars a0_before a0_tape a0_pile a0_rows a0_told a0_values a0_truth a0_keeps v0) H → va_D A (WS_X12_either cI cJ cZ cY a0 a0_a a0_image a0_texts a0_board a0_taken a0_fars a0_before a0_tape a0_pile a0_rows a0_told a0_values a0_truth a0_keeps v0) → va_S A s.heap H locs → lv_has ls 6 [(0, .ref a0), (2, .int x2)] → f_X12_either_b35 J6 x2 v0 = some res → W p l e rm_X12_either s m args below meth c H locs 0 0 Q (F0 m 35 ls []) := by
    intro J6 hJ6 x2 v0 H locs ls hP hD hS hl hg
    unfold f_X12_either_b35 at hg
    refine lv_aload_n hx hb dX12_either_35 rfl (lv_at hl 0 rfl) ?_
    refine lv_bipush (v := 97) hx hb dX12_either_36 (by decide) ?_
    refine lv_bipush (v := 110) hx hb dX12_either_38 (by decide) ?_
    refine lv_bipush (v := 100) hx hb dX12_either_40 (by decide) ?_
    obtain ⟨r_8, hr_8, hg⟩ := g_bd hg
    refine cc_l (va_runS (As := [.int 97, .int 110, .int 100]) (rest := [.ref a0]) ⟨hx, hb, hml, hown, htb⟩ (k_X12_w3 97 110 100 r_8 hr_8) (cw_S 3 htb tg_1226 tg_13 tg_1224 tg_1225 rfl rfl (by decide +kernel) ⟨Nat.le_of_ble_eq_true rfl, Nat.le_of_ble_eq_true rfl⟩) ⟨PC.blind, PC.pre hK hT hP hD hS hA [] rfl (by decide)⟩ rfl rfl hl.1 rfl (lv_room (Nat.le_of_ble_eq_true rfl)) dX12_either_42 ⟨Nat.le_of_ble_eq_true rfl, Nat.le_of_ble_eq_true rfl⟩) hP hD hS hA [] [0, 1, 2, 3, 4, 5, 6, 7, 8, 9, 10, 11, 12, 13, 14] rfl rfl (by decide) (by decide) (fun r9 u9 H locs hw hP hD hS => ?_)
    have hw := hw.symm
    subst hw
    have hP : va_P D vwCl (WS_X12_either cI cJ cZ cY a0 a0_a a0_image a0_texts a0_board a0_taken a0_fars a0_before a0_tape a0_pile a0_rows a0_told a0_values a0_truth a0_keeps v0) H := hP.sub [0, 1, 2, 3, 4, 5, 6, 7, 8, 9, 10, 11, 12, 13, 14] rfl
    have hD : va_D A (WS_X12_either cI cJ cZ cY a0 a0_a a0_image a0_texts a0_board a0_taken a0_fars a0_before a0_tape a0_pile a0_rows a0_told a0_values a0_truth a0_keeps v0) := hD.sub [0, 1, 2, 3, 4, 5, 6, 7, 8, 9, 10, 11, 12, 13, 14] (by decide) rfl
    obtain ⟨r_9, hr_9, hg⟩ := g_bd hg
    refine cc_i (va_runV (C := RX12) (As := [.long r_8]) (rest := []) ⟨hx, hb, hml, hown, htb⟩ (k_X12_isWord a0 a0_a a0_image a0_texts a0_board a0_taken a0_fars a0_before a0_tape a0_pile a0_rows a0_told a0_values a0_truth a0_keeps v0 r_8 r_9 hr_9) (cw_V 1 htb tg_1248 tg_13 tg_1245 tg_1247 ts_49 rfl rfl (by decide +kernel) ⟨Nat.le_of_ble_eq_true rfl, Nat.le_of_ble_eq_true rfl⟩) ⟨PC.blind, va_recv hK.1 hP (ci := 11) (q0 := 0) rfl rfl, PC.pre hK hT hP hD hS hA [0, 1, 2, 3, 4, 5, 6, 7, 8, 9, 10, 11, 12, 13, 14] rfl (by decide)⟩ rfl rfl hl.1 rfl (lv_room (Nat.le_of_ble_eq_true rfl)) dX12_either_45 ⟨Nat.le_of_ble_eq_true rfl, Nat.le_of_ble_eq_true rfl⟩) hP hD hS hA [0, 1, 2, 3, 4, 5, 6, 7, 8, 9, 10, 11, 12, 13, 14] [] rfl rfl (by decide) (by decide) (fun r9 u9 H locs hw hP hD hS => ?_)
    have hw := hw.symm
    subst hw
    have hP : va_P D vwCl (WS_X12_either cI cJ cZ cY a0 a0_a a0_image a0_texts a0_board a0_taken a0_fars a0_before a0_tape a0_pile a0_rows a0_told a0_values a0_truth a0_keeps v0) H := hP.sub [0, 1, 2, 3, 4, 5, 6, 7, 8, 9, 10, 11, 12, 13, 14] rfl
    have hD : va_D A (WS_X12_either cI cJ cZ cY a0 a0_a a0_image a0_texts a0_board a0_taken a0_fars a0_before a0_tape a0_pile a0_rows a0_told a0_values a0_truth a0_keeps v0) := hD.sub [0, 1, 2, 3, 4, 5, 6, 7, 8, 9, 10, 11, 12, 13, 14] (by decide) rfl
    refine lv_istore_n (lv' := [(1, .int r_9), (0, .ref a0), (2, .int x2)]) hx hb dX12_either_48 rfl hl (by decide) rfl (fun ls hl => ?_)
    refine lv_aload_n hx hb dX12_either_49 rfl (lv_at hl 1 rfl) ?_
    refine va_get (ci := 11) (v := .int (pX12_token v0)) (C := RX12) (T := TX12) (N := 43) hx hb htb uX12 hown hK.1 hP 0 rfl rfl 15 (by decide) (htb _ tg_951) (fun _ h9 => h9) rfl dX12_either_50 ?_
    refine lv_iconst (v := 2) hx hb dX12_either_53 (by decide) ?_
    refine lv_icmp_ne (tgt := 72) hx hb dX12_either_54 (by decide) (fun c_10 => ?_) (fun c_10 => ?_)
    · have hg := g_if hg c_10
      exact b_72 J6 hJ6 r_9 x2 v0 H locs ls hP hD hS (lv_sub hl [1, 0, 2] rfl) hg
    · have hg := g_it hg c_10
      refine lv_aload_n hx hb dX12_either_57 rfl (lv_at hl 1 rfl) ?_
      refine va_get (ci := 11) (v := .long (pX12_word v0)) (C := RX12) (T := TX12) (N := 43) hx hb htb uX12 hown hK.1 hP 0 rfl rfl 17 (by decide) (htb _ tg_953) (fun _ h9 => h9) rfl dX12_either_58 ?_
      refine lv_ldc2 (v := 28530) hx hb hown (htb _ tg_1293) dX12_either_61 ?_
      refine W.lcmp hx hb dX12_either_64 ?_
      refine lv_if_ne (tgt := 72) hx hb dX12_either_65 (by decide) (fun c_11 => ?_) (fun c_11 => ?_)
      · have hg := g_if hg c_11
        exact b_72 J6 hJ6 r_9 x2 v0 H locs ls hP hD hS (lv_sub hl [1, 0, 2] rfl) hg
      · have hg := g_it hg c_11
        refine lv_iconst (v := 1) hx hb dX12_either_68 (by decide) ?_
        refine lv_goto (tgt := 73) hx hb dX12_either_69 (by decide) ?_
        exact b_73 J6 hJ6 r_9 x2 1 v0 H locs ls hP hD hS (lv_sub hl [1, 0, 2] rfl) hg
  have b_6 : ∀ (n : Nat), ∀ (x1 : Int32) (x2 : Int32) (x3 : Int32) (v0 : BX12) (H : Heap) (locs : List Loc) (ls : Array Slot), va_P D vwCl (WS_X12_either cI cJ cZ cY a0 a0_a a0_image a0_texts a0_board a0_taken a0_fars a0_before a0_tape a0_pile a0_rows a0_told a0_values a0_truth a0_keeps v0) H → va_D A (WS_X12_either cI cJ cZ cY a0 a0_a a0_image a0_texts a0_board a0_taken a0_fars a0_before a0_tape a0_pile a0_rows a0_told a0_values a0_truth a0_keeps v0) → va_S A s.heap H locs → lv_has ls 6 [(0, .ref a0), (1, .int x1), (2, .int x2), (3, .int x3)] → f_X12_either_b6 n (x1, x2, x3, v0) = some res → W p l e rm_X12_either s m args below meth c H locs 0 0 Q (F0 m 6 ls []) := by
    intro n
    induction n with
    | zero =>
      intro x1 x2 x3 v0 H locs ls hP hD hS hl hg
      exact (g_lp0 hg).elim
    | succ n ih =>
      intro x1 x2 x3 v0 H locs ls hP hD hS hl hg
      have hg : f_X12_either_b6B (f_X12_either_b6 n) x1 x2 x3 v0 = some res := hg
      unfold f_X12_either_b6B at hg
      refine lv_iload_n hx hb dX12_either_6 rfl (lv_at hl 3 rfl) ?_
      refine lv_if_eq (tgt := 119) hx hb dX12_either_7 (by decide) (fun c_12 => ?_) (fun c_12 => ?_)
      · have hg := g_it hg c_12
        refine lv_iconst (v := 0) hx hb dX12_either_119 (by decide) ?_
        have hg := Option.some.inj hg
        rw [hQ]
        exact W.iret (v := 0) hx hb hr (fun t ht hW => ⟨⟨0, (v0), rfl, ⟨by rw [← hg], by rw [← hg]⟩, by rw [ht]; exact hP, hD⟩, hS.F ht⟩) hS.2.2 dX12_either_120
      · have hg := g_if hg c_12
        refine lv_aload_n hx hb dX12_either_10 rfl (lv_at hl 0 rfl) ?_
        obtain ⟨r_13, hr_13, hg⟩ := g_bd hg
        refine cc_i (va_runV (C := RX12) (As := []) (rest := []) ⟨hx, hb, hml, hown, htb⟩ (k_X12_ask a0 a0_a a0_image a0_texts a0_board a0_taken a0_fars a0_before a0_tape a0_pile a0_rows a0_told a0_values a0_truth a0_keeps v0 r_13 hr_13) (cw_V 0 htb tg_1244 tg_13 tg_1241 tg_1243 ts_48 rfl rfl (by decide +kernel) ⟨Nat.le_of_ble_eq_true rfl, Nat.le_of_ble_eq_true rfl⟩) ⟨PC.blind, va_recv hK.1 hP (ci := 11) (q0 := 0) rfl rfl, PC.pre hK hT hP hD hS hA [0, 1, 2, 3, 4, 5, 6, 7, 8, 9, 10, 11, 12, 13, 14] rfl (by decide)⟩ rfl rfl hl.1 rfl (lv_room (Nat.le_of_ble_eq_true rfl)) dX12_either_11 ⟨Nat.le_of_ble_eq_true rfl, Nat.le_of_ble_eq_true rfl⟩) hP hD hS hA [0, 1, 2, 3, 4, 5, 6, 7, 8, 9, 10, 11, 12, 13, 14] [] rfl rfl (by decide) (by decide) (fun r9 u9 H locs hw hP hD hS => ?_)
        obtain ⟨rfl, rfl⟩ := hw
        have hP : va_P D vwCl (WS_X12_either cI cJ cZ cY a0 a0_a a0_image a0_texts a0_board a0_taken a0_fars a0_before a0_tape a0_pile a0_rows a0_told a0_values a0_truth a0_keeps r_13.2) H := hP.sub [0, 1, 2, 3, 4, 5, 6, 7, 8, 9, 10, 11, 12, 13, 14] rfl
        have hD : va_D A (WS_X12_either cI cJ cZ cY a0 a0_a a0_image a0_texts a0_board a0_taken a0_fars a0_before a0_tape a0_pile a0_rows a0_told a0_values a0_truth a0_keeps r_13.2) := hD.sub [0, 1, 2, 3, 4, 5, 6, 7, 8, 9, 10, 11, 12, 13, 14] (by decide) rfl
        refine lv_istore (lv' := [(4, .int r_13.1), (0, .ref a0), (1, .int x1), (2, .int x2), (3, .int x3)]) hx hb dX12_either_14 hl (by decide) rfl (fun ls hl => ?_)
        refine lv_iload hx hb dX12_either_16 (lv_at hl 0 rfl) ?_
        refine lv_if_eq (tgt := 24) hx hb dX12_either_18 (by decide) (fun c_14 => ?_) (fun c_14 => ?_)
        · have hg := g_it hg c_14
          refine lv_iload_n hx hb dX12_either_24 rfl (lv_at hl 2 rfl) ?_
          refine lv_if_eq (tgt := 35) hx hb dX12_either_25 (by decide) (fun c_15 => ?_) (fun c_15 => ?_)
          · have hg := g_it hg c_15
            exact b_35 (f_X12_either_b6 n) ih x2 r_13.2 H locs ls hP hD hS (lv_sub hl [1, 3] rfl) hg
          · have hg := g_if hg c_15
            refine lv_aload_n hx hb dX12_either_28 rfl (lv_at hl 1 rfl) ?_
            refine lv_bipush (v := 21) hx hb dX12_either_29 (by decide) ?_
            refine lv_iconst (v := 0) hx hb dX12_either_31 (by decide) ?_
            obtain ⟨r_16, hr_16, hg⟩ := g_bd hg
            refine cc_v (va_runV (C := RX12) (As := [.int 21, .int 0]) (rest := []) ⟨hx, hb, hml, hown, htb⟩ (k_X12_emit a0 a0_a a0_image a0_texts a0_board a0_taken a0_fars a0_before a0_tape a0_pile a0_rows a0_told a0_values a0_truth a0_keeps r_13.2 21 0 r_16 hr_16) (cw_V 2 htb tg_1272 tg_13 tg_1269 tg_1271 ts_55 rfl rfl (by decide +kernel) ⟨Nat.le_of_ble_eq_true rfl, Nat.le_of_ble_eq_true rfl⟩) ⟨PC.blind, va_recv hK.1 hP (ci := 11) (q0 := 0) rfl rfl, PC.pre hK hT hP hD hS hA [0, 1, 2, 3, 4, 5, 6, 7, 8, 9, 10, 11, 12, 13, 14] rfl (by decide)⟩ rfl rfl hl.1 rfl (lv_room (Nat.le_of_ble_eq_true rfl)) dX12_either_32 ⟨Nat.le_of_ble_eq_true rfl, Nat.le_of_ble_eq_true rfl⟩) hP hD hS hA [0, 1, 2, 3, 4, 5, 6, 7, 8, 9, 10, 11, 12, 13, 14] [] rfl rfl (by decide) (by decide) (fun u9 H locs hw hP hD hS => ?_)
            have hw := hw.symm
            subst hw
            have hP : va_P D vwCl (WS_X12_either cI cJ cZ cY a0 a0_a a0_image a0_texts a0_board a0_taken a0_fars a0_before a0_tape a0_pile a0_rows a0_told a0_values a0_truth a0_keeps r_16) H := hP.sub [0, 1, 2, 3, 4, 5, 6, 7, 8, 9, 10, 11, 12, 13, 14] rfl
            have hD : va_D A (WS_X12_either cI cJ cZ cY a0 a0_a a0_image a0_texts a0_board a0_taken a0_fars a0_before a0_tape a0_pile a0_rows a0_told a0_values a0_truth a0_keeps r_16) := hD.sub [0, 1, 2, 3, 4, 5, 6, 7, 8, 9, 10, 11, 12, 13, 14] (by decide) rfl
            exact b_35 (f_X12_either_b6 n) ih x2 r_16 H locs ls hP hD hS (lv_sub hl [1, 3] rfl) hg
        · have hg := g_if hg c_14
          refine lv_iload hx hb dX12_either_21 (lv_at hl 0 rfl) ?_
          have hg := Option.some.inj hg
          rw [hQ]
          exact W.iret (v := r_13.1) hx hb hr (fun t ht hW => ⟨⟨r_13.1, (r_13.2), rfl, ⟨by rw [← hg], by rw [← hg]⟩, by rw [ht]; exact hP, hD⟩, hS.F ht⟩) hS.2.2 dX12_either_23
  generalize hHe : s.heap = H at hP ⊢
  have hS : va_S A s.heap H [] := by rw [← hHe]; exact va_S.rf
  generalize ([] : List Loc) = locs at hS ⊢
  unfold f_X12_either at hg
  refine lv_iconst (v := 0) hx hb dX12_either_0 (by decide) ?_
  refine lv_istore_n (lv' := [(1, .int 0), (0, .ref a0)]) hx hb dX12_either_1 rfl hl (by decide) rfl (fun ls hl => ?_)
  refine lv_iconst (v := 0) hx hb dX12_either_2 (by decide) ?_
  refine lv_istore_n (lv' := [(2, .int 0), (1, .int 0), (0, .ref a0)]) hx hb dX12_either_3 rfl hl (by decide) rfl (fun ls hl => ?_)
  refine lv_iconst (v := 1) hx hb dX12_either_4 (by decide) ?_
  refine lv_istore_n (lv' := [(3, .int 1), (2, .int 0), (1, .int 0), (0, .ref a0)]) hx hb dX12_either_5 rfl hl (by decide) rfl (fun ls hl => ?_)
  exact b_6 fU 0 0 1 v0 H locs ls hP hD hS (lv_sub hl [3, 2, 1, 0] rfl) hg

/-! ManyEyesModel.sortOf()I -/
def WS_X12_sortOf (cI cJ cZ cY : ClassId) (a0 a0_a a0_image a0_texts a0_board a0_taken a0_fars a0_before a0_tape a0_pile a0_rows a0_told a0_values a0_truth a0_keeps : Nat) (v0 : BX12) : va_W := (GX12 cI cJ cZ cY a0 a0_a a0_image a0_texts a0_board a0_taken a0_fars a0_before a0_tape a0_pile a0_rows a0_told a0_values a0_truth a0_keeps v0)
def f_X12_sortOf (v0 : BX12) : Option (Int32) := if ((pX12_token v0) : Int32) = 2 then ((f_X12_w3 108 101 116).bind (fun r_2 => if ((lg_cmp (pX12_word v0) r_2) : Int32) = 0 then (some 1) else ((f_X12_w4 116 117 114 110).bind (fun r_4 => if ((lg_cmp (pX12_word v0) r_4) : Int32) = 0 then (some 2) else (if ((lg_cmp (pX12_word v0) 26479) : Int32) = 0 then (some 3) else ((f_X12_w4 114 101 115 116).bind (fun r_7 => if ((lg_cmp (pX12_word v0) r_7) : Int32) = 0 then (some 4) else (some 0)))))))) else (some 0)
abbrev rm_X12_sortOf : Room := { frames := 2, cells := 0, slots := 0, locals := 45 }
set_option maxHeartbeats 4000000 in
set_option maxRecDepth 100000 in
theorem k_X12_sortOf {l : Launch} {D : va_G} {cI cJ cZ cY : ClassId} {tX tY : Nat} {sz : Nat} (a0 a0_a a0_image a0_texts a0_board a0_taken a0_fars a0_before a0_tape a0_pile a0_rows a0_told a0_values a0_truth a0_keeps : Nat) (v0 : BX12) (res : Int32) (hg : f_X12_sortOf v0 = some res) : Met l yX12_sortOf (Cond.code yX12_sortOf cX12_sortOf 1 (some .int) :: TB) rm_X12_sortOf (PC D cI cJ cZ cY tX tY [.ref a0] (WS_X12_sortOf cI cJ cZ cY a0 a0_a a0_image a0_texts a0_board a0_taken a0_fars a0_before a0_tape a0_pile a0_rows a0_told a0_values a0_truth a0_keeps v0) sz) (va_Qi (fun (r : Int32) (_ : Unit) => r = res) (BC D (fun _ : Unit => WS_X12_sortOf cI cJ cZ cY a0 a0_a a0_image a0_texts a0_board a0_taken a0_fars a0_before a0_tape a0_pile a0_rows a0_told a0_values a0_truth a0_keeps v0) (va_A (WS_X12_sortOf cI cJ cZ cY a0 a0_a a0_image a0_texts a0_board a0_taken a0_fars a0_before a0_tape a0_pile a0_rows a0_told a0_values a0_truth a0_keeps v0) sz)) (va_A (WS_X12_sortOf cI cJ cZ cY a0 a0_a a0_image a0_texts a0_board a0_taken a0_fars a0_before a0_tape a0_pile a0_rows a0_told a0_values a0_truth a0_keeps v0) sz)) 0 0 (va_A (WS_X12_sortOf cI cJ cZ cY a0 a0_a a0_image a0_texts a0_board a0_taken a0_fars a0_before a0_tape a0_pile a0_rows a0_told a0_values a0_truth a0_keeps v0) sz) := by
  refine Met.ofW (cc := cX12_sortOf) (maxL := 1) (ret := (some .int)) (by decide) rfl ?_
  intro p e s m args below meth c s₁ B hml hv
  obtain ⟨hargs, hsz, hP, hK, hD0, hT⟩ := hv
  have hx := B.exec
  have hb := B.bytes
  have hr := B.returns
  have htb : ∀ w ∈ TB, w.before args s = true := fun w h => atoms_spec (ws := Cond.code yX12_sortOf cX12_sortOf 1 (some .int) :: TB) B.pre w (List.mem_cons_of_mem _ h)
  have hown : s.vm.findClass "ManyEyesModel" = some m.cls := findClass_of_methodNamed B.named
  have hlocks := B.notSynchronized
  subst hsz
  have hD := hD0.self (sz := s.heap.size)
  generalize hAe : va_A (WS_X12_sortOf cI cJ cZ cY a0 a0_a a0_image a0_texts a0_board a0_taken a0_fars a0_before a0_tape a0_pile a0_rows a0_told a0_values a0_truth a0_keeps v0) s.heap.size = A at hD hT ⊢
  have hA : ∀ q : Nat, s.heap.size ≤ q → A q := fun q h => by rw [← hAe]; exact Or.inr h
  have hS : va_S A s.heap s.heap [] := va_S.rf
  have hl := lv_entry ([.ref a0]) (n := 1) (Nat.le_of_ble_eq_true rfl)
  have he : entryFrame m args 1 = F0 m 0 (lg_sl ([.ref a0]) ++ List.replicate (1 - (lg_sl ([.ref a0])).length) Slot.unset).toArray [] := by rw [hargs, lg_entry_eq]
  rw [he]
  generalize (lg_sl ([.ref a0]) ++ List.replicate (1 - (lg_sl ([.ref a0])).length) Slot.unset).toArray = ls at hl ⊢
  have hl : lv_has ls 1 [(0, .ref a0)] := hl
  show W p l e rm_X12_sortOf s m args below meth c s.heap [] 0 0 _ _
  refine W.genQ (fun Q hQ => ?_)
  generalize hHe : s.heap = H at hP ⊢
  have hS : va_S A s.heap H [] := by rw [← hHe]; exact va_S.rf
  generalize ([] : List Loc) = locs at hS ⊢
  unfold f_X12_sortOf at hg
  refine lv_aload_n hx hb dX12_sortOf_0 rfl (lv_at hl 0 rfl) ?_
  refine va_get (ci := 11) (v := .int (pX12_token v0)) (C := RX12) (T := TX12) (N := 43) hx hb htb uX12 hown hK.1 hP 0 rfl rfl 15 (by decide) (htb _ tg_951) (fun _ h9 => h9) rfl dX12_sortOf_1 ?_
  refine lv_iconst (v := 2) hx hb dX12_sortOf_4 (by decide) ?_
  refine lv_icmp_eq (tgt := 10) hx hb dX12_sortOf_5 (by decide) (fun c_1 => ?_) (fun c_1 => ?_)
  · have hg := g_it hg c_1
    refine lv_aload_n hx hb dX12_sortOf_10 rfl (lv_at hl 0 rfl) ?_
    refine va_get (ci := 11) (v := .long (pX12_word v0)) (C := RX12) (T := TX12) (N := 43) hx hb htb uX12 hown hK.1 hP 0 rfl rfl 17 (by decide) (htb _ tg_953) (fun _ h9 => h9) rfl dX12_sortOf_11 ?_
    refine lv_bipush (v := 108) hx hb dX12_sortOf_14 (by decide) ?_
    refine lv_bipush (v := 101) hx hb dX12_sortOf_16 (by decide) ?_
    refine lv_bipush (v := 116) hx hb dX12_sortOf_18 (by decide) ?_
    obtain ⟨r_2, hr_2, hg⟩ := g_bd hg
    refine cc_l (va_runS (As := [.int 108, .int 101, .int 116]) (rest := [.long (pX12_word v0)]) ⟨hx, hb, hml, hown, htb⟩ (k_X12_w3 108 101 116 r_2 hr_2) (cw_S 3 htb tg_1226 tg_13 tg_1224 tg_1225 rfl rfl (by decide +kernel) ⟨Nat.le_of_ble_eq_true rfl, Nat.le_of_ble_eq_true rfl⟩) ⟨PC.blind, PC.pre hK hT hP hD hS hA [] rfl (by decide)⟩ rfl rfl hl.1 rfl (lv_room (Nat.le_of_ble_eq_true rfl)) dX12_sortOf_20 ⟨Nat.le_of_ble_eq_true rfl, Nat.le_of_ble_eq_true rfl⟩) hP hD hS hA [] [0, 1, 2, 3, 4, 5, 6, 7, 8, 9, 10, 11, 12, 13, 14] rfl rfl (by decide) (by decide) (fun r9 u9 H locs hw hP hD hS => ?_)
    have hw := hw.symm
    subst hw
    have hP : va_P D vwCl (WS_X12_sortOf cI cJ cZ cY a0 a0_a a0_image a0_texts a0_board a0_taken a0_fars a0_before a0_tape a0_pile a0_rows a0_told a0_values a0_truth a0_keeps v0) H := hP.sub [0, 1, 2, 3, 4, 5, 6, 7, 8, 9, 10, 11, 12, 13, 14] rfl
    have hD : va_D A (WS_X12_sortOf cI cJ cZ cY a0 a0_a a0_image a0_texts a0_board a0_taken a0_fars a0_before a0_tape a0_pile a0_rows a0_told a0_values a0_truth a0_keeps v0) := hD.sub [0, 1, 2, 3, 4, 5, 6, 7, 8, 9, 10, 11, 12, 13, 14] (by decide) rfl
    refine W.lcmp hx hb dX12_sortOf_23 ?_
    refine lv_if_ne (tgt := 29) hx hb dX12_sortOf_24 (by decide) (fun c_3 => ?_) (fun c_3 => ?_)
    · have hg := g_if hg c_3
      refine lv_aload_n hx hb dX12_sortOf_29 rfl (lv_at hl 0 rfl) ?_
      refine va_get (ci := 11) (v := .long (pX12_word v0)) (C := RX12) (T := TX12) (N := 43) hx hb htb uX12 hown hK.1 hP 0 rfl rfl 17 (by decide) (htb _ tg_953) (fun _ h9 => h9) rfl dX12_sortOf_30 ?_
      refine lv_bipush (v := 116) hx hb dX12_sortOf_33 (by decide) ?_
      refine lv_bipush (v := 117) hx hb dX12_sortOf_35 (by decide) ?_
      refine lv_bipush (v := 114) hx hb dX12_sortOf_37 (by decide) ?_
      refine lv_bipush (v := 110) hx hb dX12_sortOf_39 (by decide) ?_
      obtain ⟨r_4, hr_4, hg⟩ := g_bd hg
      refine cc_l (va_runS (As := [.int 116, .int 117, .int 114, .int 110]) (rest := [.long (pX12_word v0)]) ⟨hx, hb, hml, hown, htb⟩ (k_X12_w4 116 117 114 110 r_4 hr_4) (cw_S 4 htb tg_1229 tg_13 tg_1227 tg_1228 rfl rfl (by decide +kernel) ⟨Nat.le_of_ble_eq_true rfl, Nat.le_of_ble_eq_true rfl⟩) ⟨PC.blind, PC.pre hK hT hP hD hS hA [] rfl (by decide)⟩ rfl rfl hl.1 rfl (lv_room (Nat.le_of_ble_eq_true rfl)) dX12_sortOf_41 ⟨Nat.le_of_ble_eq_true rfl, Nat.le_of_ble_eq_true rfl⟩) hP hD hS hA [] [0, 1, 2, 3, 4, 5, 6, 7, 8, 9, 10, 11, 12, 13, 14] rfl rfl (by decide) (by decide) (fun r9 u9 H locs hw hP hD hS => ?_)
      have hw := hw.symm
      subst hw
      have hP : va_P D vwCl (WS_X12_sortOf cI cJ cZ cY a0 a0_a a0_image a0_texts a0_board a0_taken a0_fars a0_before a0_tape a0_pile a0_rows a0_told a0_values a0_truth a0_keeps v0) H := hP.sub [0, 1, 2, 3, 4, 5, 6, 7, 8, 9, 10, 11, 12, 13, 14] rfl
      have hD : va_D A (WS_X12_sortOf cI cJ cZ cY a0 a0_a a0_image a0_texts a0_board a0_taken a0_fars a0_before a0_tape a0_pile a0_rows a0_told a0_values a0_truth a0_keeps v0) := hD.sub [0, 1, 2, 3, 4, 5, 6, 7, 8, 9, 10, 11, 12, 13, 14] (by decide) rfl
      refine W.lcmp hx hb dX12_sortOf_44 ?_
      refine lv_if_ne (tgt := 50) hx hb dX12_sortOf_45 (by decide) (fun c_5 => ?_) (fun c_5 => ?_)
      · have hg := g_if hg c_5
        refine lv_aload_n hx hb dX12_sortOf_50 rfl (lv_at hl 0 rfl) ?_
        refine va_get (ci := 11) (v := .long (pX12_word v0)) (C := RX12) (T := TX12) (N := 43) hx hb htb uX12 hown hK.1 hP 0 rfl rfl 17 (by decide) (htb _ tg_953) (fun _ h9 => h9) rfl dX12_sortOf_51 ?_
        refine lv_ldc2 (v := 26479) hx hb hown (htb _ tg_1230) dX12_sortOf_54 ?_
        refine W.lcmp hx hb dX12_sortOf_57 ?_
        refine lv_if_ne (tgt := 65) hx hb dX12_sortOf_58 (by decide) (fun c_6 => ?_) (fun c_6 => ?_)
        · have hg := g_if hg c_6
          refine lv_aload_n hx hb dX12_sortOf_65 rfl (lv_at hl 0 rfl) ?_
          refine va_get (ci := 11) (v := .long (pX12_word v0)) (C := RX12) (T := TX12) (N := 43) hx hb htb uX12 hown hK.1 hP 0 rfl rfl 17 (by decide) (htb _ tg_953) (fun _ h9 => h9) rfl dX12_sortOf_66 ?_
          refine lv_bipush (v := 114) hx hb dX12_sortOf_69 (by decide) ?_
          refine lv_bipush (v := 101) hx hb dX12_sortOf_71 (by decide) ?_
          refine lv_bipush (v := 115) hx hb dX12_sortOf_73 (by decide) ?_
          refine lv_bipush (v := 116) hx hb dX12_sortOf_75 (by decide) ?_
          obtain ⟨r_7, hr_7, hg⟩ := g_bd hg
          refine cc_l (va_runS (As := [.int 114, .int 101, .int 115, .int 116]) (rest := [.long (pX12_word v0)]) ⟨hx, hb, hml, hown, htb⟩ (k_X12_w4 114 101 115 116 r_7 hr_7) (cw_S 4 htb tg_1229 tg_13 tg_1227 tg_1228 rfl rfl (by decide +kernel) ⟨Nat.le_of_ble_eq_true rfl, Nat.le_of_ble_eq_true rfl⟩) ⟨PC.blind, PC.pre hK hT hP hD hS hA [] rfl (by decide)⟩ rfl rfl hl.1 rfl (lv_room (Nat.le_of_ble_eq_true rfl)) dX12_sortOf_77 ⟨Nat.le_of_ble_eq_true rfl, Nat.le_of_ble_eq_true rfl⟩) hP hD hS hA [] [0, 1, 2, 3, 4, 5, 6, 7, 8, 9, 10, 11, 12, 13, 14] rfl rfl (by decide) (by decide) (fun r9 u9 H locs hw hP hD hS => ?_)
          have hw := hw.symm
          subst hw
          have hP : va_P D vwCl (WS_X12_sortOf cI cJ cZ cY a0 a0_a a0_image a0_texts a0_board a0_taken a0_fars a0_before a0_tape a0_pile a0_rows a0_told a0_values a0_truth a0_keeps v0) H := hP.sub [0, 1, 2, 3, 4, 5, 6, 7, 8, 9, 10, 11, 12, 13, 14] rfl
          have hD : va_D A (WS_X12_sortOf cI cJ cZ cY a0 a0_a a0_image a0_texts a0_board a0_taken a0_fars a0_before a0_tape a0_pile a0_rows a0_told a0_values a0_truth a0_keeps v0) := hD.sub [0, 1, 2, 3, 4, 5, 6, 7, 8, 9, 10, 11, 12, 13, 14] (by decide) rfl
          refine W.lcmp hx hb dX12_sortOf_80 ?_
          refine lv_if_ne (tgt := 88) hx hb dX12_sortOf_81 (by decide) (fun c_8 => ?_) (fun c_8 => ?_)
          · have hg := g_if hg c_8
            refine lv_iconst (v := 0) hx hb dX12_sortOf_88 (by decide) ?_
            have hg := Option.some.inj hg
            rw [hQ]
            exact W.iret (v := 0) hx hb hr (fun t ht hW => ⟨⟨0, (), rfl, hg, by rw [ht]; exact hP, hD⟩, hS.F ht⟩) hS.2.2 dX12_sortOf_89
          · have hg := g_it hg c_8
            refine lv_iconst (v := 4) hx hb dX12_sortOf_84 (by decide) ?_
            refine lv_goto (tgt := 89) hx hb dX12_sortOf_85 (by decide) ?_
            have hg := Option.some.inj hg
            rw [hQ]
            exact W.iret (v := 4) hx hb hr (fun t ht hW => ⟨⟨4, (), rfl, hg, by rw [ht]; exact hP, hD⟩, hS.F ht⟩) hS.2.2 dX12_sortOf_89
        · have hg := g_it hg c_6
          refine lv_iconst (v := 3) hx hb dX12_sortOf_61 (by decide) ?_
          refine lv_goto (tgt := 89) hx hb dX12_sortOf_62 (by decide) ?_
          have hg := Option.some.inj hg
          rw [hQ]
          exact W.iret (v := 3) hx hb hr (fun t ht hW => ⟨⟨3, (), rfl, hg, by rw [ht]; exact hP, hD⟩, hS.F ht⟩) hS.2.2 dX12_sortOf_89
      · have hg := g_it hg c_5
        refine lv_iconst (v := 2) hx hb dX12_sortOf_48 (by decide) ?_
        have hg := Option.some.inj hg
        rw [hQ]
        exact W.iret (v := 2) hx hb hr (fun t ht hW => ⟨⟨2, (), rfl, hg, by rw [ht]; exact hP, hD⟩, hS.F ht⟩) hS.2.2 dX12_sortOf_49
    · have hg := g_it hg c_3
      refine lv_iconst (v := 1) hx hb dX12_sortOf_27 (by decide) ?_
      have hg := Option.some.inj hg
      rw [hQ]
      exact W.iret (v := 1) hx hb hr (fun t ht hW => ⟨⟨1, (), rfl, hg, by rw [ht]; exact hP, hD⟩, hS.F ht⟩) hS.2.2 dX12_sortOf_28
  · have hg := g_if hg c_1
    refine lv_iconst (v := 0) hx hb dX12_sortOf_8 (by decide) ?_
    have hg := Option.some.inj hg
    rw [hQ]
    exact W.iret (v := 0) hx hb hr (fun t ht hW => ⟨⟨0, (), rfl, hg, by rw [ht]; exact hP, hD⟩, hS.F ht⟩) hS.2.2 dX12_sortOf_9

/-! ManyEyesModel.clause()I -/
def WS_X12_clause (cI cJ cZ cY : ClassId) (a0 a0_a a0_image a0_texts a0_board a0_taken a0_fars a0_before a0_tape a0_pile a0_rows a0_told a0_values a0_truth a0_keeps : Nat) (v0 : BX12) : va_W := (GX12 cI cJ cZ cY a0 a0_a a0_image a0_texts a0_board a0_taken a0_fars a0_before a0_tape a0_pile a0_rows a0_told a0_values a0_truth a0_keeps v0)
def f_X12_clause_b161 (x2 : Int32) (x3 : Int32) (t0 : Int32) (v0 : BX12) : Option (Int32 × BX12) := if (t0 : Int32) = 0 then (g_lt ((pX12_written v0) : Int32) (fun x_2 => g_gd (inB (x2 + 3) 6400) (g_lt (sX12_texts v0 (upd (pX12_texts v0) ((x2 + 3) : Int32).toNatClampNeg x_2)) (fun v0_4 => if ((pX12_token v0_4) : Int32) = 59 then (g_lt (((pX12_letters v0_4) ||| x3) : Int32) (fun x_6 => g_lt (sX12_letters v0_4 x_6) (fun v0_7 => g_lt (((pX12_clauses v0_7) + 1) : Int32) (fun x_8 => g_lt (sX12_clauses v0_7 x_8) (fun v0_9 => (f_X12_nextToken v0_9).bind (fun r_10 => some (0, r_10))))))) else (some (1, v0_4)))))) else (some (t0, v0))
def f_X12_clause_b145 (x1 : Int32) (x2 : Int32) (x3 : Int32) (v0 : BX12) : Option (Int32 × BX12) := if (x1 : Int32) = 4 then ((f_X12_either v0).bind (fun r_13 => f_X12_clause_b161 x2 x3 r_13.1 r_13.2)) else ((f_X12_summed v0).bind (fun r_12 => f_X12_clause_b161 x2 x3 r_12.1 r_12.2))
def f_X12_clause_b30 (x1 : Int32) (v0 : BX12) : Option (Int32 × BX12) := if ((pX12_clauses v0) : Int32) = 10 then (some (6, v0)) else (g_lt (((pX12_came v0) ||| ((1 : Int32) <<< (x1 &&& 31))) : Int32) (fun x_15 => g_lt (sX12_came v0 x_15) (fun v0_16 => g_lt ((((pX12_text0 v0_16) + 1) + ((4 : Int32) * (pX12_clauses v0_16))) : Int32) (fun x2_17 => g_gd (inB x2_17 6400) (g_lt (sX12_texts v0_16 (upd (pX12_texts v0_16) (x2_17 : Int32).toNatClampNeg x1)) (fun v0_19 => g_lt ((pX12_written v0_19) : Int32) (fun x_20 => g_gd (inB (x2_17 + 2) 6400) (g_lt (sX12_texts v0_19 (upd (pX12_texts v0_19) ((x2_17 + 2) : Int32).toNatClampNeg x_20)) (fun v0_22 => (f_X12_nextToken v0_22).bind (fun r_23 => if (x1 : Int32) = 1 then ((f_X12_letterOf r_23).bind (fun r_25 => if (0 : Int32) ≤ r_25 then (if ((((pX12_letters r_23) >>> (r_25 &&& 31)) &&& 1) : Int32) = 1 then (some (4, r_23)) else (g_gd (inB (x2_17 + 1) 6400) (g_lt (sX12_texts r_23 (upd (pX12_texts r_23) ((x2_17 + 1) : Int32).toNatClampNeg r_25)) (fun v0_29 => g_lt (((1 : Int32) <<< (r_25 &&& 31)) : Int32) (fun x3_30 => (f_X12_nextToken v0_29).bind (fun r_31 => f_X12_clause_b145 x1 x2_17 x3_30 r_31)))))) else (some (1, r_23)))) else (f_X12_clause_b145 x1 x2_17 0 r_23)))))))))))
def f_X12_clause (v0 : BX12) : Option (Int32 × BX12) := (f_X12_sortOf v0).bind (fun r_32 => if (r_32 : Int32) = 0 then (some (1, v0)) else (if (r_32 : Int32) = 1 then (f_X12_clause_b30 r_32 v0) else (if ((((pX12_came v0) >>> (r_32 &&& 31)) &&& 1) : Int32) = 1 then (some (4, v0)) else (f_X12_clause_b30 r_32 v0))))
abbrev rm_X12_clause : Room := { frames := 8, cells := 0, slots := 0, locals := 176 }
set_option maxHeartbeats 4000000 in
set_option maxRecDepth 100000 in
theorem k_X12_clause {l : Launch} {D : va_G} {cI cJ cZ cY : ClassId} {tX tY : Nat} {sz : Nat} (a0 a0_a a0_image a0_texts a0_board a0_taken a0_fars a0_before a0_tape a0_pile a0_rows a0_told a0_values a0_truth a0_keeps : Nat) (v0 : BX12) (res : Int32 × BX12) (hg : f_X12_clause v0 = some res) : Met l yX12_clause (Cond.code yX12_clause cX12_clause 5 (some .int) :: TB) rm_X12_clause (PC D cI cJ cZ cY tX tY [.ref a0] (WS_X12_clause cI cJ cZ cY a0 a0_a a0_image a0_texts a0_board a0_taken a0_fars a0_before a0_tape a0_pile a0_rows a0_told a0_values a0_truth a0_keeps v0) sz) (va_Qi (fun (r : Int32) (u : BX12) => r = res.1 ∧ u = res.2) (BC D (fun u : BX12 => WS_X12_clause cI cJ cZ cY a0 a0_a a0_image a0_texts a0_board a0_taken a0_fars a0_before a0_tape a0_pile a0_rows a0_told a0_values a0_truth a0_keeps u) (va_A (WS_X12_clause cI cJ cZ cY a0 a0_a a0_image a0_texts a0_board a0_taken a0_fars a0_before a0_tape a0_pile a0_rows a0_told a0_values a0_truth a0_keeps v0) sz)) (va_A (WS_X12_clause cI cJ cZ cY a0 a0_a a0_image a0_texts a0_board a0_taken a0_fars a0_before a0_tape a0_pile a0_rows a0_told a0_values a0_truth a0_keeps v0) sz)) 0 0 (va_A (WS_X12_clause cI cJ cZ cY a0 a0_a a0_image a0_texts a0_board a0_taken a0_fars a0_before a0_tape a0_pile a0_rows a0_told a0_values a0_truth a0_keeps v0) sz) := by
  refine Met.ofW (cc := cX12_clause) (maxL := 5) (ret := (some .int)) (by decide) rfl ?_
  intro p e s m args below meth c s₁ B hml hv
  obtain ⟨hargs, hsz, hP, hK, hD0, hT⟩ := hv
  have hx := B.exec
  have hb := B.bytes
  have hr := B.returns
  have htb : ∀ w ∈ TB, w.before args s = true := fun w h => atoms_spec (ws := Cond.code yX12_clause cX12_clause 5 (some .int) :: TB) B.pre w (List.mem_cons_of_mem _ h)
  have hown : s.vm.findClass "ManyEyesModel" = some m.cls := findClass_of_methodNamed B.named
  have hlocks := B.notSynchronized
  subst hsz
  have hD := hD0.self (sz := s.heap.size)
  generalize hAe : va_A (WS_X12_clause cI cJ cZ cY a0 a0_a a0_image a0_texts a0_board a0_taken a0_fars a0_before a0_tape a0_pile a0_rows a0_told a0_values a0_truth a0_keeps v0) s.heap.size = A at hD hT ⊢
  have hA : ∀ q : Nat, s.heap.size ≤ q → A q := fun q h => by rw [← hAe]; exact Or.inr h
  have hS : va_S A s.heap s.heap [] := va_S.rf
  have hl := lv_entry ([.ref a0]) (n := 5) (Nat.le_of_ble_eq_true rfl)
  have he : entryFrame m args 5 = F0 m 0 (lg_sl ([.ref a0]) ++ List.replicate (5 - (lg_sl ([.ref a0])).length) Slot.unset).toArray [] := by rw [hargs, lg_entry_eq]
  rw [he]
  generalize (lg_sl ([.ref a0]) ++ List.replicate (5 - (lg_sl ([.ref a0])).length) Slot.unset).toArray = ls at hl ⊢
  have hl : lv_has ls 5 [(0, .ref a0)] := hl
  show W p l e rm_X12_clause s m args below meth c s.heap [] 0 0 _ _
  refine W.genQ (fun Q hQ => ?_)
  have b_161 : ∀ (x2 : Int32) (x3 : Int32) (t0 : Int32) (v0 : BX12) (H : Heap) (locs : List Loc) (ls : Array Slot), va_P D vwCl (WS_X12_clause cI cJ cZ cY a0 a0_a a0_image a0_texts a0_board a0_taken a0_fars a0_before a0_tape a0_pile a0_rows a0_told a0_values a0_truth a0_keeps v0) H → va_D A (WS_X12_clause cI cJ cZ cY a0 a0_a a0_image a0_texts a0_board a0_taken a0_fars a0_before a0_tape a0_pile a0_rows a0_told a0_values a0_truth a0_keeps v0) → va_S A s.heap H locs → lv_has ls 5 [(0, .ref a0), (2, .int x2), (3, .int x3)] → f_X12_clause_b161 x2 x3 t0 v0 = some res → W p l e rm_X12_clause s m args below meth c H locs 0 0 Q (F0 m 161 ls [.int t0]) := by
    intro x2 x3 t0 v0 H locs ls hP hD hS hl hg
    unfold f_X12_clause_b161 at hg
    refine lv_istore (lv' := [(4, .int t0), (0, .ref a0), (2, .int x2), (3, .int x3)]) hx hb dX12_clause_161 hl (by decide) rfl (fun ls hl => ?_)
    refine lv_iload hx hb dX12_clause_163 (lv_at hl 0 rfl) ?_
    refine lv_if_eq (tgt := 171) hx hb dX12_clause_165 (by decide) (fun c_1 => ?_) (fun c_1 => ?_)
    · have hg := g_it hg c_1
      refine lv_aload_n hx hb dX12_clause_171 rfl (lv_at hl 1 rfl) ?_
      refine va_get (ci := 11) (v := .ref a0_texts) (C := RX12) (T := TX12) (N := 43) hx hb htb uX12 hown hK.1 hP 0 rfl rfl 4 (by decide) (htb _ tg_940) (fun _ h9 => h9) rfl dX12_clause_172 ?_
      refine lv_iload_n hx hb dX12_clause_175 rfl (lv_at hl 2 rfl) ?_
      refine lv_iconst (v := 3) hx hb dX12_clause_176 (by decide) ?_
      refine lv_iadd hx hb dX12_clause_177 ?_
      refine lv_aload_n hx hb dX12_clause_178 rfl (lv_at hl 1 rfl) ?_
      refine va_get (ci := 11) (v := .int (pX12_written v0)) (C := RX12) (T := TX12) (N := 43) hx hb htb uX12 hown hK.1 hP 0 rfl rfl 20 (by decide) (htb _ tg_956) (fun _ h9 => h9) rfl dX12_clause_179 ?_
      refine lv_topi (fun x_2 ex_2 => ?_)
      have hg := g_lte hg x_2 ex_2
      obtain ⟨h_3, hg⟩ := g_gde hg
      refine va_iast hx hb hK.1 hP hD hS 3 0 rfl rfl (inB_vp h_3) dX12_clause_182 (fun H locs hP hD hS => ?_)
      obtain ⟨v0_4, ev0_4⟩ : ∃ z, z = sX12_texts v0 (upd (pX12_texts v0) ((x2 + 3) : Int32).toNatClampNeg x_2) := ⟨_, rfl⟩
      have hP : va_P D vwCl (WS_X12_clause cI cJ cZ cY a0 a0_a a0_image a0_texts a0_board a0_taken a0_fars a0_before a0_tape a0_pile a0_rows a0_told a0_values a0_truth a0_keeps v0_4) H := by rw [ev0_4]; exact hP
      have hD : va_D A (WS_X12_clause cI cJ cZ cY a0 a0_a a0_image a0_texts a0_board a0_taken a0_fars a0_before a0_tape a0_pile a0_rows a0_told a0_values a0_truth a0_keeps v0_4) := by rw [ev0_4]; exact hD
      have hg := g_lte hg v0_4 ev0_4
      refine lv_aload_n hx hb dX12_clause_183 rfl (lv_at hl 1 rfl) ?_
      refine va_get (ci := 11) (v := .int (pX12_token v0_4)) (C := RX12) (T := TX12) (N := 43) hx hb htb uX12 hown hK.1 hP 0 rfl rfl 15 (by decide) (htb _ tg_951) (fun _ h9 => h9) rfl dX12_clause_184 ?_
      refine lv_bipush (v := 59) hx hb dX12_clause_187 (by decide) ?_
      refine lv_icmp_eq (tgt := 194) hx hb dX12_clause_189 (by decide) (fun c_5 => ?_) (fun c_5 => ?_)
      · have hg := g_it hg c_5
        refine lv_aload_n hx hb dX12_clause_194 rfl (lv_at hl 1 rfl) ?_
        refine lv_dup hx hb dX12_clause_195 rfl ?_
        refine va_get (ci := 11) (v := .int (pX12_letters v0_4)) (C := RX12) (T := TX12) (N := 43) hx hb htb uX12 hown hK.1 hP 0 rfl rfl 22 (by decide) (htb _ tg_958) (fun _ h9 => h9) rfl dX12_clause_196 ?_
        refine lv_iload_n hx hb dX12_clause_199 rfl (lv_at hl 3 rfl) ?_
        refine lv_ior hx hb dX12_clause_200 ?_
        refine lv_topi (fun x_6 ex_6 => ?_)
        have hg := g_lte hg x_6 ex_6
        refine va_put (ci := 11) (v := .int x_6) (ty := .int) (C := RX12) (T := TX12) (N := 43) hx hb htb uX12 tyX12 tyX12_ok nmX12 hown hK.1 hP hD hS 0 rfl rfl 22 (by decide) (htb _ tg_958) (fun _ h9 => h9) rfl (by decide +kernel) rfl rfl (Nat.le_of_ble_eq_true rfl) dX12_clause_201 (fun H locs hP hD hS => ?_)
        obtain ⟨v0_7, ev0_7⟩ : ∃ z, z = sX12_letters v0_4 x_6 := ⟨_, rfl⟩
        have hP : va_P D vwCl (WS_X12_clause cI cJ cZ cY a0 a0_a a0_image a0_texts a0_board a0_taken a0_fars a0_before a0_tape a0_pile a0_rows a0_told a0_values a0_truth a0_keeps v0_7) H := by rw [ev0_7]; exact hP
        have hD : va_D A (WS_X12_clause cI cJ cZ cY a0 a0_a a0_image a0_texts a0_board a0_taken a0_fars a0_before a0_tape a0_pile a0_rows a0_told a0_values a0_truth a0_keeps v0_7) := by rw [ev0_7]; exact hD
        have hg := g_lte hg v0_7 ev0_7
        refine lv_aload_n hx hb dX12_clause_204 rfl (lv_at hl 1 rfl) ?_
        refine lv_dup hx hb dX12_clause_205 rfl ?_
        refine va_get (ci := 11) (v := .int (pX12_clauses v0_7)) (C := RX12) (T := TX12) (N := 43) hx hb htb uX12 hown hK.1 hP 0 rfl rfl 19 (by decide) (htb _ tg_955) (fun _ h9 => h9) rfl dX12_clause_206 ?_
        refine lv_iconst (v := 1) hx hb dX12_clause_209 (by decide) ?_
        refine lv_iadd hx hb dX12_clause_210 ?_
        refine lv_topi (fun x_8 ex_8 => ?_)
        have hg := g_lte hg x_8 ex_8
        refine va_put (ci := 11) (v := .int x_8) (ty := .int) (C := RX12) (T := TX12) (N := 43) hx hb htb uX12 tyX12 tyX12_ok nmX12 hown hK.1 hP hD hS 0 rfl rfl 19 (by decide) (htb _ tg_955) (fun _ h9 => h9) rfl (by decide +kernel) rfl rfl (Nat.le_of_ble_eq_true rfl) dX12_clause_211 (fun H locs hP hD hS => ?_)
        obtain ⟨v0_9, ev0_9⟩ : ∃ z, z = sX12_clauses v0_7 x_8 := ⟨_, rfl⟩
        have hP : va_P D vwCl (WS_X12_clause cI cJ cZ cY a0 a0_a a0_image a0_texts a0_board a0_taken a0_fars a0_before a0_tape a0_pile a0_rows a0_told a0_values a0_truth a0_keeps v0_9) H := by rw [ev0_9]; exact hP
        have hD : va_D A (WS_X12_clause cI cJ cZ cY a0 a0_a a0_image a0_texts a0_board a0_taken a0_fars a0_before a0_tape a0_pile a0_rows a0_told a0_values a0_truth a0_keeps v0_9) := by rw [ev0_9]; exact hD
        have hg := g_lte hg v0_9 ev0_9
        refine lv_aload_n hx hb dX12_clause_214 rfl (lv_at hl 1 rfl) ?_
        obtain ⟨r_10, hr_10, hg⟩ := g_bd hg
        refine cc_v (va_runV (C := RX12) (As := []) (rest := []) ⟨hx, hb, hml, hown, htb⟩ (k_X12_nextToken a0 a0_a a0_image a0_texts a0_board a0_taken a0_fars a0_before a0_tape a0_pile a0_rows a0_told a0_values a0_truth a0_keeps v0_9 r_10 hr_10) (cw_V 0 htb tg_1204 tg_13 tg_1201 tg_1203 ts_42 rfl rfl (by decide +kernel) ⟨Nat.le_of_ble_eq_true rfl, Nat.le_of_ble_eq_true rfl⟩) ⟨PC.blind, va_recv hK.1 hP (ci := 11) (q0 := 0) rfl rfl, PC.pre hK hT hP hD hS hA [0, 1, 2, 3, 4, 5, 6, 7, 8, 9, 10, 11, 12, 13, 14] rfl (by decide)⟩ rfl rfl hl.1 rfl (lv_room (Nat.le_of_ble_eq_true rfl)) dX12_clause_215 ⟨Nat.le_of_ble_eq_true rfl, Nat.le_of_ble_eq_true rfl⟩) hP hD hS hA [0, 1, 2, 3, 4, 5, 6, 7, 8, 9, 10, 11, 12, 13, 14] [] rfl rfl (by decide) (by decide) (fun u9 H locs hw hP hD hS => ?_)
        have hw := hw.symm
        subst hw
        have hP : va_P D vwCl (WS_X12_clause cI cJ cZ cY a0 a0_a a0_image a0_texts a0_board a0_taken a0_fars a0_before a0_tape a0_pile a0_rows a0_told a0_values a0_truth a0_keeps r_10) H := hP.sub [0, 1, 2, 3, 4, 5, 6, 7, 8, 9, 10, 11, 12, 13, 14] rfl
        have hD : va_D A (WS_X12_clause cI cJ cZ cY a0 a0_a a0_image a0_texts a0_board a0_taken a0_fars a0_before a0_tape a0_pile a0_rows a0_told a0_values a0_truth a0_keeps r_10) := hD.sub [0, 1, 2, 3, 4, 5, 6, 7, 8, 9, 10, 11, 12, 13, 14] (by decide) rfl
        refine lv_iconst (v := 0) hx hb dX12_clause_218 (by decide) ?_
        have hg := Option.some.inj hg
        rw [hQ]
        exact W.iret (v := 0) hx hb hr (fun t ht hW => ⟨⟨0, (r_10), rfl, ⟨by rw [← hg], by rw [← hg]⟩, by rw [ht]; exact hP, hD⟩, hS.F ht⟩) hS.2.2 dX12_clause_219
      · have hg := g_if hg c_5
        refine lv_iconst (v := 1) hx hb dX12_clause_192 (by decide) ?_
        have hg := Option.some.inj hg
        rw [hQ]
        exact W.iret (v := 1) hx hb hr (fun t ht hW => ⟨⟨1, (v0_4), rfl, ⟨by rw [← hg], by rw [← hg]⟩, by rw [ht]; exact hP, hD⟩, hS.F ht⟩) hS.2.2 dX12_clause_193
    · have hg := g_if hg c_1
      refine lv_iload hx hb dX12_clause_168 (lv_at hl 0 rfl) ?_
      have hg := Option.some.inj hg
      rw [hQ]
      exact W.iret (v := t0) hx hb hr (fun t ht hW => ⟨⟨t0, (v0), rfl, ⟨by rw [← hg], by rw [← hg]⟩, by rw [ht]; exact hP, hD⟩, hS.F ht⟩) hS.2.2 dX12_clause_170
  have b_145 : ∀ (x1 : Int32) (x2 : Int32) (x3 : Int32) (v0 : BX12) (H : Heap) (locs : List Loc) (ls : Array Slot), va_P D vwCl (WS_X12_clause cI cJ cZ cY a0 a0_a a0_image a0_texts a0_board a0_taken a0_fars a0_before a0_tape a0_pile a0_rows a0_told a0_values a0_truth a0_keeps v0) H → va_D A (WS_X12_clause cI cJ cZ cY a0 a0_a a0_image a0_texts a0_board a0_taken a0_fars a0_before a0_tape a0_pile a0_rows a0_told a0_values a0_truth a0_keeps v0) → va_S A s.heap H locs → lv_has ls 5 [(0, .ref a0), (1, .int x1), (2, .int x2), (3, .int x3)] → f_X12_clause_b145 x1 x2 x3 v0 = some res → W p l e rm_X12_clause s m args below meth c H locs 0 0 Q (F0 m 145 ls []) := by
    intro x1 x2 x3 v0 H locs ls hP hD hS hl hg
    unfold f_X12_clause_b145 at hg
    refine lv_iload_n hx hb dX12_clause_145 rfl (lv_at hl 1 rfl) ?_
    refine lv_iconst (v := 4) hx hb dX12_clause_146 (by decide) ?_
    refine lv_icmp_ne (tgt := 157) hx hb dX12_clause_147 (by decide) (fun c_11 => ?_) (fun c_11 => ?_)
    · have hg := g_if hg c_11
      refine lv_aload_n hx hb dX12_clause_157 rfl (lv_at hl 0 rfl) ?_
      obtain ⟨r_12, hr_12, hg⟩ := g_bd hg
      refine cc_i (va_runV (C := RX12) (As := []) (rest := []) ⟨hx, hb, hml, hown, htb⟩ (k_X12_summed a0 a0_a a0_image a0_texts a0_board a0_taken a0_fars a0_before a0_tape a0_pile a0_rows a0_told a0_values a0_truth a0_keeps v0 r_12 hr_12) (cw_V 0 htb tg_1252 tg_13 tg_1249 tg_1251 ts_50 rfl rfl (by decide +kernel) ⟨Nat.le_of_ble_eq_true rfl, Nat.le_of_ble_eq_true rfl⟩) ⟨PC.blind, va_recv hK.1 hP (ci := 11) (q0 := 0) rfl rfl, PC.pre hK hT hP hD hS hA [0, 1, 2, 3, 4, 5, 6, 7, 8, 9, 10, 11, 12, 13, 14] rfl (by decide)⟩ rfl rfl hl.1 rfl (lv_room (Nat.le_of_ble_eq_true rfl)) dX12_clause_158 ⟨Nat.le_of_ble_eq_true rfl, Nat.le_of_ble_eq_true rfl⟩) hP hD hS hA [0, 1, 2, 3, 4, 5, 6, 7, 8, 9, 10, 11, 12, 13, 14] [] rfl rfl (by decide) (by decide) (fun r9 u9 H locs hw hP hD hS => ?_)
      obtain ⟨rfl, rfl⟩ := hw
      have hP : va_P D vwCl (WS_X12_clause cI cJ cZ cY a0 a0_a a0_image a0_texts a0_board a0_taken a0_fars a0_before a0_tape a0_pile a0_rows a0_told a0_values a0_truth a0_keeps r_12.2) H := hP.sub [0, 1, 2, 3, 4, 5, 6, 7, 8, 9, 10, 11, 12, 13, 14] rfl
      have hD : va_D A (WS_X12_clause cI cJ cZ cY a0 a0_a a0_image a0_texts a0_board a0_taken a0_fars a0_before a0_tape a0_pile a0_rows a0_told a0_values a0_truth a0_keeps r_12.2) := hD.sub [0, 1, 2, 3, 4, 5, 6, 7, 8, 9, 10, 11, 12, 13, 14] (by decide) rfl
      exact b_161 x2 x3 r_12.1 r_12.2 H locs ls hP hD hS (lv_sub hl [0, 2, 3] rfl) hg
    · have hg := g_it hg c_11
      refine lv_aload_n hx hb dX12_clause_150 rfl (lv_at hl 0 rfl) ?_
      obtain ⟨r_13, hr_13, hg⟩ := g_bd hg
      refine cc_i (va_runV (C := RX12) (As := []) (rest := []) ⟨hx, hb, hml, hown, htb⟩ (k_X12_either a0 a0_a a0_image a0_texts a0_board a0_taken a0_fars a0_before a0_tape a0_pile a0_rows a0_told a0_values a0_truth a0_keeps v0 r_13 hr_13) (cw_V 0 htb tg_1240 tg_13 tg_1237 tg_1239 ts_47 rfl rfl (by decide +kernel) ⟨Nat.le_of_ble_eq_true rfl, Nat.le_of_ble_eq_true rfl⟩) ⟨PC.blind, va_recv hK.1 hP (ci := 11) (q0 := 0) rfl rfl, PC.pre hK hT hP hD hS hA [0, 1, 2, 3, 4, 5, 6, 7, 8, 9, 10, 11, 12, 13, 14] rfl (by decide)⟩ rfl rfl hl.1 rfl (lv_room (Nat.le_of_ble_eq_true rfl)) dX12_clause_151 ⟨Nat.le_of_ble_eq_true rfl, Nat.le_of_ble_eq_true rfl⟩) hP hD hS hA [0, 1, 2, 3, 4, 5, 6, 7, 8, 9, 10, 11, 12, 13, 14] [] rfl rfl (by decide) (by decide) (fun r9 u9 H locs hw hP hD hS => ?_)
      obtain ⟨rfl, rfl⟩ := hw
      have hP : va_P D vwCl (WS_X12_clause cI cJ cZ cY a0 a0_a a0_image a0_texts a0_board a0_taken a0_fars a0_before a0_tape a0_pile a0_rows a0_told a0_values a0_truth a0_keeps r_13.2) H := hP.sub [0, 1, 2, 3, 4, 5, 6, 7, 8, 9, 10, 11, 12, 13, 14] rfl
      have hD : va_D A (WS_X12_clause cI cJ cZ cY a0 a0_a a0_image a0_texts a0_board a0_taken a0_fars a0_before a0_tape a0_pile a0_rows a0_told a0_values a0_truth a0_keeps r_13.2) := hD.sub [0, 1, 2, 3, 4, 5, 6, 7, 8, 9, 10, 11, 12, 13, 14] (by decide) rfl
      refine lv_goto (tgt := 161) hx hb dX12_clause_154 (by decide) ?_
      exact b_161 x2 x3 r_13.1 r_13.2 H locs ls hP hD hS (lv_sub hl [0, 2, 3] rfl) hg
  have b_30 : ∀ (x1 : Int32) (v0 : BX12) (H : Heap) (locs : List Loc) (ls : Array Slot), va_P D vwCl (WS_X12_clause cI cJ cZ cY a0 a0_a a0_image a0_texts a0_board a0_taken a0_fars a0_before a0_tape a0_pile a0_rows a0_told a0_values a0_truth a0_keeps v0) H → va_D A (WS_X12_clause cI cJ cZ cY a0 a0_a a0_image a0_texts a0_board a0_taken a0_fars a0_before a0_tape a0_pile a0_rows a0_told a0_values a0_truth a0_keeps v0) → va_S A s.heap H locs → lv_has ls 5 [(0, .ref a0), (1, .int x1)] → f_X12_clause_b30 x1 v0 = some res → W p l e rm_X12_clause s m args below meth c H locs 0 0 Q (F0 m 30 ls []) := by
    intro x1 v0 H locs ls hP hD hS hl hg
    unfold f_X12_clause_b30 at hg
    refine lv_aload_n hx hb dX12_clause_30 rfl (lv_at hl 0 rfl) ?_
    refine va_get (ci := 11) (v := .int (pX12_clauses v0)) (C := RX12) (T := TX12) (N := 43) hx hb htb uX12 hown hK.1 hP 0 rfl rfl 19 (by decide) (htb _ tg_955) (fun _ h9 => h9) rfl dX12_clause_31 ?_
    refine lv_bipush (v := 10) hx hb dX12_clause_34 (by decide) ?_
    refine lv_icmp_ne (tgt := 42) hx hb dX12_clause_36 (by decide) (fun c_14 => ?_) (fun c_14 => ?_)
    · have hg := g_if hg c_14
      refine lv_aload_n hx hb dX12_clause_42 rfl (lv_at hl 0 rfl) ?_
      refine lv_dup hx hb dX12_clause_43 rfl ?_
      refine va_get (ci := 11) (v := .int (pX12_came v0)) (C := RX12) (T := TX12) (N := 43) hx hb htb uX12 hown hK.1 hP 0 rfl rfl 21 (by decide) (htb _ tg_957) (fun _ h9 => h9) rfl dX12_clause_44 ?_
      refine lv_iconst (v := 1) hx hb dX12_clause_47 (by decide) ?_
      refine lv_iload_n hx hb dX12_clause_48 rfl (lv_at hl 1 rfl) ?_
      refine lv_ishl hx hb dX12_clause_49 ?_
      refine lv_ior hx hb dX12_clause_50 ?_
      refine lv_topi (fun x_15 ex_15 => ?_)
      have hg := g_lte hg x_15 ex_15
      refine va_put (ci := 11) (v := .int x_15) (ty := .int) (C := RX12) (T := TX12) (N := 43) hx hb htb uX12 tyX12 tyX12_ok nmX12 hown hK.1 hP hD hS 0 rfl rfl 21 (by decide) (htb _ tg_957) (fun _ h9 => h9) rfl (by decide +kernel) rfl rfl (Nat.le_of_ble_eq_true rfl) dX12_clause_51 (fun H locs hP hD hS => ?_)
      obtain ⟨v0_16, ev0_16⟩ : ∃ z, z = sX12_came v0 x_15 := ⟨_, rfl⟩
      have hP : va_P D vwCl (WS_X12_clause cI cJ cZ cY a0 a0_a a0_image a0_texts a0_board a0_taken a0_fars a0_before a0_tape a0_pile a0_rows a0_told a0_values a0_truth a0_keeps v0_16) H := by rw [ev0_16]; exact hP
      have hD : va_D A (WS_X12_clause cI cJ cZ cY a0 a0_a a0_image a0_texts a0_board a0_taken a0_fars a0_before a0_tape a0_pile a0_rows a0_told a0_values a0_truth a0_keeps v0_16) := by rw [ev0_16]; exact hD
      have hg := g_lte hg v0_16 ev0_16
      refine lv_aload_n hx hb dX12_clause_54 rfl (lv_at hl 0 rfl) ?_
      refine va_get (ci := 11) (v := .int (pX12_text0 v0_16)) (C := RX12) (T := TX12) (N := 43) hx hb htb uX12 hown hK.1 hP 0 rfl rfl 18 (by decide) (htb _ tg_954) (fun _ h9 => h9) rfl dX12_clause_55 ?_
      refine lv_iconst (v := 1) hx hb dX12_clause_58 (by decide) ?_
      refine lv_iadd hx hb dX12_clause_59 ?_
      refine lv_iconst (v := 4) hx hb dX12_clause_60 (by decide) ?_
      refine lv_aload_n hx hb dX12_clause_61 rfl (lv_at hl 0 rfl) ?_
      refine va_get (ci := 11) (v := .int (pX12_clauses v0_16)) (C := RX12) (T := TX12) (N := 43) hx hb htb uX12 hown hK.1 hP 0 rfl rfl 19 (by decide) (htb _ tg_955) (fun _ h9 => h9) rfl dX12_clause_62 ?_
      refine lv_imul hx hb dX12_clause_65 ?_
      refine lv_iadd hx hb dX12_clause_66 ?_
      refine lv_topi (fun x2_17 ex2_17 => ?_)
      have hg := g_lte hg x2_17 ex2_17
      refine lv_istore_n (lv' := [(2, .int x2_17), (0, .ref a0), (1, .int x1)]) hx hb dX12_clause_67 rfl hl (by decide) rfl (fun ls hl => ?_)
      refine lv_aload_n hx hb dX12_clause_68 rfl (lv_at hl 1 rfl) ?_
      refine va_get (ci := 11) (v := .ref a0_texts) (C := RX12) (T := TX12) (N := 43) hx hb htb uX12 hown hK.1 hP 0 rfl rfl 4 (by decide) (htb _ tg_940) (fun _ h9 => h9) rfl dX12_clause_69 ?_
      refine lv_iload_n hx hb dX12_clause_72 rfl (lv_at hl 0 rfl) ?_
      refine lv_iload_n hx hb dX12_clause_73 rfl (lv_at hl 2 rfl) ?_
      obtain ⟨h_18, hg⟩ := g_gde hg
      refine va_iast hx hb hK.1 hP hD hS 3 0 rfl rfl (inB_vp h_18) dX12_clause_74 (fun H locs hP hD hS => ?_)
      obtain ⟨v0_19, ev0_19⟩ : ∃ z, z = sX12_texts v0_16 (upd (pX12_texts v0_16) (x2_17 : Int32).toNatClampNeg x1) := ⟨_, rfl⟩
      have hP : va_P D vwCl (WS_X12_clause cI cJ cZ cY a0 a0_a a0_image a0_texts a0_board a0_taken a0_fars a0_before a0_tape a0_pile a0_rows a0_told a0_values a0_truth a0_keeps v0_19) H := by rw [ev0_19]; exact hP
      have hD : va_D A (WS_X12_clause cI cJ cZ cY a0 a0_a a0_image a0_texts a0_board a0_taken a0_fars a0_before a0_tape a0_pile a0_rows a0_told a0_values a0_truth a0_keeps v0_19) := by rw [ev0_19]; exact hD
      have hg := g_lte hg v0_19 ev0_19
      refine lv_aload_n hx hb dX12_clause_75 rfl (lv_at hl 1 rfl) ?_
      refine va_get (ci := 11) (v := .ref a0_texts) (C := RX12) (T := TX12) (N := 43) hx hb htb uX12 hown hK.1 hP 0 rfl rfl 4 (by decide) (htb _ tg_940) (fun _ h9 => h9) rfl dX12_clause_76 ?_
      refine lv_iload_n hx hb dX12_clause_79 rfl (lv_at hl 0 rfl) ?_
      refine lv_iconst (v := 2) hx hb dX12_clause_80 (by decide) ?_
      refine lv_iadd hx hb dX12_clause_81 ?_
      refine lv_aload_n hx hb dX12_clause_82 rfl (lv_at hl 1 rfl) ?_
      refine va_get (ci := 11) (v := .int (pX12_written v0_19)) (C := RX12) (T := TX12) (N := 43) hx hb htb uX12 hown hK.1 hP 0 rfl rfl 20 (by decide) (htb _ tg_956) (fun _ h9 => h9) rfl dX12_clause_83 ?_
      refine lv_topi (fun x_20 ex_20 => ?_)
      have hg := g_lte hg x_20 ex_20
      obtain ⟨h_21, hg⟩ := g_gde hg
      refine va_iast hx hb hK.1 hP hD hS 3 0 rfl rfl (inB_vp h_21) dX12_clause_86 (fun H locs hP hD hS => ?_)
      obtain ⟨v0_22, ev0_22⟩ : ∃ z, z = sX12_texts v0_19 (upd (pX12_texts v0_19) ((x2_17 + 2) : Int32).toNatClampNeg x_20) := ⟨_, rfl⟩
      have hP : va_P D vwCl (WS_X12_clause cI cJ cZ cY a0 a0_a a0_image a0_texts a0_board a0_taken a0_fars a0_before a0_tape a0_pile a0_rows a0_told a0_values a0_truth a0_keeps v0_22) H := by rw [ev0_22]; exact hP
      have hD : va_D A (WS_X12_clause cI cJ cZ cY a0 a0_a a0_image a0_texts a0_board a0_taken a0_fars a0_before a0_tape a0_pile a0_rows a0_told a0_values a0_truth a0_keeps v0_22) := by rw [ev0_22]; exact hD
      have hg := g_lte hg v0_22 ev0_22
      refine lv_aload_n hx hb dX12_clause_87 rfl (lv_at hl 1 rfl) ?_
      obtain ⟨r_23, hr_23, hg⟩ := g_bd hg
      refine cc_v (va_runV (C := RX12) (As := []) (rest := []) ⟨hx, hb, hml, hown, htb⟩ (k_X12_nextToken a0 a0_a a0_image a0_texts a0_board a0_taken a0_fars a0_before a0_tape a0_pile a0_rows a0_told a0_values a0_truth a0_keeps v0_22 r_23 hr_23) (cw_V 0 htb tg_1204 tg_13 tg_1201 tg_1203 ts_42 rfl rfl (by decide +kernel) ⟨Nat.le_of_ble_eq_true rfl, Nat.le_of_ble_eq_true rfl⟩) ⟨PC.blind, va_recv hK.1 hP (ci := 11) (q0 := 0) rfl rfl, PC.pre hK hT hP hD hS hA [0, 1, 2, 3, 4, 5, 6, 7, 8, 9, 10, 11, 12, 13, 14] rfl (by decide)⟩ rfl rfl hl.1 rfl (lv_room (Nat.le_of_ble_eq_true rfl)) dX12_clause_88 ⟨Nat.le_of_ble_eq_true rfl, Nat.le_of_ble_eq_true rfl⟩) hP hD hS hA [0, 1, 2, 3, 4, 5, 6, 7, 8, 9, 10, 11, 12, 13, 14] [] rfl rfl (by decide) (by decide) (fun u9 H locs hw hP hD hS => ?_)
      have hw := hw.symm
      subst hw
      have hP : va_P D vwCl (WS_X12_clause cI cJ cZ cY a0 a0_a a0_image a0_texts a0_board a0_taken a0_fars a0_before a0_tape a0_pile a0_rows a0_told a0_values a0_truth a0_keeps r_23) H := hP.sub [0, 1, 2, 3, 4, 5, 6, 7, 8, 9, 10, 11, 12, 13, 14] rfl
      have hD : va_D A (WS_X12_clause cI cJ cZ cY a0 a0_a a0_image a0_texts a0_board a0_taken a0_fars a0_before a0_tape a0_pile a0_rows a0_told a0_values a0_truth a0_keeps r_23) := hD.sub [0, 1, 2, 3, 4, 5, 6, 7, 8, 9, 10, 11, 12, 13, 14] (by decide) rfl
      refine lv_iconst (v := 0) hx hb dX12_clause_91 (by decide) ?_
      refine lv_istore_n (lv' := [(3, .int 0), (2, .int x2_17), (0, .ref a0), (1, .int x1)]) hx hb dX12_clause_92 rfl hl (by decide) rfl (fun ls hl => ?_)
      refine lv_iload_n hx hb dX12_clause_93 rfl (lv_at hl 3 rfl) ?_
      refine lv_iconst (v := 1) hx hb dX12_clause_94 (by decide) ?_
      refine lv_icmp_ne (tgt := 145) hx hb dX12_clause_95 (by decide) (fun c_24 => ?_) (fun c_24 => ?_)
      · have hg := g_if hg c_24
        exact b_145 x1 x2_17 0 r_23 H locs ls hP hD hS (lv_sub hl [2, 3, 1, 0] rfl) hg
      · have hg := g_it hg c_24
        refine lv_aload_n hx hb dX12_clause_98 rfl (lv_at hl 2 rfl) ?_
        obtain ⟨r_25, hr_25, hg⟩ := g_bd hg
        refine cc_i (va_runV (C := RX12) (As := []) (rest := []) ⟨hx, hb, hml, hown, htb⟩ (k_X12_letterOf a0 a0_a a0_image a0_texts a0_board a0_taken a0_fars a0_before a0_tape a0_pile a0_rows a0_told a0_values a0_truth a0_keeps r_23 r_25 hr_25) (cw_V 0 htb tg_1234 tg_13 tg_1231 tg_1233 ts_46 rfl rfl (by decide +kernel) ⟨Nat.le_of_ble_eq_true rfl, Nat.le_of_ble_eq_true rfl⟩) ⟨PC.blind, va_recv hK.1 hP (ci := 11) (q0 := 0) rfl rfl, PC.pre hK hT hP hD hS hA [0, 1, 2, 3, 4, 5, 6, 7, 8, 9, 10, 11, 12, 13, 14] rfl (by decide)⟩ rfl rfl hl.1 rfl (lv_room (Nat.le_of_ble_eq_true rfl)) dX12_clause_99 ⟨Nat.le_of_ble_eq_true rfl, Nat.le_of_ble_eq_true rfl⟩) hP hD hS hA [0, 1, 2, 3, 4, 5, 6, 7, 8, 9, 10, 11, 12, 13, 14] [] rfl rfl (by decide) (by decide) (fun r9 u9 H locs hw hP hD hS => ?_)
        have hw := hw.symm
        subst hw
        have hP : va_P D vwCl (WS_X12_clause cI cJ cZ cY a0 a0_a a0_image a0_texts a0_board a0_taken a0_fars a0_before a0_tape a0_pile a0_rows a0_told a0_values a0_truth a0_keeps r_23) H := hP.sub [0, 1, 2, 3, 4, 5, 6, 7, 8, 9, 10, 11, 12, 13, 14] rfl
        have hD : va_D A (WS_X12_clause cI cJ cZ cY a0 a0_a a0_image a0_texts a0_board a0_taken a0_fars a0_before a0_tape a0_pile a0_rows a0_told a0_values a0_truth a0_keeps r_23) := hD.sub [0, 1, 2, 3, 4, 5, 6, 7, 8, 9, 10, 11, 12, 13, 14] (by decide) rfl
        refine lv_istore (lv' := [(4, .int r_25), (3, .int 0), (2, .int x2_17), (0, .ref a0), (1, .int x1)]) hx hb dX12_clause_102 hl (by decide) rfl (fun ls hl => ?_)
        refine lv_iload hx hb dX12_clause_104 (lv_at hl 0 rfl) ?_
        refine lv_if_ge (tgt := 111) hx hb dX12_clause_106 (by decide) (fun c_26 => ?_) (fun c_26 => ?_)
        · have hg := g_it hg c_26
          refine lv_aload_n hx hb dX12_clause_111 rfl (lv_at hl 3 rfl) ?_
          refine va_get (ci := 11) (v := .int (pX12_letters r_23)) (C := RX12) (T := TX12) (N := 43) hx hb htb uX12 hown hK.1 hP 0 rfl rfl 22 (by decide) (htb _ tg_958) (fun _ h9 => h9) rfl dX12_clause_112 ?_
          refine lv_iload hx hb dX12_clause_115 (lv_at hl 0 rfl) ?_
          refine lv_ishr hx hb dX12_clause_117 ?_
          refine lv_iconst (v := 1) hx hb dX12_clause_118 (by decide) ?_
          refine lv_iand hx hb dX12_clause_119 ?_
          refine lv_iconst (v := 1) hx hb dX12_clause_120 (by decide) ?_
          refine lv_icmp_ne (tgt := 126) hx hb dX12_clause_121 (by decide) (fun c_27 => ?_) (fun c_27 => ?_)
          · have hg := g_if hg c_27
            refine lv_aload_n hx hb dX12_clause_126 rfl (lv_at hl 3 rfl) ?_
            refine va_get (ci := 11) (v := .ref a0_texts) (C := RX12) (T := TX12) (N := 43) hx hb htb uX12 hown hK.1 hP 0 rfl rfl 4 (by decide) (htb _ tg_940) (fun _ h9 => h9) rfl dX12_clause_127 ?_
            refine lv_iload_n hx hb dX12_clause_130 rfl (lv_at hl 2 rfl) ?_
            refine lv_iconst (v := 1) hx hb dX12_clause_131 (by decide) ?_
            refine lv_iadd hx hb dX12_clause_132 ?_
            refine lv_iload hx hb dX12_clause_133 (lv_at hl 0 rfl) ?_
            obtain ⟨h_28, hg⟩ := g_gde hg
            refine va_iast hx hb hK.1 hP hD hS 3 0 rfl rfl (inB_vp h_28) dX12_clause_135 (fun H locs hP hD hS => ?_)
            obtain ⟨v0_29, ev0_29⟩ : ∃ z, z = sX12_texts r_23 (upd (pX12_texts r_23) ((x2_17 + 1) : Int32).toNatClampNeg r_25) := ⟨_, rfl⟩
            have hP : va_P D vwCl (WS_X12_clause cI cJ cZ cY a0 a0_a a0_image a0_texts a0_board a0_taken a0_fars a0_before a0_tape a0_pile a0_rows a0_told a0_values a0_truth a0_keeps v0_29) H := by rw [ev0_29]; exact hP
            have hD : va_D A (WS_X12_clause cI cJ cZ cY a0 a0_a a0_image a0_texts a0_board a0_taken a0_fars a0_before a0_tape a0_pile a0_rows a0_told a0_values a0_truth a0_keeps v0_29) := by rw [ev0_29]; exact hD
            have hg := g_lte hg v0_29 ev0_29
            refine lv_iconst (v := 1) hx hb dX12_clause_136 (by decide) ?_
            refine lv_iload hx hb dX12_clause_137 (lv_at hl 0 rfl) ?_
            refine lv_ishl hx hb dX12_clause_139 ?_
            refine lv_topi (fun x3_30 ex3_30 => ?_)
            have hg := g_lte hg x3_30 ex3_30
            refine lv_istore_n (lv' := [(3, .int x3_30), (4, .int r_25), (2, .int x2_17), (0, .ref a0), (1, .int x1)]) hx hb dX12_clause_140 rfl hl (by decide) rfl (fun ls hl => ?_)
            refine lv_aload_n hx hb dX12_clause_141 rfl (lv_at hl 3 rfl) ?_
            obtain ⟨r_31, hr_31, hg⟩ := g_bd hg
            refine cc_v (va_runV (C := RX12) (As := []) (rest := []) ⟨hx, hb, hml, hown, htb⟩ (k_X12_nextToken a0 a0_a a0_image a0_texts a0_board a0_taken a0_fars a0_before a0_tape a0_pile a0_rows a0_told a0_values a0_truth a0_keeps v0_29 r_31 hr_31) (cw_V 0 htb tg_1204 tg_13 tg_1201 tg_1203 ts_42 rfl rfl (by decide +kernel) ⟨Nat.le_of_ble_eq_true rfl, Nat.le_of_ble_eq_true rfl⟩) ⟨PC.blind, va_recv hK.1 hP (ci := 11) (q0 := 0) rfl rfl, PC.pre hK hT hP hD hS hA [0, 1, 2, 3, 4, 5, 6, 7, 8, 9, 10, 11, 12, 13, 14] rfl (by decide)⟩ rfl rfl hl.1 rfl (lv_room (Nat.le_of_ble_eq_true rfl)) dX12_clause_142 ⟨Nat.le_of_ble_eq_true rfl, Nat.le_of_ble_eq_true rfl⟩) hP hD hS hA [0, 1, 2, 3, 4, 5, 6, 7, 8, 9, 10, 11, 12, 13, 14] [] rfl rfl (by decide) (by decide) (fun u9 H locs hw hP hD hS => ?_)
            have hw := hw.symm
            subst hw
            have hP : va_P D vwCl (WS_X12_clause cI cJ cZ cY a0 a0_a a0_image a0_texts a0_board a0_taken a0_fars a0_before a0_tape a0_pile a0_rows a0_told a0_values a0_truth a0_keeps r_31) H := hP.sub [0, 1, 2, 3, 4, 5, 6, 7, 8, 9, 10, 11, 12, 13, 14] rfl
            have hD : va_D A (WS_X12_clause cI cJ cZ cY a0 a0_a a0_image a0_texts a0_board a0_taken a0_fars a0_before a0_tape a0_pile a0_rows a0_told a0_values a0_truth a0_keeps r_31) := hD.sub [0, 1, 2, 3, 4, 5, 6, 7, 8, 9, 10, 11, 12, 13, 14] (by decide) rfl
            exact b_145 x1 x2_17 x3_30 r_31 H locs ls hP hD hS (lv_sub hl [3, 4, 2, 0] rfl) hg
          · have hg := g_it hg c_27
            refine lv_iconst (v := 4) hx hb dX12_clause_124 (by decide) ?_
            have hg := Option.some.inj hg
            rw [hQ]
            exact W.iret (v := 4) hx hb hr (fun t ht hW => ⟨⟨4, (r_23), rfl, ⟨by rw [← hg], by rw [← hg]⟩, by rw [ht]; exact hP, hD⟩, hS.F ht⟩) hS.2.2 dX12_clause_125
        · have hg := g_if hg c_26
          refine lv_iconst (v := 1) hx hb dX12_clause_109 (by decide) ?_
          have hg := Option.some.inj hg
          rw [hQ]
          exact W.iret (v := 1) hx hb hr (fun t ht hW => ⟨⟨1, (r_23), rfl, ⟨by rw [← hg], by rw [← hg]⟩, by rw [ht]; exact hP, hD⟩, hS.F ht⟩) hS.2.2 dX12_clause_110
    · have hg := g_it hg c_14
      refine lv_bipush (v := 6) hx hb dX12_clause_39 (by decide) ?_
      have hg := Option.some.inj hg
      rw [hQ]
      exact W.iret (v := 6) hx hb hr (fun t ht hW => ⟨⟨6, (v0), rfl, ⟨by rw [← hg], by rw [← hg]⟩, by rw [ht]; exact hP, hD⟩, hS.F ht⟩) hS.2.2 dX12_clause_41
  generalize hHe : s.heap = H at hP ⊢
  have hS : va_S A s.heap H [] := by rw [← hHe]; exact va_S.rf
  generalize ([] : List Loc) = locs at hS ⊢
  unfold f_X12_clause at hg
  refine lv_aload_n hx hb dX12_clause_0 rfl (lv_at hl 0 rfl) ?_
  obtain ⟨r_32, hr_32, hg⟩ := g_bd hg
  refine cc_i (va_runV (C := RX12) (As := []) (rest := []) ⟨hx, hb, hml, hown, htb⟩ (k_X12_sortOf a0 a0_a a0_image a0_texts a0_board a0_taken a0_fars a0_before a0_tape a0_pile a0_rows a0_told a0_values a0_truth a0_keeps v0 r_32 hr_32) (cw_V 0 htb tg_1223 tg_13 tg_1220 tg_1222 ts_45 rfl rfl (by decide +kernel) ⟨Nat.le_of_ble_eq_true rfl, Nat.le_of_ble_eq_true rfl⟩) ⟨PC.blind, va_recv hK.1 hP (ci := 11) (q0 := 0) rfl rfl, PC.pre hK hT hP hD hS hA [0, 1, 2, 3, 4, 5, 6, 7, 8, 9, 10, 11, 12, 13, 14] rfl (by decide)⟩ rfl rfl hl.1 rfl (lv_room (Nat.le_of_ble_eq_true rfl)) dX12_clause_1 ⟨Nat.le_of_ble_eq_true rfl, Nat.le_of_ble_eq_true rfl⟩) hP hD hS hA [0, 1, 2, 3, 4, 5, 6, 7, 8, 9, 10, 11, 12, 13, 14] [] rfl rfl (by decide) (by decide) (fun r9 u9 H locs hw hP hD hS => ?_)
  have hw := hw.symm
  subst hw
  have hP : va_P D vwCl (WS_X12_clause cI cJ cZ cY a0 a0_a a0_image a0_texts a0_board a0_taken a0_fars a0_before a0_tape a0_pile a0_rows a0_told a0_values a0_truth a0_keeps v0) H := hP.sub [0, 1, 2, 3, 4, 5, 6, 7, 8, 9, 10, 11, 12, 13, 14] rfl
  have hD : va_D A (WS_X12_clause cI cJ cZ cY a0 a0_a a0_image a0_texts a0_board a0_taken a0_fars a0_before a0_tape a0_pile a0_rows a0_told a0_values a0_truth a0_keeps v0) := hD.sub [0, 1, 2, 3, 4, 5, 6, 7, 8, 9, 10, 11, 12, 13, 14] (by decide) rfl
  refine lv_istore_n (lv' := [(1, .int r_32), (0, .ref a0)]) hx hb dX12_clause_4 rfl hl (by decide) rfl (fun ls hl => ?_)
  refine lv_iload_n hx hb dX12_clause_5 rfl (lv_at hl 0 rfl) ?_
  refine lv_if_ne (tgt := 11) hx hb dX12_clause_6 (by decide) (fun c_33 => ?_) (fun c_33 => ?_)
  · have hg := g_if hg c_33
    refine lv_iload_n hx hb dX12_clause_11 rfl (lv_at hl 0 rfl) ?_
    refine lv_iconst (v := 1) hx hb dX12_clause_12 (by decide) ?_
    refine lv_icmp_eq (tgt := 30) hx hb dX12_clause_13 (by decide) (fun c_34 => ?_) (fun c_34 => ?_)
    · have hg := g_it hg c_34
      exact b_30 r_32 v0 H locs ls hP hD hS (lv_sub hl [1, 0] rfl) hg
    · have hg := g_if hg c_34
      refine lv_aload_n hx hb dX12_clause_16 rfl (lv_at hl 1 rfl) ?_
      refine va_get (ci := 11) (v := .int (pX12_came v0)) (C := RX12) (T := TX12) (N := 43) hx hb htb uX12 hown hK.1 hP 0 rfl rfl 21 (by decide) (htb _ tg_957) (fun _ h9 => h9) rfl dX12_clause_17 ?_
      refine lv_iload_n hx hb dX12_clause_20 rfl (lv_at hl 0 rfl) ?_
      refine lv_ishr hx hb dX12_clause_21 ?_
      refine lv_iconst (v := 1) hx hb dX12_clause_22 (by decide) ?_
      refine lv_iand hx hb dX12_clause_23 ?_
      refine lv_iconst (v := 1) hx hb dX12_clause_24 (by decide) ?_
      refine lv_icmp_ne (tgt := 30) hx hb dX12_clause_25 (by decide) (fun c_35 => ?_) (fun c_35 => ?_)
      · have hg := g_if hg c_35
        exact b_30 r_32 v0 H locs ls hP hD hS (lv_sub hl [1, 0] rfl) hg
      · have hg := g_it hg c_35
        refine lv_iconst (v := 4) hx hb dX12_clause_28 (by decide) ?_
        have hg := Option.some.inj hg
        rw [hQ]
        exact W.iret (v := 4) hx hb hr (fun t ht hW => ⟨⟨4, (v0), rfl, ⟨by rw [← hg], by rw [← hg]⟩, by rw [ht]; exact hP, hD⟩, hS.F ht⟩) hS.2.2 dX12_clause_29
  · have hg := g_it hg c_33
    refine lv_iconst (v := 1) hx hb dX12_clause_9 (by decide) ?_
    have hg := Option.some.inj hg
    rw [hQ]
    exact W.iret (v := 1) hx hb hr (fun t ht hW => ⟨⟨1, (v0), rfl, ⟨by rw [← hg], by rw [← hg]⟩, by rw [ht]; exact hP, hD⟩, hS.F ht⟩) hS.2.2 dX12_clause_10

/-! ManyEyesModel.readText()I -/
def WS_X12_readText (cI cJ cZ cY : ClassId) (a0 a0_a a0_image a0_texts a0_board a0_taken a0_fars a0_before a0_tape a0_pile a0_rows a0_told a0_values a0_truth a0_keeps : Nat) (v0 : BX12) : va_W := (GX12 cI cJ cZ cY a0 a0_a a0_image a0_texts a0_board a0_taken a0_fars a0_before a0_tape a0_pile a0_rows a0_told a0_values a0_truth a0_keeps v0)
def f_X12_readText_b48B (J48 : BX12 → Option (Int32 × BX12)) (v0 : BX12) : Option (Int32 × BX12) := if ((pX12_token v0) : Int32) = 0 then (some (0, v0)) else ((f_X12_clause v0).bind (fun r_2 => if (r_2.1 : Int32) = 0 then (J48 (r_2.2)) else (some (r_2.1, r_2.2))))
def f_X12_readText_b48 : Nat → BX12 → Option (Int32 × BX12) := g_lp (fun J z => f_X12_readText_b48B J z)
def f_X12_readText (v0 : BX12) : Option (Int32 × BX12) := g_gd (inB 3 3170) (g_lt (((800 : Int32) * ((pX12_a v0) (3 : Int32).toNatClampNeg)) : Int32) (fun x_5 => g_lt (sX12_text0 v0 x_5) (fun v0_6 => g_lt (sX12_clauses v0_6 0) (fun v0_7 => g_lt (sX12_written v0_7 0) (fun v0_8 => g_lt (sX12_opens v0_8 0) (fun v0_9 => g_lt (sX12_came v0_9 0) (fun v0_10 => g_lt (sX12_letters v0_10 0) (fun v0_11 => g_lt (sX12_at v0_11 0) (fun v0_12 => (f_X12_nextToken v0_12).bind (fun r_13 => f_X12_readText_b48 fU (r_13)))))))))))
abbrev rm_X12_readText : Room := { frames := 9, cells := 0, slots := 0, locals := 200 }
set_option maxHeartbeats 4000000 in
set_option maxRecDepth 100000 in
theorem k_X12_readText {l : Launch} {D : va_G} {cI cJ cZ cY : ClassId} {tX tY : Nat} {sz : Nat} (a0 a0_a a0_image a0_texts a0_board a0_taken a0_fars a0_before a0_tape a0_pile a0_rows a0_told a0_values a0_truth a0_keeps : Nat) (v0 : BX12) (res : Int32 × BX12) (hg : f_X12_readText v0 = some res) : Met l yX12_readText (Cond.code yX12_readText cX12_readText 2 (some .int) :: TB) rm_X12_readText (PC D cI cJ cZ cY tX tY [.ref a0] (WS_X12_readText cI cJ cZ cY a0 a0_a a0_image a0_texts a0_board a0_taken a0_fars a0_before a0_tape a0_pile a0_rows a0_told a0_values a0_truth a0_keeps v0) sz) (va_Qi (fun (r : Int32) (u : BX12) => r = res.1 ∧ u = res.2) (BC D (fun u : BX12 => WS_X12_readText cI cJ cZ cY a0 a0_a a0_image a0_texts a0_board a0_taken a0_fars a0_before a0_tape a0_pile a0_rows a0_told a0_values a0_truth a0_keeps u) (va_A (WS_X12_readText cI cJ cZ cY a0 a0_a a0_image a0_texts a0_board a0_taken a0_fars a0_before a0_tape a0_pile a0_rows a0_told a0_values a0_truth a0_keeps v0) sz)) (va_A (WS_X12_readText cI cJ cZ cY a0 a0_a a0_image a0_texts a0_board a0_taken a0_fars a0_before a0_tape a0_pile a0_rows a0_told a0_values a0_truth a0_keeps v0) sz)) 0 0 (va_A (WS_X12_readText cI cJ cZ cY a0 a0_a a0_image a0_texts a0_board a0_taken a0_fars a0_before a0_tape a0_pile a0_rows a0_told a0_values a0_truth a0_keeps v0) sz) := by
  refine Met.ofW (cc := cX12_readText) (maxL := 2) (ret := (some .int)) (by decide) rfl ?_
  intro p e s m args below meth c s₁ B hml hv
  obtain ⟨hargs, hsz, hP, hK, hD0, hT⟩ := hv
  have hx := B.exec
  have hb := B.bytes
  have hr := B.returns
  have htb : ∀ w ∈ TB, w.before args s = true := fun w h => atoms_spec (ws := Cond.code yX12_readText cX12_readText 2 (some .int) :: TB) B.pre w (List.mem_cons_of_mem _ h)
  have hown : s.vm.findClass "ManyEyesModel" = some m.cls := findClass_of_methodNamed B.named
  have hlocks := B.notSynchronized
  subst hsz
  have hD := hD0.self (sz := s.heap.size)
  generalize hAe : va_A (WS_X12_readText cI cJ cZ cY a0 a0_a a0_image a0_texts a0_board a0_taken a0_fars a0_before a0_tape a0_pile a0_rows a0_told a0_values a0_truth a0_keeps v0) s.heap.size = A at hD hT ⊢
  have hA : ∀ q : Nat, s.heap.size ≤ q → A q := fun q h => by rw [← hAe]; exact Or.inr h
  have hS : va_S A s.heap s.heap [] := va_S.rf
  have hl := lv_entry ([.ref a0]) (n := 2) (Nat.le_of_ble_eq_true rfl)
  have he : entryFrame m args 2 = F0 m 0 (lg_sl ([.ref a0]) ++ List.replicate (2 - (lg_sl ([.ref a0])).length) Slot.unset).toArray [] := by rw [hargs, lg_entry_eq]
  rw [he]
  generalize (lg_sl ([.ref a0]) ++ List.replicate (2 - (lg_sl ([.ref a0])).length) Slot.unset).toArray = ls at hl ⊢
  have hl : lv_has ls 2 [(0, .ref a0)] := hl
  show W p l e rm_X12_readText s m args below meth c s.heap [] 0 0 _ _
  refine W.genQ (fun Q hQ => ?_)
  have b_48 : ∀ (n : Nat), ∀ (v0 : BX12) (H : Heap) (locs : List Loc) (ls : Array Slot), va_P D vwCl (WS_X12_readText cI cJ cZ cY a0 a0_a a0_image a0_texts a0_board a0_taken a0_fars a0_before a0_tape a0_pile a0_rows a0_told a0_values a0_truth a0_keeps v0) H → va_D A (WS_X12_readText cI cJ cZ cY a0 a0_a a0_image a0_texts a0_board a0_taken a0_fars a0_before a0_tape a0_pile a0_rows a0_told a0_values a0_truth a0_keeps v0) → va_S A s.heap H locs → lv_has ls 2 [(0, .ref a0)] → f_X12_readText_b48 n (v0) = some res → W p l e rm_X12_readText s m args below meth c H locs 0 0 Q (F0 m 48 ls []) := by
    intro n
    induction n with
    | zero =>
      intro v0 H locs ls hP hD hS hl hg
      exact (g_lp0 hg).elim
    | succ n ih =>
      intro v0 H locs ls hP hD hS hl hg
      have hg : f_X12_readText_b48B (f_X12_readText_b48 n) v0 = some res := hg
      unfold f_X12_readText_b48B at hg
      refine lv_aload_n hx hb dX12_readText_48 rfl (lv_at hl 0 rfl) ?_
      refine va_get (ci := 11) (v := .int (pX12_token v0)) (C := RX12) (T := TX12) (N := 43) hx hb htb uX12 hown hK.1 hP 0 rfl rfl 15 (by decide) (htb _ tg_951) (fun _ h9 => h9) rfl dX12_readText_49 ?_
      refine lv_if_eq (tgt := 69) hx hb dX12_readText_52 (by decide) (fun c_1 => ?_) (fun c_1 => ?_)
      · have hg := g_it hg c_1
        refine lv_iconst (v := 0) hx hb dX12_readText_69 (by decide) ?_
        have hg := Option.some.inj hg
        rw [hQ]
        exact W.iret (v := 0) hx hb hr (fun t ht hW => ⟨⟨0, (v0), rfl, ⟨by rw [← hg], by rw [← hg]⟩, by rw [ht]; exact hP, hD⟩, hS.F ht⟩) hS.2.2 dX12_readText_70
      · have hg := g_if hg c_1
        refine lv_aload_n hx hb dX12_readText_55 rfl (lv_at hl 0 rfl) ?_
        obtain ⟨r_2, hr_2, hg⟩ := g_bd hg
        refine cc_i (va_runV (C := RX12) (As := []) (rest := []) ⟨hx, hb, hml, hown, htb⟩ (k_X12_clause a0 a0_a a0_image a0_texts a0_board a0_taken a0_fars a0_before a0_tape a0_pile a0_rows a0_told a0_values a0_truth a0_keeps v0 r_2 hr_2) (cw_V 0 htb tg_1219 tg_13 tg_1216 tg_1218 ts_44 rfl rfl (by decide +kernel) ⟨Nat.le_of_ble_eq_true rfl, Nat.le_of_ble_eq_true rfl⟩) ⟨PC.blind, va_recv hK.1 hP (ci := 11) (q0 := 0) rfl rfl, PC.pre hK hT hP hD hS hA [0, 1, 2, 3, 4, 5, 6, 7, 8, 9, 10, 11, 12, 13, 14] rfl (by decide)⟩ rfl rfl hl.1 rfl (lv_room (Nat.le_of_ble_eq_true rfl)) dX12_readText_56 ⟨Nat.le_of_ble_eq_true rfl, Nat.le_of_ble_eq_true rfl⟩) hP hD hS hA [0, 1, 2, 3, 4, 5, 6, 7, 8, 9, 10, 11, 12, 13, 14] [] rfl rfl (by decide) (by decide) (fun r9 u9 H locs hw hP hD hS => ?_)
        obtain ⟨rfl, rfl⟩ := hw
        have hP : va_P D vwCl (WS_X12_readText cI cJ cZ cY a0 a0_a a0_image a0_texts a0_board a0_taken a0_fars a0_before a0_tape a0_pile a0_rows a0_told a0_values a0_truth a0_keeps r_2.2) H := hP.sub [0, 1, 2, 3, 4, 5, 6, 7, 8, 9, 10, 11, 12, 13, 14] rfl
        have hD : va_D A (WS_X12_readText cI cJ cZ cY a0 a0_a a0_image a0_texts a0_board a0_taken a0_fars a0_before a0_tape a0_pile a0_rows a0_told a0_values a0_truth a0_keeps r_2.2) := hD.sub [0, 1, 2, 3, 4, 5, 6, 7, 8, 9, 10, 11, 12, 13, 14] (by decide) rfl
        refine lv_istore_n (lv' := [(1, .int r_2.1), (0, .ref a0)]) hx hb dX12_readText_59 rfl hl (by decide) rfl (fun ls hl => ?_)
        refine lv_iload_n hx hb dX12_readText_60 rfl (lv_at hl 0 rfl) ?_
        refine lv_if_eq (tgt := 66) hx hb dX12_readText_61 (by decide) (fun c_3 => ?_) (fun c_3 => ?_)
        · have hg := g_it hg c_3
          refine lv_goto (tgt := 48) hx hb dX12_readText_66 (by decide) ?_
          exact ih r_2.2 H locs ls hP hD hS (lv_sub hl [1] rfl) hg
        · have hg := g_if hg c_3
          refine lv_iload_n hx hb dX12_readText_64 rfl (lv_at hl 0 rfl) ?_
          have hg := Option.some.inj hg
          rw [hQ]
          exact W.iret (v := r_2.1) hx hb hr (fun t ht hW => ⟨⟨r_2.1, (r_2.2), rfl, ⟨by rw [← hg], by rw [← hg]⟩, by rw [ht]; exact hP, hD⟩, hS.F ht⟩) hS.2.2 dX12_readText_65
  generalize hHe : s.heap = H at hP ⊢
  have hS : va_S A s.heap H [] := by rw [← hHe]; exact va_S.rf
  generalize ([] : List Loc) = locs at hS ⊢
  unfold f_X12_readText at hg
  refine lv_aload_n hx hb dX12_readText_0 rfl (lv_at hl 0 rfl) ?_
  refine lv_sipush (v := 800) hx hb dX12_readText_1 (by decide) ?_
  refine lv_aload_n hx hb dX12_readText_4 rfl (lv_at hl 0 rfl) ?_
  refine va_get (ci := 11) (v := .ref a0_a) (C := RX12) (T := TX12) (N := 43) hx hb htb uX12 hown hK.1 hP 0 rfl rfl 2 (by decide) (htb _ tg_938) (fun _ h9 => h9) rfl dX12_readText_5 ?_
  refine lv_iconst (v := 3) hx hb dX12_readText_8 (by decide) ?_
  obtain ⟨h_4, hg⟩ := g_gde hg
  refine va_iald hx hb hK.1 hP 1 0 rfl rfl (inB_vp h_4) dX12_readText_9 ?_
  refine lv_imul hx hb dX12_readText_10 ?_
  refine lv_topi (fun x_5 ex_5 => ?_)
  have hg := g_lte hg x_5 ex_5
  refine va_put (ci := 11) (v := .int x_5) (ty := .int) (C := RX12) (T := TX12) (N := 43) hx hb htb uX12 tyX12 tyX12_ok nmX12 hown hK.1 hP hD hS 0 rfl rfl 18 (by decide) (htb _ tg_954) (fun _ h9 => h9) rfl (by decide +kernel) rfl rfl (Nat.le_of_ble_eq_true rfl) dX12_readText_11 (fun H locs hP hD hS => ?_)
  obtain ⟨v0_6, ev0_6⟩ : ∃ z, z = sX12_text0 v0 x_5 := ⟨_, rfl⟩
  have hP : va_P D vwCl (WS_X12_readText cI cJ cZ cY a0 a0_a a0_image a0_texts a0_board a0_taken a0_fars a0_before a0_tape a0_pile a0_rows a0_told a0_values a0_truth a0_keeps v0_6) H := by rw [ev0_6]; exact hP
  have hD : va_D A (WS_X12_readText cI cJ cZ cY a0 a0_a a0_image a0_texts a0_board a0_taken a0_fars a0_before a0_tape a0_pile a0_rows a0_told a0_values a0_truth a0_keeps v0_6) := by rw [ev0_6]; exact hD
  have hg := g_lte hg v0_6 ev0_6
  refine lv_aload_n hx hb dX12_readText_14 rfl (lv_at hl 0 rfl) ?_
  refine lv_iconst (v := 0) hx hb dX12_readText_15 (by decide) ?_
  refine va_put (ci := 11) (v := .int 0) (ty := .int) (C := RX12) (T := TX12) (N := 43) hx hb htb uX12 tyX12 tyX12_ok nmX12 hown hK.1 hP hD hS 0 rfl rfl 19 (by decide) (htb _ tg_955) (fun _ h9 => h9) rfl (by decide +kernel) rfl rfl (Nat.le_of_ble_eq_true rfl) dX12_readText_16 (fun H locs hP hD hS => ?_)
  obtain ⟨v0_7, ev0_7⟩ : ∃ z, z = sX12_clauses v0_6 0 := ⟨_, rfl⟩
  have hP : va_P D vwCl (WS_X12_readText cI cJ cZ cY a0 a0_a a0_image a0_texts a0_board a0_taken a0_fars a0_before a0_tape a0_pile a0_rows a0_told a0_values a0_truth a0_keeps v0_7) H := by rw [ev0_7]; exact hP
  have hD : va_D A (WS_X12_readText cI cJ cZ cY a0 a0_a a0_image a0_texts a0_board a0_taken a0_fars a0_before a0_tape a0_pile a0_rows a0_told a0_values a0_truth a0_keeps v0_7) := by rw [ev0_7]; exact hD
  have hg := g_lte hg v0_7 ev0_7
  refine lv_aload_n hx hb dX12_readText_19 rfl (lv_at hl 0 rfl) ?_
  refine lv_iconst (v := 0) hx hb dX12_readText_20 (by decide) ?_
  refine va_put (ci := 11) (v := .int 0) (ty := .int) (C := RX12) (T := TX12) (N := 43) hx hb htb uX12 tyX12 tyX12_ok nmX12 hown hK.1 hP hD hS 0 rfl rfl 20 (by decide) (htb _ tg_956) (fun _ h9 => h9) rfl (by decide +kernel) rfl rfl (Nat.le_of_ble_eq_true rfl) dX12_readText_21 (fun H locs hP hD hS => ?_)
  obtain ⟨v0_8, ev0_8⟩ : ∃ z, z = sX12_written v0_7 0 := ⟨_, rfl⟩
  have hP : va_P D vwCl (WS_X12_readText cI cJ cZ cY a0 a0_a a0_image a0_texts a0_board a0_taken a0_fars a0_before a0_tape a0_pile a0_rows a0_told a0_values a0_truth a0_keeps v0_8) H := by rw [ev0_8]; exact hP
  have hD : va_D A (WS_X12_readText cI cJ cZ cY a0 a0_a a0_image a0_texts a0_board a0_taken a0_fars a0_before a0_tape a0_pile a0_rows a0_told a0_values a0_truth a0_keeps v0_8) := by rw [ev0_8]; exact hD
  have hg := g_lte hg v0_8 ev0_8
  refine lv_aload_n hx hb dX12_readText_24 rfl (lv_at hl 0 rfl) ?_
  refine lv_iconst (v := 0) hx hb dX12_readText_25 (by decide) ?_
  refine va_put (ci := 11) (v := .int 0) (ty := .int) (C := RX12) (T := TX12) (N := 43) hx hb htb uX12 tyX12 tyX12_ok nmX12 hown hK.1 hP hD hS 0 rfl rfl 25 (by decide) (htb _ tg_961) (fun _ h9 => h9) rfl (by decide +kernel) rfl rfl (Nat.le_of_ble_eq_true rfl) dX12_readText_26 (fun H locs hP hD hS => ?_)
  obtain ⟨v0_9, ev0_9⟩ : ∃ z, z = sX12_opens v0_8 0 := ⟨_, rfl⟩
  have hP : va_P D vwCl (WS_X12_readText cI cJ cZ cY a0 a0_a a0_image a0_texts a0_board a0_taken a0_fars a0_before a0_tape a0_pile a0_rows a0_told a0_values a0_truth a0_keeps v0_9) H := by rw [ev0_9]; exact hP
  have hD : va_D A (WS_X12_readText cI cJ cZ cY a0 a0_a a0_image a0_texts a0_board a0_taken a0_fars a0_before a0_tape a0_pile a0_rows a0_told a0_values a0_truth a0_keeps v0_9) := by rw [ev0_9]; exact hD
  have hg := g_lte hg v0_9 ev0_9
  refine lv_aload_n hx hb dX12_readText_29 rfl (lv_at hl 0 rfl) ?_
  refine lv_iconst (v := 0) hx hb dX12_readText_30 (by decide) ?_
  refine va_put (ci := 11) (v := .int 0) (ty := .int) (C := RX12) (T := TX12) (N := 43) hx hb htb uX12 tyX12 tyX12_ok nmX12 hown hK.1 hP hD hS 0 rfl rfl 21 (by decide) (htb _ tg_957) (fun _ h9 => h9) rfl (by decide +kernel) rfl rfl (Nat.le_of_ble_eq_true rfl) dX12_readText_31 (fun H locs hP hD hS => ?_)
  obtain ⟨v0_10, ev0_10⟩ : ∃ z, z = sX12_came v0_9 0 := ⟨_, rfl⟩
  have hP : va_P D vwCl (WS_X12_readText cI cJ cZ cY a0 a0_a a0_image a0_texts a0_board a0_taken a0_fars a0_before a0_tape a0_pile a0_rows a0_told a0_values a0_truth a0_keeps v0_10) H := by rw [ev0_10]; exact hP
  have hD : va_D A (WS_X12_readText cI cJ cZ cY a0 a0_a a0_image a0_texts a0_board a0_taken a0_fars a0_before a0_tape a0_pile a0_rows a0_told a0_values a0_truth a0_keeps v0_10) := by rw [ev0_10]; exact hD
  have hg := g_lte hg v0_10 ev0_10
  refine lv_aload_n hx hb dX12_readText_34 rfl (lv_at hl 0 rfl) ?_
  refine lv_iconst (v := 0) hx hb dX12_readText_35 (by decide) ?_
  refine va_put (ci := 11) (v := .int 0) (ty := .int) (C := RX12) (T := TX12) (N := 43) hx hb htb uX12 tyX12 tyX12_ok nmX12 hown hK.1 hP hD hS 0 rfl rfl 22 (by decide) (htb _ tg_958) (fun _ h9 => h9) rfl (by decide +kernel) rfl rfl (Nat.le_of_ble_eq_true rfl) dX12_readText_36 (fun H locs hP hD hS => ?_)
  obtain ⟨v0_11, ev0_11⟩ : ∃ z, z = sX12_letters v0_10 0 := ⟨_, rfl⟩
  have hP : va_P D vwCl (WS_X12_readText cI cJ cZ cY a0 a0_a a0_image a0_texts a0_board a0_taken a0_fars a0_before a0_tape a0_pile a0_rows a0_told a0_values a0_truth a0_keeps v0_11) H := by rw [ev0_11]; exact hP
  have hD : va_D A (WS_X12_readText cI cJ cZ cY a0 a0_a a0_image a0_texts a0_board a0_taken a0_fars a0_before a0_tape a0_pile a0_rows a0_told a0_values a0_truth a0_keeps v0_11) := by rw [ev0_11]; exact hD
  have hg := g_lte hg v0_11 ev0_11
  refine lv_aload_n hx hb dX12_readText_39 rfl (lv_at hl 0 rfl) ?_
  refine lv_iconst (v := 0) hx hb dX12_readText_40 (by decide) ?_
  refine va_put (ci := 11) (v := .int 0) (ty := .int) (C := RX12) (T := TX12) (N := 43) hx hb htb uX12 tyX12 tyX12_ok nmX12 hown hK.1 hP hD hS 0 rfl rfl 13 (by decide) (htb _ tg_949) (fun _ h9 => h9) rfl (by decide +kernel) rfl rfl (Nat.le_of_ble_eq_true rfl) dX12_readText_41 (fun H locs hP hD hS => ?_)
  obtain ⟨v0_12, ev0_12⟩ : ∃ z, z = sX12_at v0_11 0 := ⟨_, rfl⟩
  have hP : va_P D vwCl (WS_X12_readText cI cJ cZ cY a0 a0_a a0_image a0_texts a0_board a0_taken a0_fars a0_before a0_tape a0_pile a0_rows a0_told a0_values a0_truth a0_keeps v0_12) H := by rw [ev0_12]; exact hP
  have hD : va_D A (WS_X12_readText cI cJ cZ cY a0 a0_a a0_image a0_texts a0_board a0_taken a0_fars a0_before a0_tape a0_pile a0_rows a0_told a0_values a0_truth a0_keeps v0_12) := by rw [ev0_12]; exact hD
  have hg := g_lte hg v0_12 ev0_12
  refine lv_aload_n hx hb dX12_readText_44 rfl (lv_at hl 0 rfl) ?_
  obtain ⟨r_13, hr_13, hg⟩ := g_bd hg
  refine cc_v (va_runV (C := RX12) (As := []) (rest := []) ⟨hx, hb, hml, hown, htb⟩ (k_X12_nextToken a0 a0_a a0_image a0_texts a0_board a0_taken a0_fars a0_before a0_tape a0_pile a0_rows a0_told a0_values a0_truth a0_keeps v0_12 r_13 hr_13) (cw_V 0 htb tg_1204 tg_13 tg_1201 tg_1203 ts_42 rfl rfl (by decide +kernel) ⟨Nat.le_of_ble_eq_true rfl, Nat.le_of_ble_eq_true rfl⟩) ⟨PC.blind, va_recv hK.1 hP (ci := 11) (q0 := 0) rfl rfl, PC.pre hK hT hP hD hS hA [0, 1, 2, 3, 4, 5, 6, 7, 8, 9, 10, 11, 12, 13, 14] rfl (by decide)⟩ rfl rfl hl.1 rfl (lv_room (Nat.le_of_ble_eq_true rfl)) dX12_readText_45 ⟨Nat.le_of_ble_eq_true rfl, Nat.le_of_ble_eq_true rfl⟩) hP hD hS hA [0, 1, 2, 3, 4, 5, 6, 7, 8, 9, 10, 11, 12, 13, 14] [] rfl rfl (by decide) (by decide) (fun u9 H locs hw hP hD hS => ?_)
  have hw := hw.symm
  subst hw
  have hP : va_P D vwCl (WS_X12_readText cI cJ cZ cY a0 a0_a a0_image a0_texts a0_board a0_taken a0_fars a0_before a0_tape a0_pile a0_rows a0_told a0_values a0_truth a0_keeps r_13) H := hP.sub [0, 1, 2, 3, 4, 5, 6, 7, 8, 9, 10, 11, 12, 13, 14] rfl
  have hD : va_D A (WS_X12_readText cI cJ cZ cY a0 a0_a a0_image a0_texts a0_board a0_taken a0_fars a0_before a0_tape a0_pile a0_rows a0_told a0_values a0_truth a0_keeps r_13) := hD.sub [0, 1, 2, 3, 4, 5, 6, 7, 8, 9, 10, 11, 12, 13, 14] (by decide) rfl
  exact b_48 fU r_13 H locs ls hP hD hS (lv_sub hl [0] rfl) hg

/-! ManyEyesModel.rule()I -/
def WS_X12_rule (cI cJ cZ cY : ClassId) (a0 a0_a a0_image a0_texts a0_board a0_taken a0_fars a0_before a0_tape a0_pile a0_rows a0_told a0_values a0_truth a0_keeps : Nat) (v0 : BX12) : va_W := (GX12 cI cJ cZ cY a0 a0_a a0_image a0_texts a0_board a0_taken a0_fars a0_before a0_tape a0_pile a0_rows a0_told a0_values a0_truth a0_keeps v0)
def f_X12_rule_b37 (t1 : Int32) (v0 : BX12) : Option (Int32 × BX12) := g_lt (sX12_faultPlace v0 t1) (fun v0_1 => g_lt (sX12_taped v0_1 0) (fun v0_2 => if ((pX12_fault v0_2) : Int32) = 0 then (g_lt ((pX12_clauses v0_2) : Int32) (fun x_4 => g_gd (inB (pX12_text0 v0_2) 6400) (g_lt (sX12_texts v0_2 (upd (pX12_texts v0_2) ((pX12_text0 v0_2) : Int32).toNatClampNeg x_4)) (fun v0_6 => g_gd (inB 3 3170) (g_lt ((((pX12_a v0_6) (3 : Int32).toNatClampNeg) + 1) : Int32) (fun x_8 => g_gd (inB 3 3170) (g_lt (sX12_a v0_6 (upd (pX12_a v0_6) (3 : Int32).toNatClampNeg x_8)) (fun v0_10 => g_gd (inB 3 3170) (some ((((pX12_a v0_10) (3 : Int32).toNatClampNeg) - 1), v0_10)))))))))) else (some ((-1), v0_2))))
def f_X12_rule (v0 : BX12) : Option (Int32 × BX12) := g_gd (inB 3 3170) (if (((pX12_a v0) (3 : Int32).toNatClampNeg) : Int32) = 8 then (some ((-1), v0)) else ((f_X12_readText v0).bind (fun r_14 => g_lt (sX12_fault r_14.2 r_14.1) (fun v0_15 => if ((pX12_fault v0_15) : Int32) = 0 then (f_X12_rule_b37 (-1) v0_15) else (f_X12_rule_b37 (pX12_place v0_15) v0_15)))))
abbrev rm_X12_rule : Room := { frames := 10, cells := 0, slots := 0, locals := 221 }
set_option maxHeartbeats 4000000 in
set_option maxRecDepth 100000 in
theorem k_X12_rule {l : Launch} {D : va_G} {cI cJ cZ cY : ClassId} {tX tY : Nat} {sz : Nat} (a0 a0_a a0_image a0_texts a0_board a0_taken a0_fars a0_before a0_tape a0_pile a0_rows a0_told a0_values a0_truth a0_keeps : Nat) (v0 : BX12) (res : Int32 × BX12) (hg : f_X12_rule v0 = some res) : Met l yX12_rule (Cond.code yX12_rule cX12_rule 1 (some .int) :: TB) rm_X12_rule (PC D cI cJ cZ cY tX tY [.ref a0] (WS_X12_rule cI cJ cZ cY a0 a0_a a0_image a0_texts a0_board a0_taken a0_fars a0_before a0_tape a0_pile a0_rows a0_told a0_values a0_truth a0_keeps v0) sz) (va_Qi (fun (r : Int32) (u : BX12) => r = res.1 ∧ u = res.2) (BC D (fun u : BX12 => WS_X12_rule cI cJ cZ cY a0 a0_a a0_image a0_texts a0_board a0_taken a0_fars a0_before a0_tape a0_pile a0_rows a0_told a0_values a0_truth a0_keeps u) (va_A (WS_X12_rule cI cJ cZ cY a0 a0_a a0_image a0_texts a0_board a0_taken a0_fars a0_before a0_tape a0_pile a0_rows a0_told a0_values a0_truth a0_keeps v0) sz)) (va_A (WS_X12_rule cI cJ cZ cY a0 a0_a a0_image a0_texts a0_board a0_taken a0_fars a0_before a0_tape a0_pile a0_rows a0_told a0_values a0_truth a0_keeps v0) sz)) 0 0 (va_A (WS_X12_rule cI cJ cZ cY a0 a0_a a0_image a0_texts a0_board a0_taken a0_fars a0_before a0_tape a0_pile a0_rows a0_told a0_values a0_truth a0_keeps v0) sz) := by
  refine Met.ofW (cc := cX12_rule) (maxL := 1) (ret := (some .int)) (by decide) rfl ?_
  intro p e s m args below meth c s₁ B hml hv
  obtain ⟨hargs, hsz, hP, hK, hD0, hT⟩ := hv
  have hx := B.exec
  have hb := B.bytes
  have hr := B.returns
  have htb : ∀ w ∈ TB, w.before args s = true := fun w h => atoms_spec (ws := Cond.code yX12_rule cX12_rule 1 (some .int) :: TB) B.pre w (List.mem_cons_of_mem _ h)
  have hown : s.vm.findClass "ManyEyesModel" = some m.cls := findClass_of_methodNamed B.named
  have hlocks := B.notSynchronized
  subst hsz
  have hD := hD0.self (sz := s.heap.size)
  generalize hAe : va_A (WS_X12_rule cI cJ cZ cY a0 a0_a a0_image a0_texts a0_board a0_taken a0_fars a0_before a0_tape a0_pile a0_rows a0_told a0_values a0_truth a0_keeps v0) s.heap.size = A at hD hT ⊢
  have hA : ∀ q : Nat, s.heap.size ≤ q → A q := fun q h => by rw [← hAe]; exact Or.inr h
  have hS : va_S A s.heap s.heap [] := va_S.rf
  have hl := lv_entry ([.ref a0]) (n := 1) (Nat.le_of_ble_eq_true rfl)
  have he : entryFrame m args 1 = F0 m 0 (lg_sl ([.ref a0]) ++ List.replicate (1 - (lg_sl ([.ref a0])).length) Slot.unset).toArray [] := by rw [hargs, lg_entry_eq]
  rw [he]
  generalize (lg_sl ([.ref a0]) ++ List.replicate (1 - (lg_sl ([.ref a0])).length) Slot.unset).toArray = ls at hl ⊢
  have hl : lv_has ls 1 [(0, .ref a0)] := hl
  show W p l e rm_X12_rule s m args below meth c s.heap [] 0 0 _ _
  refine W.genQ (fun Q hQ => ?_)
  have b_37 : ∀ (t1 : Int32) (v0 : BX12) (H : Heap) (locs : List Loc) (ls : Array Slot), va_P D vwCl (WS_X12_rule cI cJ cZ cY a0 a0_a a0_image a0_texts a0_board a0_taken a0_fars a0_before a0_tape a0_pile a0_rows a0_told a0_values a0_truth a0_keeps v0) H → va_D A (WS_X12_rule cI cJ cZ cY a0 a0_a a0_image a0_texts a0_board a0_taken a0_fars a0_before a0_tape a0_pile a0_rows a0_told a0_values a0_truth a0_keeps v0) → va_S A s.heap H locs → lv_has ls 1 [(0, .ref a0)] → f_X12_rule_b37 t1 v0 = some res → W p l e rm_X12_rule s m args below meth c H locs 0 0 Q (F0 m 37 ls [.int t1, .ref a0]) := by
    intro t1 v0 H locs ls hP hD hS hl hg
    unfold f_X12_rule_b37 at hg
    refine va_put (ci := 11) (v := .int t1) (ty := .int) (C := RX12) (T := TX12) (N := 43) hx hb htb uX12 tyX12 tyX12_ok nmX12 hown hK.1 hP hD hS 0 rfl rfl 12 (by decide) (htb _ tg_948) (fun _ h9 => h9) rfl (by decide +kernel) rfl rfl (Nat.le_of_ble_eq_true rfl) dX12_rule_37 (fun H locs hP hD hS => ?_)
    obtain ⟨v0_1, ev0_1⟩ : ∃ z, z = sX12_faultPlace v0 t1 := ⟨_, rfl⟩
    have hP : va_P D vwCl (WS_X12_rule cI cJ cZ cY a0 a0_a a0_image a0_texts a0_board a0_taken a0_fars a0_before a0_tape a0_pile a0_rows a0_told a0_values a0_truth a0_keeps v0_1) H := by rw [ev0_1]; exact hP
    have hD : va_D A (WS_X12_rule cI cJ cZ cY a0 a0_a a0_image a0_texts a0_board a0_taken a0_fars a0_before a0_tape a0_pile a0_rows a0_told a0_values a0_truth a0_keeps v0_1) := by rw [ev0_1]; exact hD
    have hg := g_lte hg v0_1 ev0_1
    refine lv_aload_n hx hb dX12_rule_40 rfl (lv_at hl 0 rfl) ?_
    refine lv_iconst (v := 0) hx hb dX12_rule_41 (by decide) ?_
    refine va_put (ci := 11) (v := .int 0) (ty := .int) (C := RX12) (T := TX12) (N := 43) hx hb htb uX12 tyX12 tyX12_ok nmX12 hown hK.1 hP hD hS 0 rfl rfl 10 (by decide) (htb _ tg_946) (fun _ h9 => h9) rfl (by decide +kernel) rfl rfl (Nat.le_of_ble_eq_true rfl) dX12_rule_42 (fun H locs hP hD hS => ?_)
    obtain ⟨v0_2, ev0_2⟩ : ∃ z, z = sX12_taped v0_1 0 := ⟨_, rfl⟩
    have hP : va_P D vwCl (WS_X12_rule cI cJ cZ cY a0 a0_a a0_image a0_texts a0_board a0_taken a0_fars a0_before a0_tape a0_pile a0_rows a0_told a0_values a0_truth a0_keeps v0_2) H := by rw [ev0_2]; exact hP
    have hD : va_D A (WS_X12_rule cI cJ cZ cY a0 a0_a a0_image a0_texts a0_board a0_taken a0_fars a0_before a0_tape a0_pile a0_rows a0_told a0_values a0_truth a0_keeps v0_2) := by rw [ev0_2]; exact hD
    have hg := g_lte hg v0_2 ev0_2
    refine lv_aload_n hx hb dX12_rule_45 rfl (lv_at hl 0 rfl) ?_
    refine va_get (ci := 11) (v := .int (pX12_fault v0_2)) (C := RX12) (T := TX12) (N := 43) hx hb htb uX12 hown hK.1 hP 0 rfl rfl 11 (by decide) (htb _ tg_947) (fun _ h9 => h9) rfl dX12_rule_46 ?_
    refine lv_if_eq (tgt := 54) hx hb dX12_rule_49 (by decide) (fun c_3 => ?_) (fun c_3 => ?_)
    · have hg := g_it hg c_3
      refine lv_aload_n hx hb dX12_rule_54 rfl (lv_at hl 0 rfl) ?_
      refine va_get (ci := 11) (v := .ref a0_texts) (C := RX12) (T := TX12) (N := 43) hx hb htb uX12 hown hK.1 hP 0 rfl rfl 4 (by decide) (htb _ tg_940) (fun _ h9 => h9) rfl dX12_rule_55 ?_
      refine lv_aload_n hx hb dX12_rule_58 rfl (lv_at hl 0 rfl) ?_
      refine va_get (ci := 11) (v := .int (pX12_text0 v0_2)) (C := RX12) (T := TX12) (N := 43) hx hb htb uX12 hown hK.1 hP 0 rfl rfl 18 (by decide) (htb _ tg_954) (fun _ h9 => h9) rfl dX12_rule_59 ?_
      refine lv_aload_n hx hb dX12_rule_62 rfl (lv_at hl 0 rfl) ?_
      refine va_get (ci := 11) (v := .int (pX12_clauses v0_2)) (C := RX12) (T := TX12) (N := 43) hx hb htb uX12 hown hK.1 hP 0 rfl rfl 19 (by decide) (htb _ tg_955) (fun _ h9 => h9) rfl dX12_rule_63 ?_
      refine lv_topi (fun x_4 ex_4 => ?_)
      have hg := g_lte hg x_4 ex_4
      obtain ⟨h_5, hg⟩ := g_gde hg
      refine va_iast hx hb hK.1 hP hD hS 3 0 rfl rfl (inB_vp h_5) dX12_rule_66 (fun H locs hP hD hS => ?_)
      obtain ⟨v0_6, ev0_6⟩ : ∃ z, z = sX12_texts v0_2 (upd (pX12_texts v0_2) ((pX12_text0 v0_2) : Int32).toNatClampNeg x_4) := ⟨_, rfl⟩
      have hP : va_P D vwCl (WS_X12_rule cI cJ cZ cY a0 a0_a a0_image a0_texts a0_board a0_taken a0_fars a0_before a0_tape a0_pile a0_rows a0_told a0_values a0_truth a0_keeps v0_6) H := by rw [ev0_6]; exact hP
      have hD : va_D A (WS_X12_rule cI cJ cZ cY a0 a0_a a0_image a0_texts a0_board a0_taken a0_fars a0_before a0_tape a0_pile a0_rows a0_told a0_values a0_truth a0_keeps v0_6) := by rw [ev0_6]; exact hD
      have hg := g_lte hg v0_6 ev0_6
      refine lv_aload_n hx hb dX12_rule_67 rfl (lv_at hl 0 rfl) ?_
      refine va_get (ci := 11) (v := .ref a0_a) (C := RX12) (T := TX12) (N := 43) hx hb htb uX12 hown hK.1 hP 0 rfl rfl 2 (by decide) (htb _ tg_938) (fun _ h9 => h9) rfl dX12_rule_68 ?_
      refine lv_iconst (v := 3) hx hb dX12_rule_71 (by decide) ?_
      refine lv_dup2_11 hx hb dX12_rule_72 rfl rfl ?_
      obtain ⟨h_7, hg⟩ := g_gde hg
      refine va_iald hx hb hK.1 hP 1 0 rfl rfl (inB_vp h_7) dX12_rule_73 ?_
      refine lv_iconst (v := 1) hx hb dX12_rule_74 (by decide) ?_
      refine lv_iadd hx hb dX12_rule_75 ?_
      refine lv_topi (fun x_8 ex_8 => ?_)
      have hg := g_lte hg x_8 ex_8
      obtain ⟨h_9, hg⟩ := g_gde hg
      refine va_iast hx hb hK.1 hP hD hS 1 0 rfl rfl (inB_vp h_9) dX12_rule_76 (fun H locs hP hD hS => ?_)
      obtain ⟨v0_10, ev0_10⟩ : ∃ z, z = sX12_a v0_6 (upd (pX12_a v0_6) (3 : Int32).toNatClampNeg x_8) := ⟨_, rfl⟩
      have hP : va_P D vwCl (WS_X12_rule cI cJ cZ cY a0 a0_a a0_image a0_texts a0_board a0_taken a0_fars a0_before a0_tape a0_pile a0_rows a0_told a0_values a0_truth a0_keeps v0_10) H := by rw [ev0_10]; exact hP
      have hD : va_D A (WS_X12_rule cI cJ cZ cY a0 a0_a a0_image a0_texts a0_board a0_taken a0_fars a0_before a0_tape a0_pile a0_rows a0_told a0_values a0_truth a0_keeps v0_10) := by rw [ev0_10]; exact hD
      have hg := g_lte hg v0_10 ev0_10
      refine lv_aload_n hx hb dX12_rule_77 rfl (lv_at hl 0 rfl) ?_
      refine va_get (ci := 11) (v := .ref a0_a) (C := RX12) (T := TX12) (N := 43) hx hb htb uX12 hown hK.1 hP 0 rfl rfl 2 (by decide) (htb _ tg_938) (fun _ h9 => h9) rfl dX12_rule_78 ?_
      refine lv_iconst (v := 3) hx hb dX12_rule_81 (by decide) ?_
      obtain ⟨h_11, hg⟩ := g_gde hg
      refine va_iald hx hb hK.1 hP 1 0 rfl rfl (inB_vp h_11) dX12_rule_82 ?_
      refine lv_iconst (v := 1) hx hb dX12_rule_83 (by decide) ?_
      refine lv_isub hx hb dX12_rule_84 ?_
      have hg := Option.some.inj hg
      rw [hQ]
      exact W.iret (v := (((pX12_a v0_10) (3 : Int32).toNatClampNeg) - 1)) hx hb hr (fun t ht hW => ⟨⟨(((pX12_a v0_10) (3 : Int32).toNatClampNeg) - 1), (v0_10), rfl, ⟨by rw [← hg], by rw [← hg]⟩, by rw [ht]; exact hP, hD⟩, hS.F ht⟩) hS.2.2 dX12_rule_85
    · have hg := g_if hg c_3
      refine lv_iconst (v := (-1)) hx hb dX12_rule_52 (by decide) ?_
      have hg := Option.some.inj hg
      rw [hQ]
      exact W.iret (v := (-1)) hx hb hr (fun t ht hW => ⟨⟨(-1), (v0_2), rfl, ⟨by rw [← hg], by rw [← hg]⟩, by rw [ht]; exact hP, hD⟩, hS.F ht⟩) hS.2.2 dX12_rule_53
  generalize hHe : s.heap = H at hP ⊢
  have hS : va_S A s.heap H [] := by rw [← hHe]; exact va_S.rf
  generalize ([] : List Loc) = locs at hS ⊢
  unfold f_X12_rule at hg
  refine lv_aload_n hx hb dX12_rule_0 rfl (lv_at hl 0 rfl) ?_
  refine va_get (ci := 11) (v := .ref a0_a) (C := RX12) (T := TX12) (N := 43) hx hb htb uX12 hown hK.1 hP 0 rfl rfl 2 (by decide) (htb _ tg_938) (fun _ h9 => h9) rfl dX12_rule_1 ?_
  refine lv_iconst (v := 3) hx hb dX12_rule_4 (by decide) ?_
  obtain ⟨h_12, hg⟩ := g_gde hg
  refine va_iald hx hb hK.1 hP 1 0 rfl rfl (inB_vp h_12) dX12_rule_5 ?_
  refine lv_bipush (v := 8) hx hb dX12_rule_6 (by decide) ?_
  refine lv_icmp_ne (tgt := 13) hx hb dX12_rule_8 (by decide) (fun c_13 => ?_) (fun c_13 => ?_)
  · have hg := g_if hg c_13
    refine lv_aload_n hx hb dX12_rule_13 rfl (lv_at hl 0 rfl) ?_
    refine lv_aload_n hx hb dX12_rule_14 rfl (lv_at hl 0 rfl) ?_
    obtain ⟨r_14, hr_14, hg⟩ := g_bd hg
    refine cc_i (va_runV (C := RX12) (As := []) (rest := [.ref a0]) ⟨hx, hb, hml, hown, htb⟩ (k_X12_readText a0 a0_a a0_image a0_texts a0_board a0_taken a0_fars a0_before a0_tape a0_pile a0_rows a0_told a0_values a0_truth a0_keeps v0 r_14 hr_14) (cw_V 0 htb tg_1200 tg_13 tg_1197 tg_1199 ts_41 rfl rfl (by decide +kernel) ⟨Nat.le_of_ble_eq_true rfl, Nat.le_of_ble_eq_true rfl⟩) ⟨PC.blind, va_recv hK.1 hP (ci := 11) (q0 := 0) rfl rfl, PC.pre hK hT hP hD hS hA [0, 1, 2, 3, 4, 5, 6, 7, 8, 9, 10, 11, 12, 13, 14] rfl (by decide)⟩ rfl rfl hl.1 rfl (lv_room (Nat.le_of_ble_eq_true rfl)) dX12_rule_15 ⟨Nat.le_of_ble_eq_true rfl, Nat.le_of_ble_eq_true rfl⟩) hP hD hS hA [0, 1, 2, 3, 4, 5, 6, 7, 8, 9, 10, 11, 12, 13, 14] [] rfl rfl (by decide) (by decide) (fun r9 u9 H locs hw hP hD hS => ?_)
    obtain ⟨rfl, rfl⟩ := hw
    have hP : va_P D vwCl (WS_X12_rule cI cJ cZ cY a0 a0_a a0_image a0_texts a0_board a0_taken a0_fars a0_before a0_tape a0_pile a0_rows a0_told a0_values a0_truth a0_keeps r_14.2) H := hP.sub [0, 1, 2, 3, 4, 5, 6, 7, 8, 9, 10, 11, 12, 13, 14] rfl
    have hD : va_D A (WS_X12_rule cI cJ cZ cY a0 a0_a a0_image a0_texts a0_board a0_taken a0_fars a0_before a0_tape a0_pile a0_rows a0_told a0_values a0_truth a0_keeps r_14.2) := hD.sub [0, 1, 2, 3, 4, 5, 6, 7, 8, 9, 10, 11, 12, 13, 14] (by decide) rfl
    refine va_put (ci := 11) (v := .int r_14.1) (ty := .int) (C := RX12) (T := TX12) (N := 43) hx hb htb uX12 tyX12 tyX12_ok nmX12 hown hK.1 hP hD hS 0 rfl rfl 11 (by decide) (htb _ tg_947) (fun _ h9 => h9) rfl (by decide +kernel) rfl rfl (Nat.le_of_ble_eq_true rfl) dX12_rule_18 (fun H locs hP hD hS => ?_)
    obtain ⟨v0_15, ev0_15⟩ : ∃ z, z = sX12_fault r_14.2 r_14.1 := ⟨_, rfl⟩
    have hP : va_P D vwCl (WS_X12_rule cI cJ cZ cY a0 a0_a a0_image a0_texts a0_board a0_taken a0_fars a0_before a0_tape a0_pile a0_rows a0_told a0_values a0_truth a0_keeps v0_15) H := by rw [ev0_15]; exact hP
    have hD : va_D A (WS_X12_rule cI cJ cZ cY a0 a0_a a0_image a0_texts a0_board a0_taken a0_fars a0_before a0_tape a0_pile a0_rows a0_told a0_values a0_truth a0_keeps v0_15) := by rw [ev0_15]; exact hD
    have hg := g_lte hg v0_15 ev0_15
    refine lv_aload_n hx hb dX12_rule_21 rfl (lv_at hl 0 rfl) ?_
    refine lv_aload_n hx hb dX12_rule_22 rfl (lv_at hl 0 rfl) ?_
    refine va_get (ci := 11) (v := .int (pX12_fault v0_15)) (C := RX12) (T := TX12) (N := 43) hx hb htb uX12 hown hK.1 hP 0 rfl rfl 11 (by decide) (htb _ tg_947) (fun _ h9 => h9) rfl dX12_rule_23 ?_
    refine lv_if_ne (tgt := 33) hx hb dX12_rule_26 (by decide) (fun c_16 => ?_) (fun c_16 => ?_)
    · have hg := g_if hg c_16
      refine lv_aload_n hx hb dX12_rule_33 rfl (lv_at hl 0 rfl) ?_
      refine va_get (ci := 11) (v := .int (pX12_place v0_15)) (C := RX12) (T := TX12) (N := 43) hx hb htb uX12 hown hK.1 hP 0 rfl rfl 14 (by decide) (htb _ tg_950) (fun _ h9 => h9) rfl dX12_rule_34 ?_
      exact b_37 (pX12_place v0_15) v0_15 H locs ls hP hD hS (lv_sub hl [0] rfl) hg
    · have hg := g_it hg c_16
      refine lv_iconst (v := (-1)) hx hb dX12_rule_29 (by decide) ?_
      refine lv_goto (tgt := 37) hx hb dX12_rule_30 (by decide) ?_
      exact b_37 (-1) v0_15 H locs ls hP hD hS (lv_sub hl [0] rfl) hg
  · have hg := g_it hg c_13
    refine lv_iconst (v := (-1)) hx hb dX12_rule_11 (by decide) ?_
    have hg := Option.some.inj hg
    rw [hQ]
    exact W.iret (v := (-1)) hx hb hr (fun t ht hW => ⟨⟨(-1), (v0), rfl, ⟨by rw [← hg], by rw [← hg]⟩, by rw [ht]; exact hP, hD⟩, hS.F ht⟩) hS.2.2 dX12_rule_12
