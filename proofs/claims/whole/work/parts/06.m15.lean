/-! ManyEyesModel.unlike(III)I -/
def WS_X12_unlike (cI cJ cZ cY : ClassId) (a0 a0_a a0_image a0_texts a0_board a0_taken a0_fars a0_before a0_tape a0_pile a0_rows a0_told a0_values a0_truth a0_keeps : Nat) (v0 : BX12) : va_W := (GX12 cI cJ cZ cY a0 a0_a a0_image a0_texts a0_board a0_taken a0_fars a0_before a0_tape a0_pile a0_rows a0_told a0_values a0_truth a0_keeps v0)
def f_X12_unlike_b90 (J9 : (Int32 × Int32 × Int32 × Int32 × Int32 × Int32 × BX12) → Option (Int32 × BX12)) (x1 : Int32) (x2 : Int32) (x3 : Int32) (x4 : Int32) (x5 : Int32) (x6 : Int32) (v0 : BX12) : Option (Int32 × BX12) := g_lt (x6 + 1 : Int32) (fun x6_1 => J9 (x1, x2, x3, x4, x5, x6_1, v0))
def f_X12_unlike_b78 (J9 : (Int32 × Int32 × Int32 × Int32 × Int32 × Int32 × BX12) → Option (Int32 × BX12)) (x1 : Int32) (x2 : Int32) (x3 : Int32) (x4 : Int32) (x5 : Int32) (x6 : Int32) (x7 : Int32) (v0 : BX12) : Option (Int32 × BX12) := g_lt ((x4 ||| ((1 : Int32) <<< ((x7 + 8) &&& 31))) : Int32) (fun x4_2 => f_X12_unlike_b90 J9 x1 x2 x3 x4_2 x5 x6 v0)
def f_X12_unlike_b60 (J9 : (Int32 × Int32 × Int32 × Int32 × Int32 × Int32 × BX12) → Option (Int32 × BX12)) (x1 : Int32) (x2 : Int32) (x3 : Int32) (x4 : Int32) (x5 : Int32) (x6 : Int32) (t0 : Int32) (v0 : BX12) : Option (Int32 × BX12) := if (((x4 >>> ((t0 + 8) &&& 31)) &&& 1) : Int32) = 0 then (g_lt (x5 + 1 : Int32) (fun x5_4 => f_X12_unlike_b78 J9 x1 x2 x3 x4 x5_4 x6 t0 v0)) else (f_X12_unlike_b78 J9 x1 x2 x3 x4 x5 x6 t0 v0)
def f_X12_unlike_b9B (J9 : Int32 × Int32 × Int32 × Int32 × Int32 × Int32 × BX12 → Option (Int32 × BX12)) (x1 : Int32) (x2 : Int32) (x3 : Int32) (x4 : Int32) (x5 : Int32) (x6 : Int32) (v0 : BX12) : Option (Int32 × BX12) := g_gd (inB 3 3170) (if (((pX12_a v0) (3 : Int32).toNatClampNeg) : Int32) ≤ x6 then (some (x5, v0)) else (g_gd (inB x6 8) (if (((pX12_keeps v0) (x6 : Int32).toNatClampNeg) : Int32) = 0 then (f_X12_unlike_b90 J9 x1 x2 x3 x4 x5 x6 v0) else ((f_X12_run v0 x6 x1 x2 x3 1).bind (fun r_9 => if ((pX12_rested r_9) : Int32) = 0 then (g_gd (inB 0 2280) (f_X12_unlike_b60 J9 x1 x2 x3 x4 x5 x6 ((pX12_rows r_9) (0 : Int32).toNatClampNeg) r_9)) else (f_X12_unlike_b60 J9 x1 x2 x3 x4 x5 x6 0 r_9))))))
def f_X12_unlike_b9 : Nat → (Int32 × Int32 × Int32 × Int32 × Int32 × Int32 × BX12) → Option (Int32 × BX12) := g_lp (fun J z => f_X12_unlike_b9B J z.1 z.2.1 z.2.2.1 z.2.2.2.1 z.2.2.2.2.1 z.2.2.2.2.2.1 z.2.2.2.2.2.2)
def f_X12_unlike (v0 : BX12) (p0 : Int32) (p1 : Int32) (p2 : Int32) : Option (Int32 × BX12) := f_X12_unlike_b9 fU (p0, p1, p2, 0, 0, 0, v0)
abbrev rm_X12_unlike : Room := { frames := 6, cells := 0, slots := 0, locals := 142 }
set_option maxHeartbeats 4000000 in
set_option maxRecDepth 100000 in
theorem k_X12_unlike {l : Launch} {D : va_G} {cI cJ cZ cY : ClassId} {tX tY : Nat} {sz : Nat} (a0 a0_a a0_image a0_texts a0_board a0_taken a0_fars a0_before a0_tape a0_pile a0_rows a0_told a0_values a0_truth a0_keeps : Nat) (v0 : BX12) (p0 : Int32) (p1 : Int32) (p2 : Int32) (res : Int32 × BX12) (hg : f_X12_unlike v0 p0 p1 p2 = some res) : Met l yX12_unlike (Cond.code yX12_unlike cX12_unlike 8 (some .int) :: TB) rm_X12_unlike (PC D cI cJ cZ cY tX tY [.ref a0, .int p0, .int p1, .int p2] (WS_X12_unlike cI cJ cZ cY a0 a0_a a0_image a0_texts a0_board a0_taken a0_fars a0_before a0_tape a0_pile a0_rows a0_told a0_values a0_truth a0_keeps v0) sz) (va_Qi (fun (r : Int32) (u : BX12) => r = res.1 ∧ u = res.2) (BC D (fun u : BX12 => WS_X12_unlike cI cJ cZ cY a0 a0_a a0_image a0_texts a0_board a0_taken a0_fars a0_before a0_tape a0_pile a0_rows a0_told a0_values a0_truth a0_keeps u) (va_A (WS_X12_unlike cI cJ cZ cY a0 a0_a a0_image a0_texts a0_board a0_taken a0_fars a0_before a0_tape a0_pile a0_rows a0_told a0_values a0_truth a0_keeps v0) sz)) (va_A (WS_X12_unlike cI cJ cZ cY a0 a0_a a0_image a0_texts a0_board a0_taken a0_fars a0_before a0_tape a0_pile a0_rows a0_told a0_values a0_truth a0_keeps v0) sz)) 0 0 (va_A (WS_X12_unlike cI cJ cZ cY a0 a0_a a0_image a0_texts a0_board a0_taken a0_fars a0_before a0_tape a0_pile a0_rows a0_told a0_values a0_truth a0_keeps v0) sz) := by
  refine Met.ofW (cc := cX12_unlike) (maxL := 8) (ret := (some .int)) (by decide) rfl ?_
  intro p e s m args below meth c s₁ B hml hv
  obtain ⟨hargs, hsz, hP, hK, hD0, hT⟩ := hv
  have hx := B.exec
  have hb := B.bytes
  have hr := B.returns
  have htb : ∀ w ∈ TB, w.before args s = true := fun w h => atoms_spec (ws := Cond.code yX12_unlike cX12_unlike 8 (some .int) :: TB) B.pre w (List.mem_cons_of_mem _ h)
  have hown : s.vm.findClass "ManyEyesModel" = some m.cls := findClass_of_methodNamed B.named
  have hlocks := B.notSynchronized
  subst hsz
  have hD := hD0.self (sz := s.heap.size)
  generalize hAe : va_A (WS_X12_unlike cI cJ cZ cY a0 a0_a a0_image a0_texts a0_board a0_taken a0_fars a0_before a0_tape a0_pile a0_rows a0_told a0_values a0_truth a0_keeps v0) s.heap.size = A at hD hT ⊢
  have hA : ∀ q : Nat, s.heap.size ≤ q → A q := fun q h => by rw [← hAe]; exact Or.inr h
  have hS : va_S A s.heap s.heap [] := va_S.rf
  have hl := lv_entry ([.ref a0, .int p0, .int p1, .int p2]) (n := 8) (Nat.le_of_ble_eq_true rfl)
  have he : entryFrame m args 8 = F0 m 0 (lg_sl ([.ref a0, .int p0, .int p1, .int p2]) ++ List.replicate (8 - (lg_sl ([.ref a0, .int p0, .int p1, .int p2])).length) Slot.unset).toArray [] := by rw [hargs, lg_entry_eq]
  rw [he]
  generalize (lg_sl ([.ref a0, .int p0, .int p1, .int p2]) ++ List.replicate (8 - (lg_sl ([.ref a0, .int p0, .int p1, .int p2])).length) Slot.unset).toArray = ls at hl ⊢
  have hl : lv_has ls 8 [(0, .ref a0), (1, .int p0), (2, .int p1), (3, .int p2)] := hl
  show W p l e rm_X12_unlike s m args below meth c s.heap [] 0 0 _ _
  refine W.genQ (fun Q hQ => ?_)
  have b_90 : ∀ (J9 : (Int32 × Int32 × Int32 × Int32 × Int32 × Int32 × BX12) → Option (Int32 × BX12)) (hJ9 : ∀ (x1 : Int32) (x2 : Int32) (x3 : Int32) (x4 : Int32) (x5 : Int32) (x6 : Int32) (v0 : BX12) (H : Heap) (locs : List Loc) (ls : Array Slot), va_P D vwCl (WS_X12_unlike cI cJ cZ cY a0 a0_a a0_image a0_texts a0_board a0_taken a0_fars a0_before a0_tape a0_pile a0_rows a0_told a0_values a0_truth a0_keeps v0) H → va_D A (WS_X12_unlike cI cJ cZ cY a0 a0_a a0_image a0_texts a0_board a0_taken a0_fars a0_before a0_tape a0_pile a0_rows a0_told a0_values a0_truth a0_keeps v0) → va_S A s.heap H locs → lv_has ls 8 [(0, .ref a0), (1, .int x1), (2, .int x2), (3, .int x3), (4, .int x4), (5, .int x5), (6, .int x6)] → J9 (x1, x2, x3, x4, x5, x6, v0) = some res → W p l e rm_X12_unlike s m args below meth c H locs 0 0 Q (F0 m 9 ls [])), ∀ (x1 : Int32) (x2 : Int32) (x3 : Int32) (x4 : Int32) (x5 : Int32) (x6 : Int32) (v0 : BX12) (H : Heap) (locs : List Loc) (ls : Array Slot), va_P D vwCl (WS_X12_unlike cI cJ cZ cY a0 a0_a a0_image a0_texts a0_board a0_taken a0_fars a0_before a0_tape a0_pile a0_rows a0_told a0_values a0_truth a0_keeps v0) H → va_D A (WS_X12_unlike cI cJ cZ cY a0 a0_a a0_image a0_texts a0_board a0_taken a0_fars a0_before a0_tape a0_pile a0_rows a0_told a0_values a0_truth a0_keeps v0) → va_S A s.heap H locs → lv_has ls 8 [(0, .ref a0), (1, .int x1), (2, .int x2), (3, .int x3), (4, .int x4), (5, .int x5), (6, .int x6)] → f_X12_unlike_b90 J9 x1 x2 x3 x4 x5 x6 v0 = some res → W p l e rm_X12_unlike s m args below meth c H locs 0 0 Q (F0 m 90 ls []) := by
    intro J9 hJ9 x1 x2 x3 x4 x5 x6 v0 H locs ls hP hD hS hl hg
    unfold f_X12_unlike_b90 at hg
    obtain ⟨x6_1, ex6_1⟩ : ∃ z : Int32, z = x6 + 1 := ⟨_, rfl⟩
    have hg := g_lte hg x6_1 ex6_1
    refine lv_iinc (v := x6_1) (lv' := [(6, .int x6_1), (0, .ref a0), (1, .int x1), (2, .int x2), (3, .int x3), (4, .int x4), (5, .int x5)]) hx hb dX12_unlike_90 hl (k := 6) rfl (by rw [ex6_1]; rfl) (by decide) rfl (fun ls hl => ?_)
    refine lv_goto (tgt := 9) hx hb dX12_unlike_93 (by decide) ?_
    exact hJ9 x1 x2 x3 x4 x5 x6_1 v0 H locs ls hP hD hS (lv_sub hl [1, 2, 3, 4, 5, 6, 0] rfl) hg
  have b_78 : ∀ (J9 : (Int32 × Int32 × Int32 × Int32 × Int32 × Int32 × BX12) → Option (Int32 × BX12)) (hJ9 : ∀ (x1 : Int32) (x2 : Int32) (x3 : Int32) (x4 : Int32) (x5 : Int32) (x6 : Int32) (v0 : BX12) (H : Heap) (locs : List Loc) (ls : Array Slot), va_P D vwCl (WS_X12_unlike cI cJ cZ cY a0 a0_a a0_image a0_texts a0_board a0_taken a0_fars a0_before a0_tape a0_pile a0_rows a0_told a0_values a0_truth a0_keeps v0) H → va_D A (WS_X12_unlike cI cJ cZ cY a0 a0_a a0_image a0_texts a0_board a0_taken a0_fars a0_before a0_tape a0_pile a0_rows a0_told a0_values a0_truth a0_keeps v0) → va_S A s.heap H locs → lv_has ls 8 [(0, .ref a0), (1, .int x1), (2, .int x2), (3, .int x3), (4, .int x4), (5, .int x5), (6, .int x6)] → J9 (x1, x2, x3, x4, x5, x6, v0) = some res → W p l e rm_X12_unlike s m args below meth c H locs 0 0 Q (F0 m 9 ls [])), ∀ (x1 : Int32) (x2 : Int32) (x3 : Int32) (x4 : Int32) (x5 : Int32) (x6 : Int32) (x7 : Int32) (v0 : BX12) (H : Heap) (locs : List Loc) (ls : Array Slot), va_P D vwCl (WS_X12_unlike cI cJ cZ cY a0 a0_a a0_image a0_texts a0_board a0_taken a0_fars a0_before a0_tape a0_pile a0_rows a0_told a0_values a0_truth a0_keeps v0) H → va_D A (WS_X12_unlike cI cJ cZ cY a0 a0_a a0_image a0_texts a0_board a0_taken a0_fars a0_before a0_tape a0_pile a0_rows a0_told a0_values a0_truth a0_keeps v0) → va_S A s.heap H locs → lv_has ls 8 [(0, .ref a0), (1, .int x1), (2, .int x2), (3, .int x3), (4, .int x4), (5, .int x5), (6, .int x6), (7, .int x7)] → f_X12_unlike_b78 J9 x1 x2 x3 x4 x5 x6 x7 v0 = some res → W p l e rm_X12_unlike s m args below meth c H locs 0 0 Q (F0 m 78 ls []) := by
    intro J9 hJ9 x1 x2 x3 x4 x5 x6 x7 v0 H locs ls hP hD hS hl hg
    unfold f_X12_unlike_b78 at hg
    refine lv_iload hx hb dX12_unlike_78 (lv_at hl 4 rfl) ?_
    refine lv_iconst (v := 1) hx hb dX12_unlike_80 (by decide) ?_
    refine lv_iload hx hb dX12_unlike_81 (lv_at hl 7 rfl) ?_
    refine lv_bipush (v := 8) hx hb dX12_unlike_83 (by decide) ?_
    refine lv_iadd hx hb dX12_unlike_85 ?_
    refine lv_ishl hx hb dX12_unlike_86 ?_
    refine lv_ior hx hb dX12_unlike_87 ?_
    refine lv_topi (fun x4_2 ex4_2 => ?_)
    have hg := g_lte hg x4_2 ex4_2
    refine lv_istore (lv' := [(4, .int x4_2), (0, .ref a0), (1, .int x1), (2, .int x2), (3, .int x3), (5, .int x5), (6, .int x6), (7, .int x7)]) hx hb dX12_unlike_88 hl (by decide) rfl (fun ls hl => ?_)
    exact b_90 J9 hJ9 x1 x2 x3 x4_2 x5 x6 v0 H locs ls hP hD hS (lv_sub hl [1, 2, 3, 4, 0, 5, 6] rfl) hg
  have b_60 : ∀ (J9 : (Int32 × Int32 × Int32 × Int32 × Int32 × Int32 × BX12) → Option (Int32 × BX12)) (hJ9 : ∀ (x1 : Int32) (x2 : Int32) (x3 : Int32) (x4 : Int32) (x5 : Int32) (x6 : Int32) (v0 : BX12) (H : Heap) (locs : List Loc) (ls : Array Slot), va_P D vwCl (WS_X12_unlike cI cJ cZ cY a0 a0_a a0_image a0_texts a0_board a0_taken a0_fars a0_before a0_tape a0_pile a0_rows a0_told a0_values a0_truth a0_keeps v0) H → va_D A (WS_X12_unlike cI cJ cZ cY a0 a0_a a0_image a0_texts a0_board a0_taken a0_fars a0_before a0_tape a0_pile a0_rows a0_told a0_values a0_truth a0_keeps v0) → va_S A s.heap H locs → lv_has ls 8 [(0, .ref a0), (1, .int x1), (2, .int x2), (3, .int x3), (4, .int x4), (5, .int x5), (6, .int x6)] → J9 (x1, x2, x3, x4, x5, x6, v0) = some res → W p l e rm_X12_unlike s m args below meth c H locs 0 0 Q (F0 m 9 ls [])), ∀ (x1 : Int32) (x2 : Int32) (x3 : Int32) (x4 : Int32) (x5 : Int32) (x6 : Int32) (t0 : Int32) (v0 : BX12) (H : Heap) (locs : List Loc) (ls : Array Slot), va_P D vwCl (WS_X12_unlike cI cJ cZ cY a0 a0_a a0_image a0_texts a0_board a0_taken a0_fars a0_before a0_tape a0_pile a0_rows a0_told a0_values a0_truth a0_keeps v0) H → va_D A (WS_X12_unlike cI cJ cZ cY a0 a0_a a0_image a0_texts a0_board a0_taken a0_fars a0_before a0_tape a0_pile a0_rows a0_told a0_values a0_truth a0_keeps v0) → va_S A s.heap H locs → lv_has ls 8 [(0, .ref a0), (1, .int x1), (2, .int x2), (3, .int x3), (4, .int x4), (5, .int x5), (6, .int x6)] → f_X12_unlike_b60 J9 x1 x2 x3 x4 x5 x6 t0 v0 = some res → W p l e rm_X12_unlike s m args below meth c H locs 0 0 Q (F0 m 60 ls [.int t0]) := by
    intro J9 hJ9 x1 x2 x3 x4 x5 x6 t0 v0 H locs ls hP hD hS hl hg
    unfold f_X12_unlike_b60 at hg
    refine lv_istore (lv' := [(7, .int t0), (0, .ref a0), (1, .int x1), (2, .int x2), (3, .int x3), (4, .int x4), (5, .int x5), (6, .int x6)]) hx hb dX12_unlike_60 hl (by decide) rfl (fun ls hl => ?_)
    refine lv_iload hx hb dX12_unlike_62 (lv_at hl 5 rfl) ?_
    refine lv_iload hx hb dX12_unlike_64 (lv_at hl 0 rfl) ?_
    refine lv_bipush (v := 8) hx hb dX12_unlike_66 (by decide) ?_
    refine lv_iadd hx hb dX12_unlike_68 ?_
    refine lv_ishr hx hb dX12_unlike_69 ?_
    refine lv_iconst (v := 1) hx hb dX12_unlike_70 (by decide) ?_
    refine lv_iand hx hb dX12_unlike_71 ?_
    refine lv_if_ne (tgt := 78) hx hb dX12_unlike_72 (by decide) (fun c_3 => ?_) (fun c_3 => ?_)
    · have hg := g_if hg c_3
      exact b_78 J9 hJ9 x1 x2 x3 x4 x5 x6 t0 v0 H locs ls hP hD hS (lv_sub hl [1, 2, 3, 4, 5, 6, 7, 0] rfl) hg
    · have hg := g_it hg c_3
      obtain ⟨x5_4, ex5_4⟩ : ∃ z : Int32, z = x5 + 1 := ⟨_, rfl⟩
      have hg := g_lte hg x5_4 ex5_4
      refine lv_iinc (v := x5_4) (lv' := [(5, .int x5_4), (7, .int t0), (0, .ref a0), (1, .int x1), (2, .int x2), (3, .int x3), (4, .int x4), (6, .int x6)]) hx hb dX12_unlike_75 hl (k := 6) rfl (by rw [ex5_4]; rfl) (by decide) rfl (fun ls hl => ?_)
      exact b_78 J9 hJ9 x1 x2 x3 x4 x5_4 x6 t0 v0 H locs ls hP hD hS (lv_sub hl [2, 3, 4, 5, 6, 0, 7, 1] rfl) hg
  have b_9 : ∀ (n : Nat), ∀ (x1 : Int32) (x2 : Int32) (x3 : Int32) (x4 : Int32) (x5 : Int32) (x6 : Int32) (v0 : BX12) (H : Heap) (locs : List Loc) (ls : Array Slot), va_P D vwCl (WS_X12_unlike cI cJ cZ cY a0 a0_a a0_image a0_texts a0_board a0_taken a0_fars a0_before a0_tape a0_pile a0_rows a0_told a0_values a0_truth a0_keeps v0) H → va_D A (WS_X12_unlike cI cJ cZ cY a0 a0_a a0_image a0_texts a0_board a0_taken a0_fars a0_before a0_tape a0_pile a0_rows a0_told a0_values a0_truth a0_keeps v0) → va_S A s.heap H locs → lv_has ls 8 [(0, .ref a0), (1, .int x1), (2, .int x2), (3, .int x3), (4, .int x4), (5, .int x5), (6, .int x6)] → f_X12_unlike_b9 n (x1, x2, x3, x4, x5, x6, v0) = some res → W p l e rm_X12_unlike s m args below meth c H locs 0 0 Q (F0 m 9 ls []) := by
    intro n
    induction n with
    | zero =>
      intro x1 x2 x3 x4 x5 x6 v0 H locs ls hP hD hS hl hg
      exact (g_lp0 hg).elim
    | succ n ih =>
      intro x1 x2 x3 x4 x5 x6 v0 H locs ls hP hD hS hl hg
      have hg : f_X12_unlike_b9B (f_X12_unlike_b9 n) x1 x2 x3 x4 x5 x6 v0 = some res := hg
      unfold f_X12_unlike_b9B at hg
      refine lv_iload hx hb dX12_unlike_9 (lv_at hl 6 rfl) ?_
      refine lv_aload_n hx hb dX12_unlike_11 rfl (lv_at hl 0 rfl) ?_
      refine va_get (ci := 11) (v := .ref a0_a) (C := RX12) (T := TX12) (N := 43) hx hb htb uX12 hown hK.1 hP 0 rfl rfl 2 (by decide) (htb _ tg_938) (fun _ h9 => h9) rfl dX12_unlike_12 ?_
      refine lv_iconst (v := 3) hx hb dX12_unlike_15 (by decide) ?_
      obtain ⟨h_5, hg⟩ := g_gde hg
      refine va_iald hx hb hK.1 hP 1 0 rfl rfl (inB_vp h_5) dX12_unlike_16 ?_
      refine lv_icmp_ge (tgt := 96) hx hb dX12_unlike_17 (by decide) (fun c_6 => ?_) (fun c_6 => ?_)
      · have hg := g_it hg c_6
        refine lv_iload hx hb dX12_unlike_96 (lv_at hl 5 rfl) ?_
        have hg := Option.some.inj hg
        rw [hQ]
        exact W.iret (v := x5) hx hb hr (fun t ht hW => ⟨⟨x5, (v0), rfl, ⟨by rw [← hg], by rw [← hg]⟩, by rw [ht]; exact hP, hD⟩, hS.F ht⟩) hS.2.2 dX12_unlike_98
      · have hg := g_if hg c_6
        refine lv_aload_n hx hb dX12_unlike_20 rfl (lv_at hl 0 rfl) ?_
        refine va_get (ci := 11) (v := .ref a0_keeps) (C := RX12) (T := TX12) (N := 43) hx hb htb uX12 hown hK.1 hP 0 rfl rfl 42 (by decide) (htb _ tg_978) (fun _ h9 => h9) rfl dX12_unlike_21 ?_
        refine lv_iload hx hb dX12_unlike_24 (lv_at hl 6 rfl) ?_
        obtain ⟨h_7, hg⟩ := g_gde hg
        refine va_zald hx hb hK.1 hP 14 2 rfl rfl (inB_vp h_7) dX12_unlike_26 ?_
        refine lv_if_ne (tgt := 33) hx hb dX12_unlike_27 (by decide) (fun c_8 => ?_) (fun c_8 => ?_)
        · have hg := g_if hg c_8
          refine lv_aload_n hx hb dX12_unlike_33 rfl (lv_at hl 0 rfl) ?_
          refine lv_iload hx hb dX12_unlike_34 (lv_at hl 6 rfl) ?_
          refine lv_iload_n hx hb dX12_unlike_36 rfl (lv_at hl 1 rfl) ?_
          refine lv_iload_n hx hb dX12_unlike_37 rfl (lv_at hl 2 rfl) ?_
          refine lv_iload_n hx hb dX12_unlike_38 rfl (lv_at hl 3 rfl) ?_
          refine lv_iconst (v := 1) hx hb dX12_unlike_39 (by decide) ?_
          obtain ⟨r_9, hr_9, hg⟩ := g_bd hg
          refine cc_v (va_runV (C := RX12) (As := [.int x6, .int x1, .int x2, .int x3, .int 1]) (rest := []) ⟨hx, hb, hml, hown, htb⟩ (k_X12_run a0 a0_a a0_image a0_texts a0_board a0_taken a0_fars a0_before a0_tape a0_pile a0_rows a0_told a0_values a0_truth a0_keeps v0 x6 x1 x2 x3 1 r_9 hr_9) (cw_V 5 htb tg_1314 tg_13 tg_1311 tg_1313 ts_63 rfl rfl (by decide +kernel) ⟨Nat.le_of_ble_eq_true rfl, Nat.le_of_ble_eq_true rfl⟩) ⟨PC.blind, va_recv hK.1 hP (ci := 11) (q0 := 0) rfl rfl, PC.pre hK hT hP hD hS hA [0, 1, 2, 3, 4, 5, 6, 7, 8, 9, 10, 11, 12, 13, 14] rfl (by decide)⟩ rfl rfl hl.1 rfl (lv_room (Nat.le_of_ble_eq_true rfl)) dX12_unlike_40 ⟨Nat.le_of_ble_eq_true rfl, Nat.le_of_ble_eq_true rfl⟩) hP hD hS hA [0, 1, 2, 3, 4, 5, 6, 7, 8, 9, 10, 11, 12, 13, 14] [] rfl rfl (by decide) (by decide) (fun u9 H locs hw hP hD hS => ?_)
          have hw := hw.symm
          subst hw
          have hP : va_P D vwCl (WS_X12_unlike cI cJ cZ cY a0 a0_a a0_image a0_texts a0_board a0_taken a0_fars a0_before a0_tape a0_pile a0_rows a0_told a0_values a0_truth a0_keeps r_9) H := hP.sub [0, 1, 2, 3, 4, 5, 6, 7, 8, 9, 10, 11, 12, 13, 14] rfl
          have hD : va_D A (WS_X12_unlike cI cJ cZ cY a0 a0_a a0_image a0_texts a0_board a0_taken a0_fars a0_before a0_tape a0_pile a0_rows a0_told a0_values a0_truth a0_keeps r_9) := hD.sub [0, 1, 2, 3, 4, 5, 6, 7, 8, 9, 10, 11, 12, 13, 14] (by decide) rfl
          refine lv_aload_n hx hb dX12_unlike_43 rfl (lv_at hl 0 rfl) ?_
          refine va_get (ci := 11) (v := .int (pX12_rested r_9)) (C := RX12) (T := TX12) (N := 43) hx hb htb uX12 hown hK.1 hP 0 rfl rfl 34 (by decide) (htb _ tg_970) (fun _ h9 => h9) rfl dX12_unlike_44 ?_
          refine lv_if_eq (tgt := 54) hx hb dX12_unlike_47 (by decide) (fun c_10 => ?_) (fun c_10 => ?_)
          · have hg := g_it hg c_10
            refine lv_aload_n hx hb dX12_unlike_54 rfl (lv_at hl 0 rfl) ?_
            refine va_get (ci := 11) (v := .ref a0_rows) (C := RX12) (T := TX12) (N := 43) hx hb htb uX12 hown hK.1 hP 0 rfl rfl 35 (by decide) (htb _ tg_971) (fun _ h9 => h9) rfl dX12_unlike_55 ?_
            refine lv_iconst (v := 0) hx hb dX12_unlike_58 (by decide) ?_
            obtain ⟨h_11, hg⟩ := g_gde hg
            refine va_iald hx hb hK.1 hP 10 0 rfl rfl (inB_vp h_11) dX12_unlike_59 ?_
            exact b_60 (f_X12_unlike_b9 n) ih x1 x2 x3 x4 x5 x6 ((pX12_rows r_9) (0 : Int32).toNatClampNeg) r_9 H locs ls hP hD hS (lv_sub hl [0, 1, 2, 3, 4, 5, 6] rfl) hg
          · have hg := g_if hg c_10
            refine lv_iconst (v := 0) hx hb dX12_unlike_50 (by decide) ?_
            refine lv_goto (tgt := 60) hx hb dX12_unlike_51 (by decide) ?_
            exact b_60 (f_X12_unlike_b9 n) ih x1 x2 x3 x4 x5 x6 0 r_9 H locs ls hP hD hS (lv_sub hl [0, 1, 2, 3, 4, 5, 6] rfl) hg
        · have hg := g_it hg c_8
          refine lv_goto (tgt := 90) hx hb dX12_unlike_30 (by decide) ?_
          exact b_90 (f_X12_unlike_b9 n) ih x1 x2 x3 x4 x5 x6 v0 H locs ls hP hD hS (lv_sub hl [0, 1, 2, 3, 4, 5, 6] rfl) hg
  generalize hHe : s.heap = H at hP ⊢
  have hS : va_S A s.heap H [] := by rw [← hHe]; exact va_S.rf
  generalize ([] : List Loc) = locs at hS ⊢
  unfold f_X12_unlike at hg
  refine lv_iconst (v := 0) hx hb dX12_unlike_0 (by decide) ?_
  refine lv_istore (lv' := [(4, .int 0), (0, .ref a0), (1, .int p0), (2, .int p1), (3, .int p2)]) hx hb dX12_unlike_1 hl (by decide) rfl (fun ls hl => ?_)
  refine lv_iconst (v := 0) hx hb dX12_unlike_3 (by decide) ?_
  refine lv_istore (lv' := [(5, .int 0), (4, .int 0), (0, .ref a0), (1, .int p0), (2, .int p1), (3, .int p2)]) hx hb dX12_unlike_4 hl (by decide) rfl (fun ls hl => ?_)
  refine lv_iconst (v := 0) hx hb dX12_unlike_6 (by decide) ?_
  refine lv_istore (lv' := [(6, .int 0), (5, .int 0), (4, .int 0), (0, .ref a0), (1, .int p0), (2, .int p1), (3, .int p2)]) hx hb dX12_unlike_7 hl (by decide) rfl (fun ls hl => ?_)
  exact b_9 fU p0 p1 p2 0 0 0 v0 H locs ls hP hD hS (lv_sub hl [3, 4, 5, 6, 2, 1, 0] rfl) hg

/-! ManyEyesModel.parts(II)I -/
def WS_X12_parts (cI cJ cZ cY : ClassId) (a0 a0_a a0_image a0_texts a0_board a0_taken a0_fars a0_before a0_tape a0_pile a0_rows a0_told a0_values a0_truth a0_keeps : Nat) (v0 : BX12) : va_W := (GX12 cI cJ cZ cY a0 a0_a a0_image a0_texts a0_board a0_taken a0_fars a0_before a0_tape a0_pile a0_rows a0_told a0_values a0_truth a0_keeps v0)
def f_X12_parts_b168 (J72 : (Int32 × Int32 × Int32 × Int32 × Int32 × Int32 × BX12) → Option (Int32 × BX12)) (x1 : Int32) (x2 : Int32) (x3 : Int32) (x4 : Int32) (x5 : Int32) (x6 : Int32) (v0 : BX12) : Option (Int32 × BX12) := g_lt (x6 + 1 : Int32) (fun x6_1 => J72 (x1, x2, x3, x4, x5, x6_1, v0))
def f_X12_parts_b162 (J72 : (Int32 × Int32 × Int32 × Int32 × Int32 × Int32 × BX12) → Option (Int32 × BX12)) (J84 : (Int32 × Int32 × Int32 × Int32 × Int32 × Int32 × Int32 × BX12) → Option (Int32 × BX12)) (x1 : Int32) (x2 : Int32) (x3 : Int32) (x4 : Int32) (x5 : Int32) (x6 : Int32) (x7 : Int32) (v0 : BX12) : Option (Int32 × BX12) := g_lt (x7 + 8 : Int32) (fun x7_2 => J84 (x1, x2, x3, x4, x5, x6, x7_2, v0))
def f_X12_parts_b84B (J72 : (Int32 × Int32 × Int32 × Int32 × Int32 × Int32 × BX12) → Option (Int32 × BX12)) (J84 : Int32 × Int32 × Int32 × Int32 × Int32 × Int32 × Int32 × BX12 → Option (Int32 × BX12)) (x1 : Int32) (x2 : Int32) (x3 : Int32) (x4 : Int32) (x5 : Int32) (x6 : Int32) (x7 : Int32) (v0 : BX12) : Option (Int32 × BX12) := if (64 : Int32) ≤ x7 then (f_X12_parts_b168 J72 x1 x2 x3 x4 x5 x6 v0) else ((f_X12_isStart v0 (((16 : Int32) * x6) + 8) (((16 : Int32) * x1) + 8)).bind (fun r_4 => if (r_4 : Int32) = 0 then (f_X12_parts_b168 J72 x1 x2 x3 x4 x5 x6 v0) else ((f_X12_unlike v0 (((16 : Int32) * x6) + 8) (((16 : Int32) * x1) + 8) x7).bind (fun r_6 => if (x3 : Int32) < r_6.1 then (g_lt ((((16 : Int32) * x6) + 8) : Int32) (fun x4_8 => f_X12_parts_b162 J72 J84 x1 x2 r_6.1 x4_8 x7 x6 x7 r_6.2)) else (f_X12_parts_b162 J72 J84 x1 x2 x3 x4 x5 x6 x7 r_6.2)))))
def f_X12_parts_b84 (J72 : (Int32 × Int32 × Int32 × Int32 × Int32 × Int32 × BX12) → Option (Int32 × BX12)) : Nat → (Int32 × Int32 × Int32 × Int32 × Int32 × Int32 × Int32 × BX12) → Option (Int32 × BX12) := g_lp (fun J z => f_X12_parts_b84B J72 J z.1 z.2.1 z.2.2.1 z.2.2.2.1 z.2.2.2.2.1 z.2.2.2.2.2.1 z.2.2.2.2.2.2.1 z.2.2.2.2.2.2.2)
def f_X12_parts_b72B (J72 : Int32 × Int32 × Int32 × Int32 × Int32 × Int32 × BX12 → Option (Int32 × BX12)) (x1 : Int32) (x2 : Int32) (x3 : Int32) (x4 : Int32) (x5 : Int32) (x6 : Int32) (v0 : BX12) : Option (Int32 × BX12) := if ((pX12_w v0) : Int32) ≤ x6 then (if (0 : Int32) ≤ x4 then (if (x2 : Int32) = 0 then (some (x4, v0)) else (if (x2 : Int32) = 1 then (some (x5, v0)) else (some (x3, v0)))) else (some ((-1), v0))) else (f_X12_parts_b84 J72 fU (x1, x2, x3, x4, x5, x6, 0, v0))
def f_X12_parts_b72 : Nat → (Int32 × Int32 × Int32 × Int32 × Int32 × Int32 × BX12) → Option (Int32 × BX12) := g_lp (fun J z => f_X12_parts_b72B J z.1 z.2.1 z.2.2.1 z.2.2.2.1 z.2.2.2.2.1 z.2.2.2.2.2.1 z.2.2.2.2.2.2)
def f_X12_parts_b27B (J27 : Int32 × Int32 × Int32 × BX12 → Option (Int32 × BX12)) (x1 : Int32) (x2 : Int32) (x3 : Int32) (v0 : BX12) : Option (Int32 × BX12) := g_gd (inB 3 3170) (if (((pX12_a v0) (3 : Int32).toNatClampNeg) : Int32) ≤ x3 then (g_lt (sX12_bound v0 1000000) (fun v0_15 => g_lt ((-1) : Int32) (fun x4_16 => g_lt ((-1) : Int32) (fun x5_17 => f_X12_parts_b72 fU (x1, x2, 1, x4_16, x5_17, 0, v0_15))))) else ((f_X12_isKept v0 x3).bind (fun r_18 => g_gd (inB x3 8) (g_lt (sX12_keeps r_18.2 (upd (pX12_keeps r_18.2) (x3 : Int32).toNatClampNeg (vp_nar .boolean r_18.1))) (fun v0_20 => g_lt (x3 + 1 : Int32) (fun x3_21 => J27 (x1, x2, x3_21, v0_20)))))))
def f_X12_parts_b27 : Nat → (Int32 × Int32 × Int32 × BX12) → Option (Int32 × BX12) := g_lp (fun J z => f_X12_parts_b27B J z.1 z.2.1 z.2.2.1 z.2.2.2)
def f_X12_parts (v0 : BX12) (p0 : Int32) (p1 : Int32) : Option (Int32 × BX12) := (f_X12_isIn p0 0 ((pX12_h v0) - 1)).bind (fun r_22 => if (r_22 : Int32) = 0 then (some ((-1), v0)) else ((f_X12_isIn p1 0 2).bind (fun r_24 => if (r_24 : Int32) = 0 then (some ((-1), v0)) else (f_X12_parts_b27 fU (p0, p1, 0, v0)))))
abbrev rm_X12_parts : Room := { frames := 7, cells := 0, slots := 0, locals := 169 }
set_option maxHeartbeats 4000000 in
set_option maxRecDepth 100000 in
theorem k_X12_parts {l : Launch} {D : va_G} {cI cJ cZ cY : ClassId} {tX tY : Nat} {sz : Nat} (a0 a0_a a0_image a0_texts a0_board a0_taken a0_fars a0_before a0_tape a0_pile a0_rows a0_told a0_values a0_truth a0_keeps : Nat) (v0 : BX12) (p0 : Int32) (p1 : Int32) (res : Int32 × BX12) (hg : f_X12_parts v0 p0 p1 = some res) : Met l yX12_parts (Cond.code yX12_parts cX12_parts 9 (some .int) :: TB) rm_X12_parts (PC D cI cJ cZ cY tX tY [.ref a0, .int p0, .int p1] (WS_X12_parts cI cJ cZ cY a0 a0_a a0_image a0_texts a0_board a0_taken a0_fars a0_before a0_tape a0_pile a0_rows a0_told a0_values a0_truth a0_keeps v0) sz) (va_Qi (fun (r : Int32) (u : BX12) => r = res.1 ∧ u = res.2) (BC D (fun u : BX12 => WS_X12_parts cI cJ cZ cY a0 a0_a a0_image a0_texts a0_board a0_taken a0_fars a0_before a0_tape a0_pile a0_rows a0_told a0_values a0_truth a0_keeps u) (va_A (WS_X12_parts cI cJ cZ cY a0 a0_a a0_image a0_texts a0_board a0_taken a0_fars a0_before a0_tape a0_pile a0_rows a0_told a0_values a0_truth a0_keeps v0) sz)) (va_A (WS_X12_parts cI cJ cZ cY a0 a0_a a0_image a0_texts a0_board a0_taken a0_fars a0_before a0_tape a0_pile a0_rows a0_told a0_values a0_truth a0_keeps v0) sz)) 0 0 (va_A (WS_X12_parts cI cJ cZ cY a0 a0_a a0_image a0_texts a0_board a0_taken a0_fars a0_before a0_tape a0_pile a0_rows a0_told a0_values a0_truth a0_keeps v0) sz) := by
  refine Met.ofW (cc := cX12_parts) (maxL := 9) (ret := (some .int)) (by decide) rfl ?_
  intro p e s m args below meth c s₁ B hml hv
  obtain ⟨hargs, hsz, hP, hK, hD0, hT⟩ := hv
  have hx := B.exec
  have hb := B.bytes
  have hr := B.returns
  have htb : ∀ w ∈ TB, w.before args s = true := fun w h => atoms_spec (ws := Cond.code yX12_parts cX12_parts 9 (some .int) :: TB) B.pre w (List.mem_cons_of_mem _ h)
  have hown : s.vm.findClass "ManyEyesModel" = some m.cls := findClass_of_methodNamed B.named
  have hlocks := B.notSynchronized
  subst hsz
  have hD := hD0.self (sz := s.heap.size)
  generalize hAe : va_A (WS_X12_parts cI cJ cZ cY a0 a0_a a0_image a0_texts a0_board a0_taken a0_fars a0_before a0_tape a0_pile a0_rows a0_told a0_values a0_truth a0_keeps v0) s.heap.size = A at hD hT ⊢
  have hA : ∀ q : Nat, s.heap.size ≤ q → A q := fun q h => by rw [← hAe]; exact Or.inr h
  have hS : va_S A s.heap s.heap [] := va_S.rf
  have hl := lv_entry ([.ref a0, .int p0, .int p1]) (n := 9) (Nat.le_of_ble_eq_true rfl)
  have he : entryFrame m args 9 = F0 m 0 (lg_sl ([.ref a0, .int p0, .int p1]) ++ List.replicate (9 - (lg_sl ([.ref a0, .int p0, .int p1])).length) Slot.unset).toArray [] := by rw [hargs, lg_entry_eq]
  rw [he]
  generalize (lg_sl ([.ref a0, .int p0, .int p1]) ++ List.replicate (9 - (lg_sl ([.ref a0, .int p0, .int p1])).length) Slot.unset).toArray = ls at hl ⊢
  have hl : lv_has ls 9 [(0, .ref a0), (1, .int p0), (2, .int p1)] := hl
  show W p l e rm_X12_parts s m args below meth c s.heap [] 0 0 _ _
  refine W.genQ (fun Q hQ => ?_)
  have b_168 : ∀ (J72 : (Int32 × Int32 × Int32 × Int32 × Int32 × Int32 × BX12) → Option (Int32 × BX12)) (hJ72 : ∀ (x1 : Int32) (x2 : Int32) (x3 : Int32) (x4 : Int32) (x5 : Int32) (x6 : Int32) (v0 : BX12) (H : Heap) (locs : List Loc) (ls : Array Slot), va_P D vwCl (WS_X12_parts cI cJ cZ cY a0 a0_a a0_image a0_texts a0_board a0_taken a0_fars a0_before a0_tape a0_pile a0_rows a0_told a0_values a0_truth a0_keeps v0) H → va_D A (WS_X12_parts cI cJ cZ cY a0 a0_a a0_image a0_texts a0_board a0_taken a0_fars a0_before a0_tape a0_pile a0_rows a0_told a0_values a0_truth a0_keeps v0) → va_S A s.heap H locs → lv_has ls 9 [(0, .ref a0), (1, .int x1), (2, .int x2), (3, .int x3), (4, .int x4), (5, .int x5), (6, .int x6)] → J72 (x1, x2, x3, x4, x5, x6, v0) = some res → W p l e rm_X12_parts s m args below meth c H locs 0 0 Q (F0 m 72 ls [])), ∀ (x1 : Int32) (x2 : Int32) (x3 : Int32) (x4 : Int32) (x5 : Int32) (x6 : Int32) (v0 : BX12) (H : Heap) (locs : List Loc) (ls : Array Slot), va_P D vwCl (WS_X12_parts cI cJ cZ cY a0 a0_a a0_image a0_texts a0_board a0_taken a0_fars a0_before a0_tape a0_pile a0_rows a0_told a0_values a0_truth a0_keeps v0) H → va_D A (WS_X12_parts cI cJ cZ cY a0 a0_a a0_image a0_texts a0_board a0_taken a0_fars a0_before a0_tape a0_pile a0_rows a0_told a0_values a0_truth a0_keeps v0) → va_S A s.heap H locs → lv_has ls 9 [(0, .ref a0), (1, .int x1), (2, .int x2), (3, .int x3), (4, .int x4), (5, .int x5), (6, .int x6)] → f_X12_parts_b168 J72 x1 x2 x3 x4 x5 x6 v0 = some res → W p l e rm_X12_parts s m args below meth c H locs 0 0 Q (F0 m 168 ls []) := by
    intro J72 hJ72 x1 x2 x3 x4 x5 x6 v0 H locs ls hP hD hS hl hg
    unfold f_X12_parts_b168 at hg
    obtain ⟨x6_1, ex6_1⟩ : ∃ z : Int32, z = x6 + 1 := ⟨_, rfl⟩
    have hg := g_lte hg x6_1 ex6_1
    refine lv_iinc (v := x6_1) (lv' := [(6, .int x6_1), (0, .ref a0), (1, .int x1), (2, .int x2), (3, .int x3), (4, .int x4), (5, .int x5)]) hx hb dX12_parts_168 hl (k := 6) rfl (by rw [ex6_1]; rfl) (by decide) rfl (fun ls hl => ?_)
    refine lv_goto (tgt := 72) hx hb dX12_parts_171 (by decide) ?_
    exact hJ72 x1 x2 x3 x4 x5 x6_1 v0 H locs ls hP hD hS (lv_sub hl [1, 2, 3, 4, 5, 6, 0] rfl) hg
  have b_162 : ∀ (J72 : (Int32 × Int32 × Int32 × Int32 × Int32 × Int32 × BX12) → Option (Int32 × BX12)) (hJ72 : ∀ (x1 : Int32) (x2 : Int32) (x3 : Int32) (x4 : Int32) (x5 : Int32) (x6 : Int32) (v0 : BX12) (H : Heap) (locs : List Loc) (ls : Array Slot), va_P D vwCl (WS_X12_parts cI cJ cZ cY a0 a0_a a0_image a0_texts a0_board a0_taken a0_fars a0_before a0_tape a0_pile a0_rows a0_told a0_values a0_truth a0_keeps v0) H → va_D A (WS_X12_parts cI cJ cZ cY a0 a0_a a0_image a0_texts a0_board a0_taken a0_fars a0_before a0_tape a0_pile a0_rows a0_told a0_values a0_truth a0_keeps v0) → va_S A s.heap H locs → lv_has ls 9 [(0, .ref a0), (1, .int x1), (2, .int x2), (3, .int x3), (4, .int x4), (5, .int x5), (6, .int x6)] → J72 (x1, x2, x3, x4, x5, x6, v0) = some res → W p l e rm_X12_parts s m args below meth c H locs 0 0 Q (F0 m 72 ls [])) (J84 : (Int32 × Int32 × Int32 × Int32 × Int32 × Int32 × Int32 × BX12) → Option (Int32 × BX12)) (hJ84 : ∀ (x1 : Int32) (x2 : Int32) (x3 : Int32) (x4 : Int32) (x5 : Int32) (x6 : Int32) (x7 : Int32) (v0 : BX12) (H : Heap) (locs : List Loc) (ls : Array Slot), va_P D vwCl (WS_X12_parts cI cJ cZ cY a0 a0_a a0_image a0_texts a0_board a0_taken a0_fars a0_before a0_tape a0_pile a0_rows a0_told a0_values a0_truth a0_keeps v0) H → va_D A (WS_X12_parts cI cJ cZ cY a0 a0_a a0_image a0_texts a0_board a0_taken a0_fars a0_before a0_tape a0_pile a0_rows a0_told a0_values a0_truth a0_keeps v0) → va_S A s.heap H locs → lv_has ls 9 [(0, .ref a0), (1, .int x1), (2, .int x2), (3, .int x3), (4, .int x4), (5, .int x5), (6, .int x6), (7, .int x7)] → J84 (x1, x2, x3, x4, x5, x6, x7, v0) = some res → W p l e rm_X12_parts s m args below meth c H locs 0 0 Q (F0 m 84 ls [])), ∀ (x1 : Int32) (x2 : Int32) (x3 : Int32) (x4 : Int32) (x5 : Int32) (x6 : Int32) (x7 : Int32) (v0 : BX12) (H : Heap) (locs : List Loc) (ls : Array Slot), va_P D vwCl (WS_X12_parts cI cJ cZ cY a0 a0_a a0_image a0_texts a0_board a0_taken a0_fars a0_before a0_tape a0_pile a0_rows a0_told a0_values a0_truth a0_keeps v0) H → va_D A (WS_X12_parts cI cJ cZ cY a0 a0_a a0_image a0_texts a0_board a0_taken a0_fars a0_before a0_tape a0_pile a0_rows a0_told a0_values a0_truth a0_keeps v0) → va_S A s.heap H locs → lv_has ls 9 [(0, .ref a0), (1, .int x1), (2, .int x2), (3, .int x3), (4, .int x4), (5, .int x5), (6, .int x6), (7, .int x7)] → f_X12_parts_b162 J72 J84 x1 x2 x3 x4 x5 x6 x7 v0 = some res → W p l e rm_X12_parts s m args below meth c H locs 0 0 Q (F0 m 162 ls []) := by
    intro J72 hJ72 J84 hJ84 x1 x2 x3 x4 x5 x6 x7 v0 H locs ls hP hD hS hl hg
    unfold f_X12_parts_b162 at hg
    obtain ⟨x7_2, ex7_2⟩ : ∃ z : Int32, z = x7 + 8 := ⟨_, rfl⟩
    have hg := g_lte hg x7_2 ex7_2
    refine lv_iinc (v := x7_2) (lv' := [(7, .int x7_2), (0, .ref a0), (1, .int x1), (2, .int x2), (3, .int x3), (4, .int x4), (5, .int x5), (6, .int x6)]) hx hb dX12_parts_162 hl (k := 7) rfl (by rw [ex7_2]; rfl) (by decide) rfl (fun ls hl => ?_)
    refine lv_goto (tgt := 84) hx hb dX12_parts_165 (by decide) ?_
    exact hJ84 x1 x2 x3 x4 x5 x6 x7_2 v0 H locs ls hP hD hS (lv_sub hl [1, 2, 3, 4, 5, 6, 7, 0] rfl) hg
  have b_84 : ∀ (J72 : (Int32 × Int32 × Int32 × Int32 × Int32 × Int32 × BX12) → Option (Int32 × BX12)) (hJ72 : ∀ (x1 : Int32) (x2 : Int32) (x3 : Int32) (x4 : Int32) (x5 : Int32) (x6 : Int32) (v0 : BX12) (H : Heap) (locs : List Loc) (ls : Array Slot), va_P D vwCl (WS_X12_parts cI cJ cZ cY a0 a0_a a0_image a0_texts a0_board a0_taken a0_fars a0_before a0_tape a0_pile a0_rows a0_told a0_values a0_truth a0_keeps v0) H → va_D A (WS_X12_parts cI cJ cZ cY a0 a0_a a0_image a0_texts a0_board a0_taken a0_fars a0_before a0_tape a0_pile a0_rows a0_told a0_values a0_truth a0_keeps v0) → va_S A s.heap H locs → lv_has ls 9 [(0, .ref a0), (1, .int x1), (2, .int x2), (3, .int x3), (4, .int x4), (5, .int x5), (6, .int x6)] → J72 (x1, x2, x3, x4, x5, x6, v0) = some res → W p l e rm_X12_parts s m args below meth c H locs 0 0 Q (F0 m 72 ls [])) (n : Nat), ∀ (x1 : Int32) (x2 : Int32) (x3 : Int32) (x4 : Int32) (x5 : Int32) (x6 : Int32) (x7 : Int32) (v0 : BX12) (H : Heap) (locs : List Loc) (ls : Array Slot), va_P D vwCl (WS_X12_parts cI cJ cZ cY a0 a0_a a0_image a0_texts a0_board a0_taken a0_fars a0_before a0_tape a0_pile a0_rows a0_told a0_values a0_truth a0_keeps v0) H → va_D A (WS_X12_parts cI cJ cZ cY a0 a0_a a0_image a0_texts a0_board a0_taken a0_fars a0_before a0_tape a0_pile a0_rows a0_told a0_values a0_truth a0_keeps v0) → va_S A s.heap H locs → lv_has ls 9 [(0, .ref a0), (1, .int x1), (2, .int x2), (3, .int x3), (4, .int x4), (5, .int x5), (6, .int x6), (7, .int x7)] → f_X12_parts_b84 J72 n (x1, x2, x3, x4, x5, x6, x7, v0) = some res → W p l e rm_X12_parts s m args below meth c H locs 0 0 Q (F0 m 84 ls []) := by
    intro J72 hJ72 n
    induction n with
    | zero =>
      intro x1 x2 x3 x4 x5 x6 x7 v0 H locs ls hP hD hS hl hg
      exact (g_lp0 hg).elim
    | succ n ih =>
      intro x1 x2 x3 x4 x5 x6 x7 v0 H locs ls hP hD hS hl hg
      have hg : f_X12_parts_b84B J72 (f_X12_parts_b84 J72 n) x1 x2 x3 x4 x5 x6 x7 v0 = some res := hg
      unfold f_X12_parts_b84B at hg
      refine lv_iload hx hb dX12_parts_84 (lv_at hl 7 rfl) ?_
      refine lv_bipush (v := 64) hx hb dX12_parts_86 (by decide) ?_
      refine lv_icmp_ge (tgt := 168) hx hb dX12_parts_88 (by decide) (fun c_3 => ?_) (fun c_3 => ?_)
      · have hg := g_it hg c_3
        exact b_168 J72 hJ72 x1 x2 x3 x4 x5 x6 v0 H locs ls hP hD hS (lv_sub hl [0, 1, 2, 3, 4, 5, 6] rfl) hg
      · have hg := g_if hg c_3
        refine lv_aload_n hx hb dX12_parts_91 rfl (lv_at hl 0 rfl) ?_
        refine lv_bipush (v := 16) hx hb dX12_parts_92 (by decide) ?_
        refine lv_iload hx hb dX12_parts_94 (lv_at hl 6 rfl) ?_
        refine lv_imul hx hb dX12_parts_96 ?_
        refine lv_bipush (v := 8) hx hb dX12_parts_97 (by decide) ?_
        refine lv_iadd hx hb dX12_parts_99 ?_
        refine lv_bipush (v := 16) hx hb dX12_parts_100 (by decide) ?_
        refine lv_iload_n hx hb dX12_parts_102 rfl (lv_at hl 1 rfl) ?_
        refine lv_imul hx hb dX12_parts_103 ?_
        refine lv_bipush (v := 8) hx hb dX12_parts_104 (by decide) ?_
        refine lv_iadd hx hb dX12_parts_106 ?_
        obtain ⟨r_4, hr_4, hg⟩ := g_bd hg
        refine cc_i (va_runV (C := RX12) (As := [.int (((16 : Int32) * x6) + 8), .int (((16 : Int32) * x1) + 8)]) (rest := []) ⟨hx, hb, hml, hown, htb⟩ (k_X12_isStart a0 a0_a a0_image a0_texts a0_board a0_taken a0_fars a0_before a0_tape a0_pile a0_rows a0_told a0_values a0_truth a0_keeps v0 (((16 : Int32) * x6) + 8) (((16 : Int32) * x1) + 8) r_4 hr_4) (cw_V 2 htb tg_1309 tg_13 tg_1306 tg_1308 ts_62 rfl rfl (by decide +kernel) ⟨Nat.le_of_ble_eq_true rfl, Nat.le_of_ble_eq_true rfl⟩) ⟨PC.blind, va_recv hK.1 hP (ci := 11) (q0 := 0) rfl rfl, PC.pre hK hT hP hD hS hA [0, 1, 2, 3, 4, 5, 6, 7, 8, 9, 10, 11, 12, 13, 14] rfl (by decide)⟩ rfl rfl hl.1 rfl (lv_room (Nat.le_of_ble_eq_true rfl)) dX12_parts_107 ⟨Nat.le_of_ble_eq_true rfl, Nat.le_of_ble_eq_true rfl⟩) hP hD hS hA [0, 1, 2, 3, 4, 5, 6, 7, 8, 9, 10, 11, 12, 13, 14] [] rfl rfl (by decide) (by decide) (fun r9 u9 H locs hw hP hD hS => ?_)
        have hw := hw.symm
        subst hw
        have hP : va_P D vwCl (WS_X12_parts cI cJ cZ cY a0 a0_a a0_image a0_texts a0_board a0_taken a0_fars a0_before a0_tape a0_pile a0_rows a0_told a0_values a0_truth a0_keeps v0) H := hP.sub [0, 1, 2, 3, 4, 5, 6, 7, 8, 9, 10, 11, 12, 13, 14] rfl
        have hD : va_D A (WS_X12_parts cI cJ cZ cY a0 a0_a a0_image a0_texts a0_board a0_taken a0_fars a0_before a0_tape a0_pile a0_rows a0_told a0_values a0_truth a0_keeps v0) := hD.sub [0, 1, 2, 3, 4, 5, 6, 7, 8, 9, 10, 11, 12, 13, 14] (by decide) rfl
        refine lv_if_eq (tgt := 168) hx hb dX12_parts_110 (by decide) (fun c_5 => ?_) (fun c_5 => ?_)
        · have hg := g_it hg c_5
          exact b_168 J72 hJ72 x1 x2 x3 x4 x5 x6 v0 H locs ls hP hD hS (lv_sub hl [0, 1, 2, 3, 4, 5, 6] rfl) hg
        · have hg := g_if hg c_5
          refine lv_aload_n hx hb dX12_parts_113 rfl (lv_at hl 0 rfl) ?_
          refine lv_bipush (v := 16) hx hb dX12_parts_114 (by decide) ?_
          refine lv_iload hx hb dX12_parts_116 (lv_at hl 6 rfl) ?_
          refine lv_imul hx hb dX12_parts_118 ?_
          refine lv_bipush (v := 8) hx hb dX12_parts_119 (by decide) ?_
          refine lv_iadd hx hb dX12_parts_121 ?_
          refine lv_bipush (v := 16) hx hb dX12_parts_122 (by decide) ?_
          refine lv_iload_n hx hb dX12_parts_124 rfl (lv_at hl 1 rfl) ?_
          refine lv_imul hx hb dX12_parts_125 ?_
          refine lv_bipush (v := 8) hx hb dX12_parts_126 (by decide) ?_
          refine lv_iadd hx hb dX12_parts_128 ?_
          refine lv_iload hx hb dX12_parts_129 (lv_at hl 7 rfl) ?_
          obtain ⟨r_6, hr_6, hg⟩ := g_bd hg
          refine cc_i (va_runV (C := RX12) (As := [.int (((16 : Int32) * x6) + 8), .int (((16 : Int32) * x1) + 8), .int x7]) (rest := []) ⟨hx, hb, hml, hown, htb⟩ (k_X12_unlike a0 a0_a a0_image a0_texts a0_board a0_taken a0_fars a0_before a0_tape a0_pile a0_rows a0_told a0_values a0_truth a0_keeps v0 (((16 : Int32) * x6) + 8) (((16 : Int32) * x1) + 8) x7 r_6 hr_6) (cw_V 3 htb tg_1381 tg_13 tg_1378 tg_1380 ts_71 rfl rfl (by decide +kernel) ⟨Nat.le_of_ble_eq_true rfl, Nat.le_of_ble_eq_true rfl⟩) ⟨PC.blind, va_recv hK.1 hP (ci := 11) (q0 := 0) rfl rfl, PC.pre hK hT hP hD hS hA [0, 1, 2, 3, 4, 5, 6, 7, 8, 9, 10, 11, 12, 13, 14] rfl (by decide)⟩ rfl rfl hl.1 rfl (lv_room (Nat.le_of_ble_eq_true rfl)) dX12_parts_131 ⟨Nat.le_of_ble_eq_true rfl, Nat.le_of_ble_eq_true rfl⟩) hP hD hS hA [0, 1, 2, 3, 4, 5, 6, 7, 8, 9, 10, 11, 12, 13, 14] [] rfl rfl (by decide) (by decide) (fun r9 u9 H locs hw hP hD hS => ?_)
          obtain ⟨rfl, rfl⟩ := hw
          have hP : va_P D vwCl (WS_X12_parts cI cJ cZ cY a0 a0_a a0_image a0_texts a0_board a0_taken a0_fars a0_before a0_tape a0_pile a0_rows a0_told a0_values a0_truth a0_keeps r_6.2) H := hP.sub [0, 1, 2, 3, 4, 5, 6, 7, 8, 9, 10, 11, 12, 13, 14] rfl
          have hD : va_D A (WS_X12_parts cI cJ cZ cY a0 a0_a a0_image a0_texts a0_board a0_taken a0_fars a0_before a0_tape a0_pile a0_rows a0_told a0_values a0_truth a0_keeps r_6.2) := hD.sub [0, 1, 2, 3, 4, 5, 6, 7, 8, 9, 10, 11, 12, 13, 14] (by decide) rfl
          refine lv_istore (lv' := [(8, .int r_6.1), (0, .ref a0), (1, .int x1), (2, .int x2), (3, .int x3), (4, .int x4), (5, .int x5), (6, .int x6), (7, .int x7)]) hx hb dX12_parts_134 hl (by decide) rfl (fun ls hl => ?_)
          refine lv_iload hx hb dX12_parts_136 (lv_at hl 0 rfl) ?_
          refine lv_iload_n hx hb dX12_parts_138 rfl (lv_at hl 4 rfl) ?_
          refine lv_icmp_gt (tgt := 145) hx hb dX12_parts_139 (by decide) (fun c_7 => ?_) (fun c_7 => ?_)
          · have hg := g_it hg c_7
            refine lv_iload hx hb dX12_parts_145 (lv_at hl 0 rfl) ?_
            refine lv_istore_n (lv' := [(3, .int r_6.1), (8, .int r_6.1), (0, .ref a0), (1, .int x1), (2, .int x2), (4, .int x4), (5, .int x5), (6, .int x6), (7, .int x7)]) hx hb dX12_parts_147 rfl hl (by decide) rfl (fun ls hl => ?_)
            refine lv_bipush (v := 16) hx hb dX12_parts_148 (by decide) ?_
            refine lv_iload hx hb dX12_parts_150 (lv_at hl 7 rfl) ?_
            refine lv_imul hx hb dX12_parts_152 ?_
            refine lv_bipush (v := 8) hx hb dX12_parts_153 (by decide) ?_
            refine lv_iadd hx hb dX12_parts_155 ?_
            refine lv_topi (fun x4_8 ex4_8 => ?_)
            have hg := g_lte hg x4_8 ex4_8
            refine lv_istore (lv' := [(4, .int x4_8), (3, .int r_6.1), (8, .int r_6.1), (0, .ref a0), (1, .int x1), (2, .int x2), (5, .int x5), (6, .int x6), (7, .int x7)]) hx hb dX12_parts_156 hl (by decide) rfl (fun ls hl => ?_)
            refine lv_iload hx hb dX12_parts_158 (lv_at hl 8 rfl) ?_
            refine lv_istore (lv' := [(5, .int x7), (4, .int x4_8), (3, .int r_6.1), (8, .int r_6.1), (0, .ref a0), (1, .int x1), (2, .int x2), (6, .int x6), (7, .int x7)]) hx hb dX12_parts_160 hl (by decide) rfl (fun ls hl => ?_)
            exact b_162 J72 hJ72 (f_X12_parts_b84 J72 n) ih x1 x2 r_6.1 x4_8 x7 x6 x7 r_6.2 H locs ls hP hD hS (lv_sub hl [4, 5, 6, 2, 1, 0, 7, 8] rfl) hg
          · have hg := g_if hg c_7
            refine lv_goto (tgt := 162) hx hb dX12_parts_142 (by decide) ?_
            exact b_162 J72 hJ72 (f_X12_parts_b84 J72 n) ih x1 x2 x3 x4 x5 x6 x7 r_6.2 H locs ls hP hD hS (lv_sub hl [1, 2, 3, 4, 5, 6, 7, 8] rfl) hg
  have b_72 : ∀ (n : Nat), ∀ (x1 : Int32) (x2 : Int32) (x3 : Int32) (x4 : Int32) (x5 : Int32) (x6 : Int32) (v0 : BX12) (H : Heap) (locs : List Loc) (ls : Array Slot), va_P D vwCl (WS_X12_parts cI cJ cZ cY a0 a0_a a0_image a0_texts a0_board a0_taken a0_fars a0_before a0_tape a0_pile a0_rows a0_told a0_values a0_truth a0_keeps v0) H → va_D A (WS_X12_parts cI cJ cZ cY a0 a0_a a0_image a0_texts a0_board a0_taken a0_fars a0_before a0_tape a0_pile a0_rows a0_told a0_values a0_truth a0_keeps v0) → va_S A s.heap H locs → lv_has ls 9 [(0, .ref a0), (1, .int x1), (2, .int x2), (3, .int x3), (4, .int x4), (5, .int x5), (6, .int x6)] → f_X12_parts_b72 n (x1, x2, x3, x4, x5, x6, v0) = some res → W p l e rm_X12_parts s m args below meth c H locs 0 0 Q (F0 m 72 ls []) := by
    intro n
    induction n with
    | zero =>
      intro x1 x2 x3 x4 x5 x6 v0 H locs ls hP hD hS hl hg
      exact (g_lp0 hg).elim
    | succ n ih =>
      intro x1 x2 x3 x4 x5 x6 v0 H locs ls hP hD hS hl hg
      have hg : f_X12_parts_b72B (f_X12_parts_b72 n) x1 x2 x3 x4 x5 x6 v0 = some res := hg
      unfold f_X12_parts_b72B at hg
      refine lv_iload hx hb dX12_parts_72 (lv_at hl 6 rfl) ?_
      refine lv_aload_n hx hb dX12_parts_74 rfl (lv_at hl 0 rfl) ?_
      refine va_get (ci := 11) (v := .int (pX12_w v0)) (C := RX12) (T := TX12) (N := 43) hx hb htb uX12 hown hK.1 hP 0 rfl rfl 0 (by decide) (htb _ tg_936) (fun _ h9 => h9) rfl dX12_parts_75 ?_
      refine lv_icmp_ge (tgt := 174) hx hb dX12_parts_78 (by decide) (fun c_9 => ?_) (fun c_9 => ?_)
      · have hg := g_it hg c_9
        refine lv_iload hx hb dX12_parts_174 (lv_at hl 4 rfl) ?_
        refine lv_if_ge (tgt := 183) hx hb dX12_parts_176 (by decide) (fun c_10 => ?_) (fun c_10 => ?_)
        · have hg := g_it hg c_10
          refine lv_iload_n hx hb dX12_parts_183 rfl (lv_at hl 2 rfl) ?_
          refine lv_if_ne (tgt := 192) hx hb dX12_parts_184 (by decide) (fun c_11 => ?_) (fun c_11 => ?_)
          · have hg := g_if hg c_11
            refine lv_iload_n hx hb dX12_parts_192 rfl (lv_at hl 2 rfl) ?_
            refine lv_iconst (v := 1) hx hb dX12_parts_193 (by decide) ?_
            refine lv_icmp_ne (tgt := 202) hx hb dX12_parts_194 (by decide) (fun c_12 => ?_) (fun c_12 => ?_)
            · have hg := g_if hg c_12
              refine lv_iload_n hx hb dX12_parts_202 rfl (lv_at hl 3 rfl) ?_
              have hg := Option.some.inj hg
              rw [hQ]
              exact W.iret (v := x3) hx hb hr (fun t ht hW => ⟨⟨x3, (v0), rfl, ⟨by rw [← hg], by rw [← hg]⟩, by rw [ht]; exact hP, hD⟩, hS.F ht⟩) hS.2.2 dX12_parts_203
            · have hg := g_it hg c_12
              refine lv_iload hx hb dX12_parts_197 (lv_at hl 5 rfl) ?_
              refine lv_goto (tgt := 203) hx hb dX12_parts_199 (by decide) ?_
              have hg := Option.some.inj hg
              rw [hQ]
              exact W.iret (v := x5) hx hb hr (fun t ht hW => ⟨⟨x5, (v0), rfl, ⟨by rw [← hg], by rw [← hg]⟩, by rw [ht]; exact hP, hD⟩, hS.F ht⟩) hS.2.2 dX12_parts_203
          · have hg := g_it hg c_11
            refine lv_iload hx hb dX12_parts_187 (lv_at hl 4 rfl) ?_
            refine lv_goto (tgt := 203) hx hb dX12_parts_189 (by decide) ?_
            have hg := Option.some.inj hg
            rw [hQ]
            exact W.iret (v := x4) hx hb hr (fun t ht hW => ⟨⟨x4, (v0), rfl, ⟨by rw [← hg], by rw [← hg]⟩, by rw [ht]; exact hP, hD⟩, hS.F ht⟩) hS.2.2 dX12_parts_203
        · have hg := g_if hg c_10
          refine lv_iconst (v := (-1)) hx hb dX12_parts_179 (by decide) ?_
          refine lv_goto (tgt := 203) hx hb dX12_parts_180 (by decide) ?_
          have hg := Option.some.inj hg
          rw [hQ]
          exact W.iret (v := (-1)) hx hb hr (fun t ht hW => ⟨⟨(-1), (v0), rfl, ⟨by rw [← hg], by rw [← hg]⟩, by rw [ht]; exact hP, hD⟩, hS.F ht⟩) hS.2.2 dX12_parts_203
      · have hg := g_if hg c_9
        refine lv_iconst (v := 0) hx hb dX12_parts_81 (by decide) ?_
        refine lv_istore (lv' := [(7, .int 0), (0, .ref a0), (1, .int x1), (2, .int x2), (3, .int x3), (4, .int x4), (5, .int x5), (6, .int x6)]) hx hb dX12_parts_82 hl (by decide) rfl (fun ls hl => ?_)
        exact b_84 (f_X12_parts_b72 n) ih fU x1 x2 x3 x4 x5 x6 0 v0 H locs ls hP hD hS (lv_sub hl [1, 2, 3, 4, 5, 6, 7, 0] rfl) hg
  have b_27 : ∀ (n : Nat), ∀ (x1 : Int32) (x2 : Int32) (x3 : Int32) (v0 : BX12) (H : Heap) (locs : List Loc) (ls : Array Slot), va_P D vwCl (WS_X12_parts cI cJ cZ cY a0 a0_a a0_image a0_texts a0_board a0_taken a0_fars a0_before a0_tape a0_pile a0_rows a0_told a0_values a0_truth a0_keeps v0) H → va_D A (WS_X12_parts cI cJ cZ cY a0 a0_a a0_image a0_texts a0_board a0_taken a0_fars a0_before a0_tape a0_pile a0_rows a0_told a0_values a0_truth a0_keeps v0) → va_S A s.heap H locs → lv_has ls 9 [(0, .ref a0), (1, .int x1), (2, .int x2), (3, .int x3)] → f_X12_parts_b27 n (x1, x2, x3, v0) = some res → W p l e rm_X12_parts s m args below meth c H locs 0 0 Q (F0 m 27 ls []) := by
    intro n
    induction n with
    | zero =>
      intro x1 x2 x3 v0 H locs ls hP hD hS hl hg
      exact (g_lp0 hg).elim
    | succ n ih =>
      intro x1 x2 x3 v0 H locs ls hP hD hS hl hg
      have hg : f_X12_parts_b27B (f_X12_parts_b27 n) x1 x2 x3 v0 = some res := hg
      unfold f_X12_parts_b27B at hg
      refine lv_iload_n hx hb dX12_parts_27 rfl (lv_at hl 3 rfl) ?_
      refine lv_aload_n hx hb dX12_parts_28 rfl (lv_at hl 0 rfl) ?_
      refine va_get (ci := 11) (v := .ref a0_a) (C := RX12) (T := TX12) (N := 43) hx hb htb uX12 hown hK.1 hP 0 rfl rfl 2 (by decide) (htb _ tg_938) (fun _ h9 => h9) rfl dX12_parts_29 ?_
      refine lv_iconst (v := 3) hx hb dX12_parts_32 (by decide) ?_
      obtain ⟨h_13, hg⟩ := g_gde hg
      refine va_iald hx hb hK.1 hP 1 0 rfl rfl (inB_vp h_13) dX12_parts_33 ?_
      refine lv_icmp_ge (tgt := 54) hx hb dX12_parts_34 (by decide) (fun c_14 => ?_) (fun c_14 => ?_)
      · have hg := g_it hg c_14
        refine lv_aload_n hx hb dX12_parts_54 rfl (lv_at hl 0 rfl) ?_
        refine lv_ldc2 (v := 1000000) hx hb hown (htb _ tg_1310) dX12_parts_55 ?_
        refine va_put (ci := 11) (v := .long 1000000) (ty := .long) (C := RX12) (T := TX12) (N := 43) hx hb htb uX12 tyX12 tyX12_ok nmX12 hown hK.1 hP hD hS 0 rfl rfl 27 (by decide) (htb _ tg_963) (fun _ h9 => h9) rfl (by decide +kernel) rfl rfl (Nat.le_of_ble_eq_true rfl) dX12_parts_58 (fun H locs hP hD hS => ?_)
        obtain ⟨v0_15, ev0_15⟩ : ∃ z, z = sX12_bound v0 1000000 := ⟨_, rfl⟩
        have hP : va_P D vwCl (WS_X12_parts cI cJ cZ cY a0 a0_a a0_image a0_texts a0_board a0_taken a0_fars a0_before a0_tape a0_pile a0_rows a0_told a0_values a0_truth a0_keeps v0_15) H := by rw [ev0_15]; exact hP
        have hD : va_D A (WS_X12_parts cI cJ cZ cY a0 a0_a a0_image a0_texts a0_board a0_taken a0_fars a0_before a0_tape a0_pile a0_rows a0_told a0_values a0_truth a0_keeps v0_15) := by rw [ev0_15]; exact hD
        have hg := g_lte hg v0_15 ev0_15
        refine lv_iconst (v := 1) hx hb dX12_parts_61 (by decide) ?_
        refine lv_istore_n (lv' := [(3, .int 1), (0, .ref a0), (1, .int x1), (2, .int x2)]) hx hb dX12_parts_62 rfl hl (by decide) rfl (fun ls hl => ?_)
        refine lv_iconst (v := (-1)) hx hb dX12_parts_63 (by decide) ?_
        refine lv_topi (fun x4_16 ex4_16 => ?_)
        have hg := g_lte hg x4_16 ex4_16
        refine lv_istore (lv' := [(4, .int x4_16), (3, .int 1), (0, .ref a0), (1, .int x1), (2, .int x2)]) hx hb dX12_parts_64 hl (by decide) rfl (fun ls hl => ?_)
        refine lv_iconst (v := (-1)) hx hb dX12_parts_66 (by decide) ?_
        refine lv_topi (fun x5_17 ex5_17 => ?_)
        have hg := g_lte hg x5_17 ex5_17
        refine lv_istore (lv' := [(5, .int x5_17), (4, .int x4_16), (3, .int 1), (0, .ref a0), (1, .int x1), (2, .int x2)]) hx hb dX12_parts_67 hl (by decide) rfl (fun ls hl => ?_)
        refine lv_iconst (v := 0) hx hb dX12_parts_69 (by decide) ?_
        refine lv_istore (lv' := [(6, .int 0), (5, .int x5_17), (4, .int x4_16), (3, .int 1), (0, .ref a0), (1, .int x1), (2, .int x2)]) hx hb dX12_parts_70 hl (by decide) rfl (fun ls hl => ?_)
        exact b_72 fU x1 x2 1 x4_16 x5_17 0 v0_15 H locs ls hP hD hS (lv_sub hl [4, 5, 6, 3, 2, 1, 0] rfl) hg
      · have hg := g_if hg c_14
        refine lv_aload_n hx hb dX12_parts_37 rfl (lv_at hl 0 rfl) ?_
        refine va_get (ci := 11) (v := .ref a0_keeps) (C := RX12) (T := TX12) (N := 43) hx hb htb uX12 hown hK.1 hP 0 rfl rfl 42 (by decide) (htb _ tg_978) (fun _ h9 => h9) rfl dX12_parts_38 ?_
        refine lv_iload_n hx hb dX12_parts_41 rfl (lv_at hl 3 rfl) ?_
        refine lv_aload_n hx hb dX12_parts_42 rfl (lv_at hl 0 rfl) ?_
        refine lv_iload_n hx hb dX12_parts_43 rfl (lv_at hl 3 rfl) ?_
        obtain ⟨r_18, hr_18, hg⟩ := g_bd hg
        refine cc_i (va_runV (C := RX12) (As := [.int x3]) (rest := [.int x3, .ref a0_keeps]) ⟨hx, hb, hml, hown, htb⟩ (k_X12_isKept a0 a0_a a0_image a0_texts a0_board a0_taken a0_fars a0_before a0_tape a0_pile a0_rows a0_told a0_values a0_truth a0_keeps v0 x3 r_18 hr_18) (cw_V 1 htb tg_1373 tg_13 tg_1370 tg_1372 ts_70 rfl rfl (by decide +kernel) ⟨Nat.le_of_ble_eq_true rfl, Nat.le_of_ble_eq_true rfl⟩) ⟨PC.blind, va_recv hK.1 hP (ci := 11) (q0 := 0) rfl rfl, PC.pre hK hT hP hD hS hA [0, 1, 2, 3, 4, 5, 6, 7, 8, 9, 10, 11, 12, 13, 14] rfl (by decide)⟩ rfl rfl hl.1 rfl (lv_room (Nat.le_of_ble_eq_true rfl)) dX12_parts_44 ⟨Nat.le_of_ble_eq_true rfl, Nat.le_of_ble_eq_true rfl⟩) hP hD hS hA [0, 1, 2, 3, 4, 5, 6, 7, 8, 9, 10, 11, 12, 13, 14] [] rfl rfl (by decide) (by decide) (fun r9 u9 H locs hw hP hD hS => ?_)
        obtain ⟨rfl, rfl⟩ := hw
        have hP : va_P D vwCl (WS_X12_parts cI cJ cZ cY a0 a0_a a0_image a0_texts a0_board a0_taken a0_fars a0_before a0_tape a0_pile a0_rows a0_told a0_values a0_truth a0_keeps r_18.2) H := hP.sub [0, 1, 2, 3, 4, 5, 6, 7, 8, 9, 10, 11, 12, 13, 14] rfl
        have hD : va_D A (WS_X12_parts cI cJ cZ cY a0 a0_a a0_image a0_texts a0_board a0_taken a0_fars a0_before a0_tape a0_pile a0_rows a0_told a0_values a0_truth a0_keeps r_18.2) := hD.sub [0, 1, 2, 3, 4, 5, 6, 7, 8, 9, 10, 11, 12, 13, 14] (by decide) rfl
        obtain ⟨h_19, hg⟩ := g_gde hg
        refine va_zast hx hb hK.1 hP hD hS 14 2 rfl rfl (inB_vp h_19) dX12_parts_47 (fun H locs hP hD hS => ?_)
        obtain ⟨v0_20, ev0_20⟩ : ∃ z, z = sX12_keeps r_18.2 (upd (pX12_keeps r_18.2) (x3 : Int32).toNatClampNeg (vp_nar .boolean r_18.1)) := ⟨_, rfl⟩
        have hP : va_P D vwCl (WS_X12_parts cI cJ cZ cY a0 a0_a a0_image a0_texts a0_board a0_taken a0_fars a0_before a0_tape a0_pile a0_rows a0_told a0_values a0_truth a0_keeps v0_20) H := by rw [ev0_20]; exact hP
        have hD : va_D A (WS_X12_parts cI cJ cZ cY a0 a0_a a0_image a0_texts a0_board a0_taken a0_fars a0_before a0_tape a0_pile a0_rows a0_told a0_values a0_truth a0_keeps v0_20) := by rw [ev0_20]; exact hD
        have hg := g_lte hg v0_20 ev0_20
        obtain ⟨x3_21, ex3_21⟩ : ∃ z : Int32, z = x3 + 1 := ⟨_, rfl⟩
        have hg := g_lte hg x3_21 ex3_21
        refine lv_iinc (v := x3_21) (lv' := [(3, .int x3_21), (0, .ref a0), (1, .int x1), (2, .int x2)]) hx hb dX12_parts_48 hl (k := 3) rfl (by rw [ex3_21]; rfl) (by decide) rfl (fun ls hl => ?_)
        refine lv_goto (tgt := 27) hx hb dX12_parts_51 (by decide) ?_
        exact ih x1 x2 x3_21 v0_20 H locs ls hP hD hS (lv_sub hl [1, 2, 3, 0] rfl) hg
  generalize hHe : s.heap = H at hP ⊢
  have hS : va_S A s.heap H [] := by rw [← hHe]; exact va_S.rf
  generalize ([] : List Loc) = locs at hS ⊢
  unfold f_X12_parts at hg
  refine lv_iload_n hx hb dX12_parts_0 rfl (lv_at hl 1 rfl) ?_
  refine lv_iconst (v := 0) hx hb dX12_parts_1 (by decide) ?_
  refine lv_aload_n hx hb dX12_parts_2 rfl (lv_at hl 0 rfl) ?_
  refine va_get (ci := 11) (v := .int (pX12_h v0)) (C := RX12) (T := TX12) (N := 43) hx hb htb uX12 hown hK.1 hP 0 rfl rfl 1 (by decide) (htb _ tg_937) (fun _ h9 => h9) rfl dX12_parts_3 ?_
  refine lv_iconst (v := 1) hx hb dX12_parts_6 (by decide) ?_
  refine lv_isub hx hb dX12_parts_7 ?_
  obtain ⟨r_22, hr_22, hg⟩ := g_bd hg
  refine cc_i (va_runS (As := [.int p0, .int 0, .int ((pX12_h v0) - 1)]) (rest := []) ⟨hx, hb, hml, hown, htb⟩ (k_X12_isIn p0 0 ((pX12_h v0) - 1) r_22 hr_22) (cw_S 3 htb tg_1078 tg_13 tg_1076 tg_1077 rfl rfl (by decide +kernel) ⟨Nat.le_of_ble_eq_true rfl, Nat.le_of_ble_eq_true rfl⟩) ⟨PC.blind, PC.pre hK hT hP hD hS hA [] rfl (by decide)⟩ rfl rfl hl.1 rfl (lv_room (Nat.le_of_ble_eq_true rfl)) dX12_parts_8 ⟨Nat.le_of_ble_eq_true rfl, Nat.le_of_ble_eq_true rfl⟩) hP hD hS hA [] [0, 1, 2, 3, 4, 5, 6, 7, 8, 9, 10, 11, 12, 13, 14] rfl rfl (by decide) (by decide) (fun r9 u9 H locs hw hP hD hS => ?_)
  have hw := hw.symm
  subst hw
  have hP : va_P D vwCl (WS_X12_parts cI cJ cZ cY a0 a0_a a0_image a0_texts a0_board a0_taken a0_fars a0_before a0_tape a0_pile a0_rows a0_told a0_values a0_truth a0_keeps v0) H := hP.sub [0, 1, 2, 3, 4, 5, 6, 7, 8, 9, 10, 11, 12, 13, 14] rfl
  have hD : va_D A (WS_X12_parts cI cJ cZ cY a0 a0_a a0_image a0_texts a0_board a0_taken a0_fars a0_before a0_tape a0_pile a0_rows a0_told a0_values a0_truth a0_keeps v0) := hD.sub [0, 1, 2, 3, 4, 5, 6, 7, 8, 9, 10, 11, 12, 13, 14] (by decide) rfl
  refine lv_if_eq (tgt := 23) hx hb dX12_parts_11 (by decide) (fun c_23 => ?_) (fun c_23 => ?_)
  · have hg := g_it hg c_23
    refine lv_iconst (v := (-1)) hx hb dX12_parts_23 (by decide) ?_
    have hg := Option.some.inj hg
    rw [hQ]
    exact W.iret (v := (-1)) hx hb hr (fun t ht hW => ⟨⟨(-1), (v0), rfl, ⟨by rw [← hg], by rw [← hg]⟩, by rw [ht]; exact hP, hD⟩, hS.F ht⟩) hS.2.2 dX12_parts_24
  · have hg := g_if hg c_23
    refine lv_iload_n hx hb dX12_parts_14 rfl (lv_at hl 2 rfl) ?_
    refine lv_iconst (v := 0) hx hb dX12_parts_15 (by decide) ?_
    refine lv_iconst (v := 2) hx hb dX12_parts_16 (by decide) ?_
    obtain ⟨r_24, hr_24, hg⟩ := g_bd hg
    refine cc_i (va_runS (As := [.int p1, .int 0, .int 2]) (rest := []) ⟨hx, hb, hml, hown, htb⟩ (k_X12_isIn p1 0 2 r_24 hr_24) (cw_S 3 htb tg_1078 tg_13 tg_1076 tg_1077 rfl rfl (by decide +kernel) ⟨Nat.le_of_ble_eq_true rfl, Nat.le_of_ble_eq_true rfl⟩) ⟨PC.blind, PC.pre hK hT hP hD hS hA [] rfl (by decide)⟩ rfl rfl hl.1 rfl (lv_room (Nat.le_of_ble_eq_true rfl)) dX12_parts_17 ⟨Nat.le_of_ble_eq_true rfl, Nat.le_of_ble_eq_true rfl⟩) hP hD hS hA [] [0, 1, 2, 3, 4, 5, 6, 7, 8, 9, 10, 11, 12, 13, 14] rfl rfl (by decide) (by decide) (fun r9 u9 H locs hw hP hD hS => ?_)
    have hw := hw.symm
    subst hw
    have hP : va_P D vwCl (WS_X12_parts cI cJ cZ cY a0 a0_a a0_image a0_texts a0_board a0_taken a0_fars a0_before a0_tape a0_pile a0_rows a0_told a0_values a0_truth a0_keeps v0) H := hP.sub [0, 1, 2, 3, 4, 5, 6, 7, 8, 9, 10, 11, 12, 13, 14] rfl
    have hD : va_D A (WS_X12_parts cI cJ cZ cY a0 a0_a a0_image a0_texts a0_board a0_taken a0_fars a0_before a0_tape a0_pile a0_rows a0_told a0_values a0_truth a0_keeps v0) := hD.sub [0, 1, 2, 3, 4, 5, 6, 7, 8, 9, 10, 11, 12, 13, 14] (by decide) rfl
    refine lv_if_ne (tgt := 25) hx hb dX12_parts_20 (by decide) (fun c_25 => ?_) (fun c_25 => ?_)
    · have hg := g_if hg c_25
      refine lv_iconst (v := 0) hx hb dX12_parts_25 (by decide) ?_
      refine lv_istore_n (lv' := [(3, .int 0), (0, .ref a0), (1, .int p0), (2, .int p1)]) hx hb dX12_parts_26 rfl hl (by decide) rfl (fun ls hl => ?_)
      exact b_27 fU p0 p1 0 v0 H locs ls hP hD hS (lv_sub hl [1, 2, 3, 0] rfl) hg
    · have hg := g_it hg c_25
      refine lv_iconst (v := (-1)) hx hb dX12_parts_23 (by decide) ?_
      have hg := Option.some.inj hg
      rw [hQ]
      exact W.iret (v := (-1)) hx hb hr (fun t ht hW => ⟨⟨(-1), (v0), rfl, ⟨by rw [← hg], by rw [← hg]⟩, by rw [ht]; exact hP, hD⟩, hS.F ht⟩) hS.2.2 dX12_parts_24

/-! ManyEyesModel.image()I -/
def WS_X12_image (cI cJ cZ cY : ClassId) (a0 a0_a a0_image a0_texts a0_board a0_taken a0_fars a0_before a0_tape a0_pile a0_rows a0_told a0_values a0_truth a0_keeps : Nat) (v0 : BX12) : va_W := (GX12 cI cJ cZ cY a0 a0_a a0_image a0_texts a0_board a0_taken a0_fars a0_before a0_tape a0_pile a0_rows a0_told a0_values a0_truth a0_keeps v0)
def f_X12_image (v0 : BX12) : Option (Int32 × BX12) := (f_X12_copy 3170 3170 (pX12_a v0) (pX12_image v0)).bind (fun r_1 => g_gd (inB 3 3170) (some (((pX12_a (sX12_image v0 r_1)) (3 : Int32).toNatClampNeg), sX12_image v0 r_1)))
abbrev rm_X12_image : Room := { frames := 1, cells := 0, slots := 0, locals := 22 }
set_option maxHeartbeats 4000000 in
set_option maxRecDepth 100000 in
theorem k_X12_image {l : Launch} {D : va_G} {cI cJ cZ cY : ClassId} {tX tY : Nat} {sz : Nat} (a0 a0_a a0_image a0_texts a0_board a0_taken a0_fars a0_before a0_tape a0_pile a0_rows a0_told a0_values a0_truth a0_keeps : Nat) (v0 : BX12) (res : Int32 × BX12) (hg : f_X12_image v0 = some res) : Met l yX12_image (Cond.code yX12_image cX12_image 1 (some .int) :: TB) rm_X12_image (PC D cI cJ cZ cY tX tY [.ref a0] (WS_X12_image cI cJ cZ cY a0 a0_a a0_image a0_texts a0_board a0_taken a0_fars a0_before a0_tape a0_pile a0_rows a0_told a0_values a0_truth a0_keeps v0) sz) (va_Qi (fun (r : Int32) (u : BX12) => r = res.1 ∧ u = res.2) (BC D (fun u : BX12 => WS_X12_image cI cJ cZ cY a0 a0_a a0_image a0_texts a0_board a0_taken a0_fars a0_before a0_tape a0_pile a0_rows a0_told a0_values a0_truth a0_keeps u) (va_A (WS_X12_image cI cJ cZ cY a0 a0_a a0_image a0_texts a0_board a0_taken a0_fars a0_before a0_tape a0_pile a0_rows a0_told a0_values a0_truth a0_keeps v0) sz)) (va_A (WS_X12_image cI cJ cZ cY a0 a0_a a0_image a0_texts a0_board a0_taken a0_fars a0_before a0_tape a0_pile a0_rows a0_told a0_values a0_truth a0_keeps v0) sz)) 0 0 (va_A (WS_X12_image cI cJ cZ cY a0 a0_a a0_image a0_texts a0_board a0_taken a0_fars a0_before a0_tape a0_pile a0_rows a0_told a0_values a0_truth a0_keeps v0) sz) := by
  refine Met.ofW (cc := cX12_image) (maxL := 1) (ret := (some .int)) (by decide) rfl ?_
  intro p e s m args below meth c s₁ B hml hv
  obtain ⟨hargs, hsz, hP, hK, hD0, hT⟩ := hv
  have hx := B.exec
  have hb := B.bytes
  have hr := B.returns
  have htb : ∀ w ∈ TB, w.before args s = true := fun w h => atoms_spec (ws := Cond.code yX12_image cX12_image 1 (some .int) :: TB) B.pre w (List.mem_cons_of_mem _ h)
  have hown : s.vm.findClass "ManyEyesModel" = some m.cls := findClass_of_methodNamed B.named
  have hlocks := B.notSynchronized
  subst hsz
  have hD := hD0.self (sz := s.heap.size)
  generalize hAe : va_A (WS_X12_image cI cJ cZ cY a0 a0_a a0_image a0_texts a0_board a0_taken a0_fars a0_before a0_tape a0_pile a0_rows a0_told a0_values a0_truth a0_keeps v0) s.heap.size = A at hD hT ⊢
  have hA : ∀ q : Nat, s.heap.size ≤ q → A q := fun q h => by rw [← hAe]; exact Or.inr h
  have hS : va_S A s.heap s.heap [] := va_S.rf
  have hl := lv_entry ([.ref a0]) (n := 1) (Nat.le_of_ble_eq_true rfl)
  have he : entryFrame m args 1 = F0 m 0 (lg_sl ([.ref a0]) ++ List.replicate (1 - (lg_sl ([.ref a0])).length) Slot.unset).toArray [] := by rw [hargs, lg_entry_eq]
  rw [he]
  generalize (lg_sl ([.ref a0]) ++ List.replicate (1 - (lg_sl ([.ref a0])).length) Slot.unset).toArray = ls at hl ⊢
  have hl : lv_has ls 1 [(0, .ref a0)] := hl
  show W p l e rm_X12_image s m args below meth c s.heap [] 0 0 _ _
  refine W.genQ (fun Q hQ => ?_)
  generalize hHe : s.heap = H at hP ⊢
  have hS : va_S A s.heap H [] := by rw [← hHe]; exact va_S.rf
  generalize ([] : List Loc) = locs at hS ⊢
  unfold f_X12_image at hg
  refine lv_aload_n hx hb dX12_image_0 rfl (lv_at hl 0 rfl) ?_
  refine va_get (ci := 11) (v := .ref a0_a) (C := RX12) (T := TX12) (N := 43) hx hb htb uX12 hown hK.1 hP 0 rfl rfl 2 (by decide) (htb _ tg_938) (fun _ h9 => h9) rfl dX12_image_1 ?_
  refine lv_aload_n hx hb dX12_image_4 rfl (lv_at hl 0 rfl) ?_
  refine va_get (ci := 11) (v := .ref a0_image) (C := RX12) (T := TX12) (N := 43) hx hb htb uX12 hown hK.1 hP 0 rfl rfl 3 (by decide) (htb _ tg_939) (fun _ h9 => h9) rfl dX12_image_5 ?_
  obtain ⟨r_1, hr_1, hg⟩ := g_bd hg
  refine cc_v (va_runS (As := [.ref a0_a, .ref a0_image]) (rest := []) ⟨hx, hb, hml, hown, htb⟩ (k_X12_copy a0_a a0_image 3170 3170 (pX12_a v0) (pX12_image v0) r_1 hr_1) (cw_S 2 htb tg_935 tg_13 tg_933 tg_934 rfl rfl (by decide +kernel) ⟨Nat.le_of_ble_eq_true rfl, Nat.le_of_ble_eq_true rfl⟩) ⟨PC.blind, PC.pre hK hT hP hD hS hA [1, 2] rfl (by decide)⟩ rfl rfl hl.1 rfl (lv_room (Nat.le_of_ble_eq_true rfl)) dX12_image_8 ⟨Nat.le_of_ble_eq_true rfl, Nat.le_of_ble_eq_true rfl⟩) hP hD hS hA [1, 2] [0, 3, 4, 5, 6, 7, 8, 9, 10, 11, 12, 13, 14] rfl rfl (by decide) (by decide) (fun u9 H locs hw hP hD hS => ?_)
  have hw := hw.symm
  subst hw
  have hP : va_P D vwCl (WS_X12_image cI cJ cZ cY a0 a0_a a0_image a0_texts a0_board a0_taken a0_fars a0_before a0_tape a0_pile a0_rows a0_told a0_values a0_truth a0_keeps (sX12_image v0 r_1)) H := hP.sub [0, 13, 14, 1, 2, 3, 4, 5, 6, 7, 8, 9, 10, 11, 12] rfl
  have hD : va_D A (WS_X12_image cI cJ cZ cY a0 a0_a a0_image a0_texts a0_board a0_taken a0_fars a0_before a0_tape a0_pile a0_rows a0_told a0_values a0_truth a0_keeps (sX12_image v0 r_1)) := hD.sub [0, 13, 14, 1, 2, 3, 4, 5, 6, 7, 8, 9, 10, 11, 12] (by decide) rfl
  refine lv_aload_n hx hb dX12_image_11 rfl (lv_at hl 0 rfl) ?_
  refine va_get (ci := 11) (v := .ref a0_a) (C := RX12) (T := TX12) (N := 43) hx hb htb uX12 hown hK.1 hP 0 rfl rfl 2 (by decide) (htb _ tg_938) (fun _ h9 => h9) rfl dX12_image_12 ?_
  refine lv_iconst (v := 3) hx hb dX12_image_15 (by decide) ?_
  obtain ⟨h_2, hg⟩ := g_gde hg
  refine va_iald hx hb hK.1 hP 1 0 rfl rfl (inB_vp h_2) dX12_image_16 ?_
  have hg := Option.some.inj hg
  rw [hQ]
  exact W.iret (v := ((pX12_a (sX12_image v0 r_1)) (3 : Int32).toNatClampNeg)) hx hb hr (fun t ht hW => ⟨⟨((pX12_a (sX12_image v0 r_1)) (3 : Int32).toNatClampNeg), (sX12_image v0 r_1), rfl, ⟨by rw [← hg], by rw [← hg]⟩, by rw [ht]; exact hP, hD⟩, hS.F ht⟩) hS.2.2 dX12_image_17

/-! ManyEyesModel.back()I -/
def WS_X12_back (cI cJ cZ cY : ClassId) (a0 a0_a a0_image a0_texts a0_board a0_taken a0_fars a0_before a0_tape a0_pile a0_rows a0_told a0_values a0_truth a0_keeps : Nat) (v0 : BX12) : va_W := (GX12 cI cJ cZ cY a0 a0_a a0_image a0_texts a0_board a0_taken a0_fars a0_before a0_tape a0_pile a0_rows a0_told a0_values a0_truth a0_keeps v0)
def f_X12_back (v0 : BX12) : Option (Int32 × BX12) := (f_X12_copy 3170 3170 (pX12_image v0) (pX12_a v0)).bind (fun r_1 => g_gd (inB 3 3170) (some (((pX12_a (sX12_a v0 r_1)) (3 : Int32).toNatClampNeg), sX12_a v0 r_1)))
abbrev rm_X12_back : Room := { frames := 1, cells := 0, slots := 0, locals := 22 }
set_option maxHeartbeats 4000000 in
set_option maxRecDepth 100000 in
theorem k_X12_back {l : Launch} {D : va_G} {cI cJ cZ cY : ClassId} {tX tY : Nat} {sz : Nat} (a0 a0_a a0_image a0_texts a0_board a0_taken a0_fars a0_before a0_tape a0_pile a0_rows a0_told a0_values a0_truth a0_keeps : Nat) (v0 : BX12) (res : Int32 × BX12) (hg : f_X12_back v0 = some res) : Met l yX12_back (Cond.code yX12_back cX12_back 1 (some .int) :: TB) rm_X12_back (PC D cI cJ cZ cY tX tY [.ref a0] (WS_X12_back cI cJ cZ cY a0 a0_a a0_image a0_texts a0_board a0_taken a0_fars a0_before a0_tape a0_pile a0_rows a0_told a0_values a0_truth a0_keeps v0) sz) (va_Qi (fun (r : Int32) (u : BX12) => r = res.1 ∧ u = res.2) (BC D (fun u : BX12 => WS_X12_back cI cJ cZ cY a0 a0_a a0_image a0_texts a0_board a0_taken a0_fars a0_before a0_tape a0_pile a0_rows a0_told a0_values a0_truth a0_keeps u) (va_A (WS_X12_back cI cJ cZ cY a0 a0_a a0_image a0_texts a0_board a0_taken a0_fars a0_before a0_tape a0_pile a0_rows a0_told a0_values a0_truth a0_keeps v0) sz)) (va_A (WS_X12_back cI cJ cZ cY a0 a0_a a0_image a0_texts a0_board a0_taken a0_fars a0_before a0_tape a0_pile a0_rows a0_told a0_values a0_truth a0_keeps v0) sz)) 0 0 (va_A (WS_X12_back cI cJ cZ cY a0 a0_a a0_image a0_texts a0_board a0_taken a0_fars a0_before a0_tape a0_pile a0_rows a0_told a0_values a0_truth a0_keeps v0) sz) := by
  refine Met.ofW (cc := cX12_back) (maxL := 1) (ret := (some .int)) (by decide) rfl ?_
  intro p e s m args below meth c s₁ B hml hv
  obtain ⟨hargs, hsz, hP, hK, hD0, hT⟩ := hv
  have hx := B.exec
  have hb := B.bytes
  have hr := B.returns
  have htb : ∀ w ∈ TB, w.before args s = true := fun w h => atoms_spec (ws := Cond.code yX12_back cX12_back 1 (some .int) :: TB) B.pre w (List.mem_cons_of_mem _ h)
  have hown : s.vm.findClass "ManyEyesModel" = some m.cls := findClass_of_methodNamed B.named
  have hlocks := B.notSynchronized
  subst hsz
  have hD := hD0.self (sz := s.heap.size)
  generalize hAe : va_A (WS_X12_back cI cJ cZ cY a0 a0_a a0_image a0_texts a0_board a0_taken a0_fars a0_before a0_tape a0_pile a0_rows a0_told a0_values a0_truth a0_keeps v0) s.heap.size = A at hD hT ⊢
  have hA : ∀ q : Nat, s.heap.size ≤ q → A q := fun q h => by rw [← hAe]; exact Or.inr h
  have hS : va_S A s.heap s.heap [] := va_S.rf
  have hl := lv_entry ([.ref a0]) (n := 1) (Nat.le_of_ble_eq_true rfl)
  have he : entryFrame m args 1 = F0 m 0 (lg_sl ([.ref a0]) ++ List.replicate (1 - (lg_sl ([.ref a0])).length) Slot.unset).toArray [] := by rw [hargs, lg_entry_eq]
  rw [he]
  generalize (lg_sl ([.ref a0]) ++ List.replicate (1 - (lg_sl ([.ref a0])).length) Slot.unset).toArray = ls at hl ⊢
  have hl : lv_has ls 1 [(0, .ref a0)] := hl
  show W p l e rm_X12_back s m args below meth c s.heap [] 0 0 _ _
  refine W.genQ (fun Q hQ => ?_)
  generalize hHe : s.heap = H at hP ⊢
  have hS : va_S A s.heap H [] := by rw [← hHe]; exact va_S.rf
  generalize ([] : List Loc) = locs at hS ⊢
  unfold f_X12_back at hg
  refine lv_aload_n hx hb dX12_back_0 rfl (lv_at hl 0 rfl) ?_
  refine va_get (ci := 11) (v := .ref a0_image) (C := RX12) (T := TX12) (N := 43) hx hb htb uX12 hown hK.1 hP 0 rfl rfl 3 (by decide) (htb _ tg_939) (fun _ h9 => h9) rfl dX12_back_1 ?_
  refine lv_aload_n hx hb dX12_back_4 rfl (lv_at hl 0 rfl) ?_
  refine va_get (ci := 11) (v := .ref a0_a) (C := RX12) (T := TX12) (N := 43) hx hb htb uX12 hown hK.1 hP 0 rfl rfl 2 (by decide) (htb _ tg_938) (fun _ h9 => h9) rfl dX12_back_5 ?_
  obtain ⟨r_1, hr_1, hg⟩ := g_bd hg
  refine cc_v (va_runS (As := [.ref a0_image, .ref a0_a]) (rest := []) ⟨hx, hb, hml, hown, htb⟩ (k_X12_copy a0_image a0_a 3170 3170 (pX12_image v0) (pX12_a v0) r_1 hr_1) (cw_S 2 htb tg_935 tg_13 tg_933 tg_934 rfl rfl (by decide +kernel) ⟨Nat.le_of_ble_eq_true rfl, Nat.le_of_ble_eq_true rfl⟩) ⟨PC.blind, PC.pre hK hT hP hD hS hA [2, 1] rfl (by decide)⟩ rfl rfl hl.1 rfl (lv_room (Nat.le_of_ble_eq_true rfl)) dX12_back_8 ⟨Nat.le_of_ble_eq_true rfl, Nat.le_of_ble_eq_true rfl⟩) hP hD hS hA [2, 1] [0, 3, 4, 5, 6, 7, 8, 9, 10, 11, 12, 13, 14] rfl rfl (by decide) (by decide) (fun u9 H locs hw hP hD hS => ?_)
  have hw := hw.symm
  subst hw
  have hP : va_P D vwCl (WS_X12_back cI cJ cZ cY a0 a0_a a0_image a0_texts a0_board a0_taken a0_fars a0_before a0_tape a0_pile a0_rows a0_told a0_values a0_truth a0_keeps (sX12_a v0 r_1)) H := hP.sub [0, 14, 13, 1, 2, 3, 4, 5, 6, 7, 8, 9, 10, 11, 12] rfl
  have hD : va_D A (WS_X12_back cI cJ cZ cY a0 a0_a a0_image a0_texts a0_board a0_taken a0_fars a0_before a0_tape a0_pile a0_rows a0_told a0_values a0_truth a0_keeps (sX12_a v0 r_1)) := hD.sub [0, 14, 13, 1, 2, 3, 4, 5, 6, 7, 8, 9, 10, 11, 12] (by decide) rfl
  refine lv_aload_n hx hb dX12_back_11 rfl (lv_at hl 0 rfl) ?_
  refine va_get (ci := 11) (v := .ref a0_a) (C := RX12) (T := TX12) (N := 43) hx hb htb uX12 hown hK.1 hP 0 rfl rfl 2 (by decide) (htb _ tg_938) (fun _ h9 => h9) rfl dX12_back_12 ?_
  refine lv_iconst (v := 3) hx hb dX12_back_15 (by decide) ?_
  obtain ⟨h_2, hg⟩ := g_gde hg
  refine va_iald hx hb hK.1 hP 1 0 rfl rfl (inB_vp h_2) dX12_back_16 ?_
  have hg := Option.some.inj hg
  rw [hQ]
  exact W.iret (v := ((pX12_a (sX12_a v0 r_1)) (3 : Int32).toNatClampNeg)) hx hb hr (fun t ht hW => ⟨⟨((pX12_a (sX12_a v0 r_1)) (3 : Int32).toNatClampNeg), (sX12_a v0 r_1), rfl, ⟨by rw [← hg], by rw [← hg]⟩, by rw [ht]; exact hP, hD⟩, hS.F ht⟩) hS.2.2 dX12_back_17

/-! ManyEyesModel.about(I)I -/
def WS_X12_about (cI cJ cZ cY : ClassId) (a0 a0_a a0_image a0_texts a0_board a0_taken a0_fars a0_before a0_tape a0_pile a0_rows a0_told a0_values a0_truth a0_keeps : Nat) (v0 : BX12) : va_W := (GX12 cI cJ cZ cY a0 a0_a a0_image a0_texts a0_board a0_taken a0_fars a0_before a0_tape a0_pile a0_rows a0_told a0_values a0_truth a0_keeps v0)
def f_X12_about_b137 (v0 : BX12) (J106 : (Int32 × Int32) → Option (Int32)) (x3 : Int32) (t0 : Int32) (t1 : Int32) : Option (Int32) := g_lt ((t0 + t1) : Int32) (fun x2_1 => g_lt (x3 + 1 : Int32) (fun x3_2 => J106 (x2_1, x3_2)))
def f_X12_about_b106B (v0 : BX12) (J106 : Int32 × Int32 → Option (Int32)) (x2 : Int32) (x3 : Int32) : Option (Int32) := if (((pX12_w v0) * (pX12_h v0)) : Int32) ≤ x3 then (some x2) else (g_gd (inB ((10 : Int32) + x3) 3170) (if (((pX12_a v0) (((10 : Int32) + x3) : Int32).toNatClampNeg) : Int32) ≤ 0 then (f_X12_about_b137 v0 J106 x3 x2 0) else (f_X12_about_b137 v0 J106 x3 x2 1)))
def f_X12_about_b106 (v0 : BX12) : Nat → (Int32 × Int32) → Option (Int32) := g_lp (fun J z => f_X12_about_b106B v0 J z.1 z.2)
def f_X12_about (v0 : BX12) (p0 : Int32) : Option (Int32) := if p0 = 0 then (some (pX12_w v0)) else (if p0 = 1 then (some (pX12_h v0)) else (if p0 = 2 then (g_gd (inB 0 3170) (some ((pX12_a v0) (0 : Int32).toNatClampNeg))) else (if p0 = 3 then (g_gd (inB 1 3170) (some ((pX12_a v0) (1 : Int32).toNatClampNeg))) else (if p0 = 4 then (g_gd (inB 2 3170) (some ((pX12_a v0) (2 : Int32).toNatClampNeg))) else (if p0 = 5 then (g_gd (inB 3 3170) (some ((pX12_a v0) (3 : Int32).toNatClampNeg))) else (if p0 = 6 then (g_gd (inB 4 3170) (some ((pX12_a v0) (4 : Int32).toNatClampNeg))) else (if p0 = 7 then (some (pX12_taped v0)) else (if p0 = 8 then (f_X12_about_b106 v0 fU (0, 0)) else (some (-1))))))))))
abbrev rm_X12_about : Room := { frames := 0, cells := 0, slots := 0, locals := 0 }
set_option maxHeartbeats 4000000 in
set_option maxRecDepth 100000 in
theorem k_X12_about {l : Launch} {D : va_G} {cI cJ cZ cY : ClassId} {tX tY : Nat} {sz : Nat} (a0 a0_a a0_image a0_texts a0_board a0_taken a0_fars a0_before a0_tape a0_pile a0_rows a0_told a0_values a0_truth a0_keeps : Nat) (v0 : BX12) (p0 : Int32) (res : Int32) (hg : f_X12_about v0 p0 = some res) : Met l yX12_about (Cond.code yX12_about cX12_about 4 (some .int) :: TB) rm_X12_about (PC D cI cJ cZ cY tX tY [.ref a0, .int p0] (WS_X12_about cI cJ cZ cY a0 a0_a a0_image a0_texts a0_board a0_taken a0_fars a0_before a0_tape a0_pile a0_rows a0_told a0_values a0_truth a0_keeps v0) sz) (va_Qi (fun (r : Int32) (_ : Unit) => r = res) (BC D (fun _ : Unit => WS_X12_about cI cJ cZ cY a0 a0_a a0_image a0_texts a0_board a0_taken a0_fars a0_before a0_tape a0_pile a0_rows a0_told a0_values a0_truth a0_keeps v0) (va_A (WS_X12_about cI cJ cZ cY a0 a0_a a0_image a0_texts a0_board a0_taken a0_fars a0_before a0_tape a0_pile a0_rows a0_told a0_values a0_truth a0_keeps v0) sz)) (va_A (WS_X12_about cI cJ cZ cY a0 a0_a a0_image a0_texts a0_board a0_taken a0_fars a0_before a0_tape a0_pile a0_rows a0_told a0_values a0_truth a0_keeps v0) sz)) 0 0 (va_A (WS_X12_about cI cJ cZ cY a0 a0_a a0_image a0_texts a0_board a0_taken a0_fars a0_before a0_tape a0_pile a0_rows a0_told a0_values a0_truth a0_keeps v0) sz) := by
  refine Met.ofW (cc := cX12_about) (maxL := 4) (ret := (some .int)) (by decide) rfl ?_
  intro p e s m args below meth c s₁ B hml hv
  obtain ⟨hargs, hsz, hP, hK, hD0, hT⟩ := hv
  have hx := B.exec
  have hb := B.bytes
  have hr := B.returns
  have htb : ∀ w ∈ TB, w.before args s = true := fun w h => atoms_spec (ws := Cond.code yX12_about cX12_about 4 (some .int) :: TB) B.pre w (List.mem_cons_of_mem _ h)
  have hown : s.vm.findClass "ManyEyesModel" = some m.cls := findClass_of_methodNamed B.named
  have hlocks := B.notSynchronized
  subst hsz
  have hD := hD0.self (sz := s.heap.size)
  generalize hAe : va_A (WS_X12_about cI cJ cZ cY a0 a0_a a0_image a0_texts a0_board a0_taken a0_fars a0_before a0_tape a0_pile a0_rows a0_told a0_values a0_truth a0_keeps v0) s.heap.size = A at hD hT ⊢
  have hA : ∀ q : Nat, s.heap.size ≤ q → A q := fun q h => by rw [← hAe]; exact Or.inr h
  have hS : va_S A s.heap s.heap [] := va_S.rf
  have hl := lv_entry ([.ref a0, .int p0]) (n := 4) (Nat.le_of_ble_eq_true rfl)
  have he : entryFrame m args 4 = F0 m 0 (lg_sl ([.ref a0, .int p0]) ++ List.replicate (4 - (lg_sl ([.ref a0, .int p0])).length) Slot.unset).toArray [] := by rw [hargs, lg_entry_eq]
  rw [he]
  generalize (lg_sl ([.ref a0, .int p0]) ++ List.replicate (4 - (lg_sl ([.ref a0, .int p0])).length) Slot.unset).toArray = ls at hl ⊢
  have hl : lv_has ls 4 [(0, .ref a0), (1, .int p0)] := hl
  show W p l e rm_X12_about s m args below meth c s.heap [] 0 0 _ _
  refine W.genQ (fun Q hQ => ?_)
  have b_137 : ∀ (J106 : (Int32 × Int32) → Option (Int32)) (hJ106 : ∀ (x2 : Int32) (x3 : Int32) (H : Heap) (locs : List Loc) (ls : Array Slot), va_P D vwCl (WS_X12_about cI cJ cZ cY a0 a0_a a0_image a0_texts a0_board a0_taken a0_fars a0_before a0_tape a0_pile a0_rows a0_told a0_values a0_truth a0_keeps v0) H → va_D A (WS_X12_about cI cJ cZ cY a0 a0_a a0_image a0_texts a0_board a0_taken a0_fars a0_before a0_tape a0_pile a0_rows a0_told a0_values a0_truth a0_keeps v0) → va_S A s.heap H locs → lv_has ls 4 [(0, .ref a0), (2, .int x2), (3, .int x3)] → J106 (x2, x3) = some res → W p l e rm_X12_about s m args below meth c H locs 0 0 Q (F0 m 106 ls [])), ∀ (x3 : Int32) (t0 : Int32) (t1 : Int32) (H : Heap) (locs : List Loc) (ls : Array Slot), va_P D vwCl (WS_X12_about cI cJ cZ cY a0 a0_a a0_image a0_texts a0_board a0_taken a0_fars a0_before a0_tape a0_pile a0_rows a0_told a0_values a0_truth a0_keeps v0) H → va_D A (WS_X12_about cI cJ cZ cY a0 a0_a a0_image a0_texts a0_board a0_taken a0_fars a0_before a0_tape a0_pile a0_rows a0_told a0_values a0_truth a0_keeps v0) → va_S A s.heap H locs → lv_has ls 4 [(0, .ref a0), (3, .int x3)] → f_X12_about_b137 v0 J106 x3 t0 t1 = some res → W p l e rm_X12_about s m args below meth c H locs 0 0 Q (F0 m 137 ls [.int t1, .int t0]) := by
    intro J106 hJ106 x3 t0 t1 H locs ls hP hD hS hl hg
    unfold f_X12_about_b137 at hg
    refine lv_iadd hx hb dX12_about_137 ?_
    refine lv_topi (fun x2_1 ex2_1 => ?_)
    have hg := g_lte hg x2_1 ex2_1
    refine lv_istore_n (lv' := [(2, .int x2_1), (0, .ref a0), (3, .int x3)]) hx hb dX12_about_138 rfl hl (by decide) rfl (fun ls hl => ?_)
    obtain ⟨x3_2, ex3_2⟩ : ∃ z : Int32, z = x3 + 1 := ⟨_, rfl⟩
    have hg := g_lte hg x3_2 ex3_2
    refine lv_iinc (v := x3_2) (lv' := [(3, .int x3_2), (2, .int x2_1), (0, .ref a0)]) hx hb dX12_about_139 hl (k := 2) rfl (by rw [ex3_2]; rfl) (by decide) rfl (fun ls hl => ?_)
    refine lv_goto (tgt := 106) hx hb dX12_about_142 (by decide) ?_
    exact hJ106 x2_1 x3_2 H locs ls hP hD hS (lv_sub hl [2, 1, 0] rfl) hg
  have b_106 : ∀ (n : Nat), ∀ (x2 : Int32) (x3 : Int32) (H : Heap) (locs : List Loc) (ls : Array Slot), va_P D vwCl (WS_X12_about cI cJ cZ cY a0 a0_a a0_image a0_texts a0_board a0_taken a0_fars a0_before a0_tape a0_pile a0_rows a0_told a0_values a0_truth a0_keeps v0) H → va_D A (WS_X12_about cI cJ cZ cY a0 a0_a a0_image a0_texts a0_board a0_taken a0_fars a0_before a0_tape a0_pile a0_rows a0_told a0_values a0_truth a0_keeps v0) → va_S A s.heap H locs → lv_has ls 4 [(0, .ref a0), (2, .int x2), (3, .int x3)] → f_X12_about_b106 v0 n (x2, x3) = some res → W p l e rm_X12_about s m args below meth c H locs 0 0 Q (F0 m 106 ls []) := by
    intro n
    induction n with
    | zero =>
      intro x2 x3 H locs ls hP hD hS hl hg
      exact (g_lp0 hg).elim
    | succ n ih =>
      intro x2 x3 H locs ls hP hD hS hl hg
      have hg : f_X12_about_b106B v0 (f_X12_about_b106 v0 n) x2 x3 = some res := hg
      unfold f_X12_about_b106B at hg
      refine lv_iload_n hx hb dX12_about_106 rfl (lv_at hl 2 rfl) ?_
      refine lv_aload_n hx hb dX12_about_107 rfl (lv_at hl 0 rfl) ?_
      refine va_get (ci := 11) (v := .int (pX12_w v0)) (C := RX12) (T := TX12) (N := 43) hx hb htb uX12 hown hK.1 hP 0 rfl rfl 0 (by decide) (htb _ tg_936) (fun _ h9 => h9) rfl dX12_about_108 ?_
      refine lv_aload_n hx hb dX12_about_111 rfl (lv_at hl 0 rfl) ?_
      refine va_get (ci := 11) (v := .int (pX12_h v0)) (C := RX12) (T := TX12) (N := 43) hx hb htb uX12 hown hK.1 hP 0 rfl rfl 1 (by decide) (htb _ tg_937) (fun _ h9 => h9) rfl dX12_about_112 ?_
      refine lv_imul hx hb dX12_about_115 ?_
      refine lv_icmp_ge (tgt := 145) hx hb dX12_about_116 (by decide) (fun c_3 => ?_) (fun c_3 => ?_)
      · have hg := g_it hg c_3
        refine lv_iload_n hx hb dX12_about_145 rfl (lv_at hl 1 rfl) ?_
        have hg := Option.some.inj hg
        rw [hQ]
        exact W.iret (v := x2) hx hb hr (fun t ht hW => ⟨⟨x2, (), rfl, hg, by rw [ht]; exact hP, hD⟩, hS.F ht⟩) hS.2.2 dX12_about_146
      · have hg := g_if hg c_3
        refine lv_iload_n hx hb dX12_about_119 rfl (lv_at hl 1 rfl) ?_
        refine lv_aload_n hx hb dX12_about_120 rfl (lv_at hl 0 rfl) ?_
        refine va_get (ci := 11) (v := .ref a0_a) (C := RX12) (T := TX12) (N := 43) hx hb htb uX12 hown hK.1 hP 0 rfl rfl 2 (by decide) (htb _ tg_938) (fun _ h9 => h9) rfl dX12_about_121 ?_
        refine lv_bipush (v := 10) hx hb dX12_about_124 (by decide) ?_
        refine lv_iload_n hx hb dX12_about_126 rfl (lv_at hl 2 rfl) ?_
        refine lv_iadd hx hb dX12_about_127 ?_
        obtain ⟨h_4, hg⟩ := g_gde hg
        refine va_iald hx hb hK.1 hP 1 0 rfl rfl (inB_vp h_4) dX12_about_128 ?_
        refine lv_if_le (tgt := 136) hx hb dX12_about_129 (by decide) (fun c_5 => ?_) (fun c_5 => ?_)
        · have hg := g_it hg c_5
          refine lv_iconst (v := 0) hx hb dX12_about_136 (by decide) ?_
          exact b_137 (f_X12_about_b106 v0 n) ih x3 x2 0 H locs ls hP hD hS (lv_sub hl [0, 2] rfl) hg
        · have hg := g_if hg c_5
          refine lv_iconst (v := 1) hx hb dX12_about_132 (by decide) ?_
          refine lv_goto (tgt := 137) hx hb dX12_about_133 (by decide) ?_
          exact b_137 (f_X12_about_b106 v0 n) ih x3 x2 1 H locs ls hP hD hS (lv_sub hl [0, 2] rfl) hg
  generalize hHe : s.heap = H at hP ⊢
  have hS : va_S A s.heap H [] := by rw [← hHe]; exact va_S.rf
  generalize ([] : List Loc) = locs at hS ⊢
  unfold f_X12_about at hg
  refine lv_iload_n hx hb dX12_about_0 rfl (lv_at hl 1 rfl) ?_
  by_cases c_6 : p0 = 0
  · have hg := g_it hg c_6
    refine lv_tableIn (tgt := 52) (off := 51) hx hb dX12_about_1 (by rw [c_6]; decide) (by rw [c_6]; decide) (by rw [c_6]; decide +kernel) (by decide) ?_
    refine lv_aload_n hx hb dX12_about_52 rfl (lv_at hl 0 rfl) ?_
    refine va_get (ci := 11) (v := .int (pX12_w v0)) (C := RX12) (T := TX12) (N := 43) hx hb htb uX12 hown hK.1 hP 0 rfl rfl 0 (by decide) (htb _ tg_936) (fun _ h9 => h9) rfl dX12_about_53 ?_
    have hg := Option.some.inj hg
    rw [hQ]
    exact W.iret (v := (pX12_w v0)) hx hb hr (fun t ht hW => ⟨⟨(pX12_w v0), (), rfl, hg, by rw [ht]; exact hP, hD⟩, hS.F ht⟩) hS.2.2 dX12_about_56
  have hg := g_if hg c_6
  by_cases c_7 : p0 = 1
  · have hg := g_it hg c_7
    refine lv_tableIn (tgt := 57) (off := 56) hx hb dX12_about_1 (by rw [c_7]; decide) (by rw [c_7]; decide) (by rw [c_7]; decide +kernel) (by decide) ?_
    refine lv_aload_n hx hb dX12_about_57 rfl (lv_at hl 0 rfl) ?_
    refine va_get (ci := 11) (v := .int (pX12_h v0)) (C := RX12) (T := TX12) (N := 43) hx hb htb uX12 hown hK.1 hP 0 rfl rfl 1 (by decide) (htb _ tg_937) (fun _ h9 => h9) rfl dX12_about_58 ?_
    have hg := Option.some.inj hg
    rw [hQ]
    exact W.iret (v := (pX12_h v0)) hx hb hr (fun t ht hW => ⟨⟨(pX12_h v0), (), rfl, hg, by rw [ht]; exact hP, hD⟩, hS.F ht⟩) hS.2.2 dX12_about_61
  have hg := g_if hg c_7
  by_cases c_8 : p0 = 2
  · have hg := g_it hg c_8
    refine lv_tableIn (tgt := 62) (off := 61) hx hb dX12_about_1 (by rw [c_8]; decide) (by rw [c_8]; decide) (by rw [c_8]; decide +kernel) (by decide) ?_
    refine lv_aload_n hx hb dX12_about_62 rfl (lv_at hl 0 rfl) ?_
    refine va_get (ci := 11) (v := .ref a0_a) (C := RX12) (T := TX12) (N := 43) hx hb htb uX12 hown hK.1 hP 0 rfl rfl 2 (by decide) (htb _ tg_938) (fun _ h9 => h9) rfl dX12_about_63 ?_
    refine lv_iconst (v := 0) hx hb dX12_about_66 (by decide) ?_
    obtain ⟨h_9, hg⟩ := g_gde hg
    refine va_iald hx hb hK.1 hP 1 0 rfl rfl (inB_vp h_9) dX12_about_67 ?_
    have hg := Option.some.inj hg
    rw [hQ]
    exact W.iret (v := ((pX12_a v0) (0 : Int32).toNatClampNeg)) hx hb hr (fun t ht hW => ⟨⟨((pX12_a v0) (0 : Int32).toNatClampNeg), (), rfl, hg, by rw [ht]; exact hP, hD⟩, hS.F ht⟩) hS.2.2 dX12_about_68
  have hg := g_if hg c_8
  by_cases c_10 : p0 = 3
  · have hg := g_it hg c_10
    refine lv_tableIn (tgt := 69) (off := 68) hx hb dX12_about_1 (by rw [c_10]; decide) (by rw [c_10]; decide) (by rw [c_10]; decide +kernel) (by decide) ?_
    refine lv_aload_n hx hb dX12_about_69 rfl (lv_at hl 0 rfl) ?_
    refine va_get (ci := 11) (v := .ref a0_a) (C := RX12) (T := TX12) (N := 43) hx hb htb uX12 hown hK.1 hP 0 rfl rfl 2 (by decide) (htb _ tg_938) (fun _ h9 => h9) rfl dX12_about_70 ?_
    refine lv_iconst (v := 1) hx hb dX12_about_73 (by decide) ?_
    obtain ⟨h_11, hg⟩ := g_gde hg
    refine va_iald hx hb hK.1 hP 1 0 rfl rfl (inB_vp h_11) dX12_about_74 ?_
    have hg := Option.some.inj hg
    rw [hQ]
    exact W.iret (v := ((pX12_a v0) (1 : Int32).toNatClampNeg)) hx hb hr (fun t ht hW => ⟨⟨((pX12_a v0) (1 : Int32).toNatClampNeg), (), rfl, hg, by rw [ht]; exact hP, hD⟩, hS.F ht⟩) hS.2.2 dX12_about_75
  have hg := g_if hg c_10
  by_cases c_12 : p0 = 4
  · have hg := g_it hg c_12
    refine lv_tableIn (tgt := 76) (off := 75) hx hb dX12_about_1 (by rw [c_12]; decide) (by rw [c_12]; decide) (by rw [c_12]; decide +kernel) (by decide) ?_
    refine lv_aload_n hx hb dX12_about_76 rfl (lv_at hl 0 rfl) ?_
    refine va_get (ci := 11) (v := .ref a0_a) (C := RX12) (T := TX12) (N := 43) hx hb htb uX12 hown hK.1 hP 0 rfl rfl 2 (by decide) (htb _ tg_938) (fun _ h9 => h9) rfl dX12_about_77 ?_
    refine lv_iconst (v := 2) hx hb dX12_about_80 (by decide) ?_
    obtain ⟨h_13, hg⟩ := g_gde hg
    refine va_iald hx hb hK.1 hP 1 0 rfl rfl (inB_vp h_13) dX12_about_81 ?_
    have hg := Option.some.inj hg
    rw [hQ]
    exact W.iret (v := ((pX12_a v0) (2 : Int32).toNatClampNeg)) hx hb hr (fun t ht hW => ⟨⟨((pX12_a v0) (2 : Int32).toNatClampNeg), (), rfl, hg, by rw [ht]; exact hP, hD⟩, hS.F ht⟩) hS.2.2 dX12_about_82
  have hg := g_if hg c_12
  by_cases c_14 : p0 = 5
  · have hg := g_it hg c_14
    refine lv_tableIn (tgt := 83) (off := 82) hx hb dX12_about_1 (by rw [c_14]; decide) (by rw [c_14]; decide) (by rw [c_14]; decide +kernel) (by decide) ?_
    refine lv_aload_n hx hb dX12_about_83 rfl (lv_at hl 0 rfl) ?_
    refine va_get (ci := 11) (v := .ref a0_a) (C := RX12) (T := TX12) (N := 43) hx hb htb uX12 hown hK.1 hP 0 rfl rfl 2 (by decide) (htb _ tg_938) (fun _ h9 => h9) rfl dX12_about_84 ?_
    refine lv_iconst (v := 3) hx hb dX12_about_87 (by decide) ?_
    obtain ⟨h_15, hg⟩ := g_gde hg
    refine va_iald hx hb hK.1 hP 1 0 rfl rfl (inB_vp h_15) dX12_about_88 ?_
    have hg := Option.some.inj hg
    rw [hQ]
    exact W.iret (v := ((pX12_a v0) (3 : Int32).toNatClampNeg)) hx hb hr (fun t ht hW => ⟨⟨((pX12_a v0) (3 : Int32).toNatClampNeg), (), rfl, hg, by rw [ht]; exact hP, hD⟩, hS.F ht⟩) hS.2.2 dX12_about_89
  have hg := g_if hg c_14
  by_cases c_16 : p0 = 6
  · have hg := g_it hg c_16
    refine lv_tableIn (tgt := 90) (off := 89) hx hb dX12_about_1 (by rw [c_16]; decide) (by rw [c_16]; decide) (by rw [c_16]; decide +kernel) (by decide) ?_
    refine lv_aload_n hx hb dX12_about_90 rfl (lv_at hl 0 rfl) ?_
    refine va_get (ci := 11) (v := .ref a0_a) (C := RX12) (T := TX12) (N := 43) hx hb htb uX12 hown hK.1 hP 0 rfl rfl 2 (by decide) (htb _ tg_938) (fun _ h9 => h9) rfl dX12_about_91 ?_
    refine lv_iconst (v := 4) hx hb dX12_about_94 (by decide) ?_
    obtain ⟨h_17, hg⟩ := g_gde hg
    refine va_iald hx hb hK.1 hP 1 0 rfl rfl (inB_vp h_17) dX12_about_95 ?_
    have hg := Option.some.inj hg
    rw [hQ]
    exact W.iret (v := ((pX12_a v0) (4 : Int32).toNatClampNeg)) hx hb hr (fun t ht hW => ⟨⟨((pX12_a v0) (4 : Int32).toNatClampNeg), (), rfl, hg, by rw [ht]; exact hP, hD⟩, hS.F ht⟩) hS.2.2 dX12_about_96
  have hg := g_if hg c_16
  by_cases c_18 : p0 = 7
  · have hg := g_it hg c_18
    refine lv_tableIn (tgt := 97) (off := 96) hx hb dX12_about_1 (by rw [c_18]; decide) (by rw [c_18]; decide) (by rw [c_18]; decide +kernel) (by decide) ?_
    refine lv_aload_n hx hb dX12_about_97 rfl (lv_at hl 0 rfl) ?_
    refine va_get (ci := 11) (v := .int (pX12_taped v0)) (C := RX12) (T := TX12) (N := 43) hx hb htb uX12 hown hK.1 hP 0 rfl rfl 10 (by decide) (htb _ tg_946) (fun _ h9 => h9) rfl dX12_about_98 ?_
    have hg := Option.some.inj hg
    rw [hQ]
    exact W.iret (v := (pX12_taped v0)) hx hb hr (fun t ht hW => ⟨⟨(pX12_taped v0), (), rfl, hg, by rw [ht]; exact hP, hD⟩, hS.F ht⟩) hS.2.2 dX12_about_101
  have hg := g_if hg c_18
  by_cases c_19 : p0 = 8
  · have hg := g_it hg c_19
    refine lv_tableIn (tgt := 102) (off := 101) hx hb dX12_about_1 (by rw [c_19]; decide) (by rw [c_19]; decide) (by rw [c_19]; decide +kernel) (by decide) ?_
    refine lv_iconst (v := 0) hx hb dX12_about_102 (by decide) ?_
    refine lv_istore_n (lv' := [(2, .int 0), (0, .ref a0), (1, .int p0)]) hx hb dX12_about_103 rfl hl (by decide) rfl (fun ls hl => ?_)
    refine lv_iconst (v := 0) hx hb dX12_about_104 (by decide) ?_
    refine lv_istore_n (lv' := [(3, .int 0), (2, .int 0), (0, .ref a0), (1, .int p0)]) hx hb dX12_about_105 rfl hl (by decide) rfl (fun ls hl => ?_)
    exact b_106 fU 0 0 H locs ls hP hD hS (lv_sub hl [2, 1, 0] rfl) hg
  have hg := g_if hg c_19
  have zc_6 := lv_neT (a := 0) c_6 (by decide)
  have zc_7 := lv_neT (a := 1) c_7 (by decide)
  have zc_8 := lv_neT (a := 2) c_8 (by decide)
  have zc_10 := lv_neT (a := 3) c_10 (by decide)
  have zc_12 := lv_neT (a := 4) c_12 (by decide)
  have zc_14 := lv_neT (a := 5) c_14 (by decide)
  have zc_16 := lv_neT (a := 6) c_16 (by decide)
  have zc_18 := lv_neT (a := 7) c_18 (by decide)
  have zc_19 := lv_neT (a := 8) c_19 (by decide)
  refine lv_tableOut (tgt := 147) hx hb dX12_about_1 (by omega) (by decide) ?_
  refine lv_iconst (v := (-1)) hx hb dX12_about_147 (by decide) ?_
  have hg := Option.some.inj hg
  rw [hQ]
  exact W.iret (v := (-1)) hx hb hr (fun t ht hW => ⟨⟨(-1), (), rfl, hg, by rw [ht]; exact hP, hD⟩, hS.F ht⟩) hS.2.2 dX12_about_148

/-- a contract out of a walk, for a method of a class that has rows among the natives, but none for this method -/
theorem Met.ofWF {l : Launch} {y : MethodName} {ws ws' : List Cond} {rm : Room} {Pc : Array Value → State → Prop} {Qc : Array Value → State → Outcome → State → Prop} {mc ms : Nat} {free : Addr → Prop} {cc : ByteArray} {maxL : Nat} {ret : Option FieldType}
    (hy : plainFor y = true) (hw : ws = Cond.code y cc maxL ret :: ws')
    (body : ∀ p e s m args below meth c s₁, BodyLoose p l y (headSpec ws rm) cc maxL ret e s m args below meth c s₁ → c.maxLocals = maxL → Pc args s →
      W p l e (headSpec ws rm).room s m args below meth c s.heap [] 0 0 (MQ below Qc args s mc ms free) (entryFrame m args maxL)) : Met l y ws rm Pc Qc mc ms free := by
  refine MetFree.of_bodySF (code := cc) (maxLocals := maxL) (ret := ret) hy (fun args s m h hn => ?_) (fun p e s m args below meth c s₁ B hml hP _ => ?_)
  · have hc := Cond.code_spec hn (atoms_spec (ws := ws) h _ (by rw [hw]; exact List.mem_cons_self))
    obtain ⟨meth, c, h1, h2, h3, h4, h5, h6, -, -⟩ := hc
    exact ⟨meth, c, h1, h2, h3, h4, h5, h6⟩
  · obtain ⟨t, a1, o, b1, b2, b3⟩ := body p e s m args below meth c s₁ B hml hP s₁ (by rw [B.state]; rfl) (Stand.of_body B)
    exact ⟨t, o, a1, b1, b2, ⟨b3.1, b3.2⟩⟩
/-! java/lang/Math.floorDiv(II)I -/
def WS_J9_floorDiv_7cf53 (cI cJ cZ cY : ClassId) : va_W := []
def f_J9_floorDiv_7cf53 (p0 : Int32) (p1 : Int32) : Option (Int32) := g_gd (¬ (p1 : Int32) = 0) (g_lt ((p0 / p1) : Int32) (fun x2_2 => if (0 : Int32) ≤ (p0 ^^^ p1) then (some x2_2) else (if ((x2_2 * p1) : Int32) = p0 then (some x2_2) else (some (x2_2 - 1)))))
abbrev rm_J9_floorDiv_7cf53 : Room := { frames := 0, cells := 0, slots := 0, locals := 0 }
set_option maxHeartbeats 4000000 in
set_option maxRecDepth 100000 in
theorem k_J9_floorDiv_7cf53 {l : Launch} {D : va_G} {cI cJ cZ cY : ClassId} {tX tY : Nat} {sz : Nat} (p0 : Int32) (p1 : Int32) (res : Int32) (hg : f_J9_floorDiv_7cf53 p0 p1 = some res) : Met l yJ9_floorDiv_7cf53 (Cond.code yJ9_floorDiv_7cf53 cJ9_floorDiv_7cf53 3 (some .int) :: TB) rm_J9_floorDiv_7cf53 (PC D cI cJ cZ cY tX tY [.int p0, .int p1] (WS_J9_floorDiv_7cf53 cI cJ cZ cY) sz) (va_Qi (fun (r : Int32) (_ : Unit) => r = res) (BC D (fun _ : Unit => WS_J9_floorDiv_7cf53 cI cJ cZ cY) (va_A (WS_J9_floorDiv_7cf53 cI cJ cZ cY) sz)) (va_A (WS_J9_floorDiv_7cf53 cI cJ cZ cY) sz)) 0 0 (va_A (WS_J9_floorDiv_7cf53 cI cJ cZ cY) sz) := by
  refine Met.ofWF (cc := cJ9_floorDiv_7cf53) (maxL := 3) (ret := (some .int)) (by decide +kernel) rfl ?_
  intro p e s m args below meth c s₁ B hml hv
  obtain ⟨hargs, hsz, hP, hK, hD0, hT⟩ := hv
  have hx := B.exec
  have hb := B.bytes
  have hr := B.returns
  have htb : ∀ w ∈ TB, w.before args s = true := fun w h => atoms_spec (ws := Cond.code yJ9_floorDiv_7cf53 cJ9_floorDiv_7cf53 3 (some .int) :: TB) B.pre w (List.mem_cons_of_mem _ h)
  have hown : s.vm.findClass "java/lang/Math" = some m.cls := findClass_of_methodNamed B.named
  have hlocks := B.notSynchronized
  subst hsz
  have hD := hD0.self (sz := s.heap.size)
  generalize hAe : va_A (WS_J9_floorDiv_7cf53 cI cJ cZ cY) s.heap.size = A at hD hT ⊢
  have hA : ∀ q : Nat, s.heap.size ≤ q → A q := fun q h => by rw [← hAe]; exact Or.inr h
  have hS : va_S A s.heap s.heap [] := va_S.rf
  have hl := lv_entry ([.int p0, .int p1]) (n := 3) (Nat.le_of_ble_eq_true rfl)
  have he : entryFrame m args 3 = F0 m 0 (lg_sl ([.int p0, .int p1]) ++ List.replicate (3 - (lg_sl ([.int p0, .int p1])).length) Slot.unset).toArray [] := by rw [hargs, lg_entry_eq]
  rw [he]
  generalize (lg_sl ([.int p0, .int p1]) ++ List.replicate (3 - (lg_sl ([.int p0, .int p1])).length) Slot.unset).toArray = ls at hl ⊢
  have hl : lv_has ls 3 [(0, .int p0), (1, .int p1)] := hl
  show W p l e rm_J9_floorDiv_7cf53 s m args below meth c s.heap [] 0 0 _ _
  refine W.genQ (fun Q hQ => ?_)
  generalize hHe : s.heap = H at hP ⊢
  have hS : va_S A s.heap H [] := by rw [← hHe]; exact va_S.rf
  generalize ([] : List Loc) = locs at hS ⊢
  unfold f_J9_floorDiv_7cf53 at hg
  refine lv_iload_n hx hb dJ9_floorDiv_7cf53_0 rfl (lv_at hl 0 rfl) ?_
  refine lv_iload_n hx hb dJ9_floorDiv_7cf53_1 rfl (lv_at hl 1 rfl) ?_
  obtain ⟨h_1, hg⟩ := g_gde hg
  refine lv_idiv hx hb dJ9_floorDiv_7cf53_2 h_1 ?_
  refine lv_topi (fun x2_2 ex2_2 => ?_)
  have hg := g_lte hg x2_2 ex2_2
  refine lv_istore_n (lv' := [(2, .int x2_2), (0, .int p0), (1, .int p1)]) hx hb dJ9_floorDiv_7cf53_3 rfl hl (by decide) rfl (fun ls hl => ?_)
  refine lv_iload_n hx hb dJ9_floorDiv_7cf53_4 rfl (lv_at hl 1 rfl) ?_
  refine lv_iload_n hx hb dJ9_floorDiv_7cf53_5 rfl (lv_at hl 2 rfl) ?_
  refine lv_ixor hx hb dJ9_floorDiv_7cf53_6 ?_
  refine lv_if_ge (tgt := 21) hx hb dJ9_floorDiv_7cf53_7 (by decide) (fun c_3 => ?_) (fun c_3 => ?_)
  · have hg := g_it hg c_3
    refine lv_iload_n hx hb dJ9_floorDiv_7cf53_21 rfl (lv_at hl 0 rfl) ?_
    have hg := Option.some.inj hg
    rw [hQ]
    exact W.iret (v := x2_2) hx hb hr (fun t ht hW => ⟨⟨x2_2, (), rfl, hg, by rw [ht]; exact hP, hD⟩, hS.F ht⟩) hS.2.2 dJ9_floorDiv_7cf53_22
  · have hg := g_if hg c_3
    refine lv_iload_n hx hb dJ9_floorDiv_7cf53_10 rfl (lv_at hl 0 rfl) ?_
    refine lv_iload_n hx hb dJ9_floorDiv_7cf53_11 rfl (lv_at hl 2 rfl) ?_
    refine lv_imul hx hb dJ9_floorDiv_7cf53_12 ?_
    refine lv_iload_n hx hb dJ9_floorDiv_7cf53_13 rfl (lv_at hl 1 rfl) ?_
    refine lv_icmp_eq (tgt := 21) hx hb dJ9_floorDiv_7cf53_14 (by decide) (fun c_4 => ?_) (fun c_4 => ?_)
    · have hg := g_it hg c_4
      refine lv_iload_n hx hb dJ9_floorDiv_7cf53_21 rfl (lv_at hl 0 rfl) ?_
      have hg := Option.some.inj hg
      rw [hQ]
      exact W.iret (v := x2_2) hx hb hr (fun t ht hW => ⟨⟨x2_2, (), rfl, hg, by rw [ht]; exact hP, hD⟩, hS.F ht⟩) hS.2.2 dJ9_floorDiv_7cf53_22
    · have hg := g_if hg c_4
      refine lv_iload_n hx hb dJ9_floorDiv_7cf53_17 rfl (lv_at hl 0 rfl) ?_
      refine lv_iconst (v := 1) hx hb dJ9_floorDiv_7cf53_18 (by decide) ?_
      refine lv_isub hx hb dJ9_floorDiv_7cf53_19 ?_
      have hg := Option.some.inj hg
      rw [hQ]
      exact W.iret (v := (x2_2 - 1)) hx hb hr (fun t ht hW => ⟨⟨(x2_2 - 1), (), rfl, hg, by rw [ht]; exact hP, hD⟩, hS.F ht⟩) hS.2.2 dJ9_floorDiv_7cf53_20

/-! java/util/Arrays.fill([II)V -/
def WS_J7_fill_53178 (cI cJ cZ cY : ClassId) (a0 n0 : Nat) (v0 : (Nat → Int32)) : va_W := (GA cI a0 n0 v0)
def f_J7_fill_53178_b5B (n0 : Nat) (J5 : Int32 × Int32 × Int32 × (Nat → Int32) → Option ((Nat → Int32))) (x1 : Int32) (x2 : Int32) (x3 : Int32) (v0 : (Nat → Int32)) : Option ((Nat → Int32)) := if (x3 : Int32) ≤ x2 then (some (v0)) else (g_gd (inB x2 n0) (g_lt (upd v0 (x2 : Int32).toNatClampNeg x1) (fun v0_3 => g_lt (x2 + 1 : Int32) (fun x2_4 => J5 (x1, x2_4, x3, v0_3)))))
def f_J7_fill_53178_b5 (n0 : Nat) : Nat → (Int32 × Int32 × Int32 × (Nat → Int32)) → Option ((Nat → Int32)) := g_lp (fun J z => f_J7_fill_53178_b5B n0 J z.1 z.2.1 z.2.2.1 z.2.2.2)
def f_J7_fill_53178 (n0 : Nat) (v0 : (Nat → Int32)) (p1 : Int32) : Option ((Nat → Int32)) := g_lt ((Int32.ofNat n0) : Int32) (fun x3_5 => f_J7_fill_53178_b5 n0 fU (p1, 0, x3_5, v0))
abbrev rm_J7_fill_53178 : Room := { frames := 0, cells := 0, slots := 0, locals := 0 }
set_option maxHeartbeats 4000000 in
set_option maxRecDepth 100000 in
theorem k_J7_fill_53178 {l : Launch} {D : va_G} {cI cJ cZ cY : ClassId} {tX tY : Nat} {sz : Nat} (a0 n0 : Nat) (v0 : (Nat → Int32)) (p1 : Int32) (res : (Nat → Int32)) (hg : f_J7_fill_53178 n0 v0 p1 = some res) : Met l yJ7_fill_53178 (Cond.code yJ7_fill_53178 cJ7_fill_53178 4 none :: TB) rm_J7_fill_53178 (PC D cI cJ cZ cY tX tY [.ref a0, .int p1] (WS_J7_fill_53178 cI cJ cZ cY a0 n0 v0) sz) (va_Qv (fun (u : (Nat → Int32)) => u = res) (BC D (fun u : (Nat → Int32) => WS_J7_fill_53178 cI cJ cZ cY a0 n0 u) (va_A (WS_J7_fill_53178 cI cJ cZ cY a0 n0 v0) sz)) (va_A (WS_J7_fill_53178 cI cJ cZ cY a0 n0 v0) sz)) 0 0 (va_A (WS_J7_fill_53178 cI cJ cZ cY a0 n0 v0) sz) := by
  refine Met.ofW (cc := cJ7_fill_53178) (maxL := 4) (ret := none) (by decide) rfl ?_
  intro p e s m args below meth c s₁ B hml hv
  obtain ⟨hargs, hsz, hP, hK, hD0, hT⟩ := hv
  have hx := B.exec
  have hb := B.bytes
  have hr := B.returns
  have htb : ∀ w ∈ TB, w.before args s = true := fun w h => atoms_spec (ws := Cond.code yJ7_fill_53178 cJ7_fill_53178 4 none :: TB) B.pre w (List.mem_cons_of_mem _ h)
  have hown : s.vm.findClass "java/util/Arrays" = some m.cls := findClass_of_methodNamed B.named
  have hlocks := B.notSynchronized
  subst hsz
  have hD := hD0.self (sz := s.heap.size)
  generalize hAe : va_A (WS_J7_fill_53178 cI cJ cZ cY a0 n0 v0) s.heap.size = A at hD hT ⊢
  have hA : ∀ q : Nat, s.heap.size ≤ q → A q := fun q h => by rw [← hAe]; exact Or.inr h
  have hS : va_S A s.heap s.heap [] := va_S.rf
  have hl := lv_entry ([.ref a0, .int p1]) (n := 4) (Nat.le_of_ble_eq_true rfl)
  have he : entryFrame m args 4 = F0 m 0 (lg_sl ([.ref a0, .int p1]) ++ List.replicate (4 - (lg_sl ([.ref a0, .int p1])).length) Slot.unset).toArray [] := by rw [hargs, lg_entry_eq]
  rw [he]
  generalize (lg_sl ([.ref a0, .int p1]) ++ List.replicate (4 - (lg_sl ([.ref a0, .int p1])).length) Slot.unset).toArray = ls at hl ⊢
  have hl : lv_has ls 4 [(0, .ref a0), (1, .int p1)] := hl
  show W p l e rm_J7_fill_53178 s m args below meth c s.heap [] 0 0 _ _
  refine W.genQ (fun Q hQ => ?_)
  have b_5 : ∀ (n : Nat), ∀ (x1 : Int32) (x2 : Int32) (x3 : Int32) (v0 : (Nat → Int32)) (H : Heap) (locs : List Loc) (ls : Array Slot), va_P D vwCl (WS_J7_fill_53178 cI cJ cZ cY a0 n0 v0) H → va_D A (WS_J7_fill_53178 cI cJ cZ cY a0 n0 v0) → va_S A s.heap H locs → lv_has ls 4 [(0, .ref a0), (1, .int x1), (2, .int x2), (3, .int x3)] → f_J7_fill_53178_b5 n0 n (x1, x2, x3, v0) = some res → W p l e rm_J7_fill_53178 s m args below meth c H locs 0 0 Q (F0 m 5 ls []) := by
    intro n
    induction n with
    | zero =>
      intro x1 x2 x3 v0 H locs ls hP hD hS hl hg
      exact (g_lp0 hg).elim
    | succ n ih =>
      intro x1 x2 x3 v0 H locs ls hP hD hS hl hg
      have hg : f_J7_fill_53178_b5B n0 (f_J7_fill_53178_b5 n0 n) x1 x2 x3 v0 = some res := hg
      unfold f_J7_fill_53178_b5B at hg
      refine lv_iload_n hx hb dJ7_fill_53178_5 rfl (lv_at hl 2 rfl) ?_
      refine lv_iload_n hx hb dJ7_fill_53178_6 rfl (lv_at hl 3 rfl) ?_
      refine lv_icmp_ge (tgt := 20) hx hb dJ7_fill_53178_7 (by decide) (fun c_1 => ?_) (fun c_1 => ?_)
      · have hg := g_it hg c_1
        have hg := Option.some.inj hg
        rw [hQ]
        exact W.vret hx hb hr (fun t ht hW => ⟨⟨(v0), rfl, hg, by rw [ht]; exact hP, hD⟩, hS.F ht⟩) hS.2.2 dJ7_fill_53178_20
      · have hg := g_if hg c_1
        refine lv_aload_n hx hb dJ7_fill_53178_10 rfl (lv_at hl 0 rfl) ?_
        refine lv_iload_n hx hb dJ7_fill_53178_11 rfl (lv_at hl 2 rfl) ?_
        refine lv_iload_n hx hb dJ7_fill_53178_12 rfl (lv_at hl 1 rfl) ?_
        obtain ⟨h_2, hg⟩ := g_gde hg
        refine va_iast hx hb hK.1 hP hD hS 0 0 rfl rfl (inB_vp h_2) dJ7_fill_53178_13 (fun H locs hP hD hS => ?_)
        obtain ⟨v0_3, ev0_3⟩ : ∃ z, z = upd v0 (x2 : Int32).toNatClampNeg x1 := ⟨_, rfl⟩
        have hP : va_P D vwCl (WS_J7_fill_53178 cI cJ cZ cY a0 n0 v0_3) H := by rw [ev0_3]; exact hP
        have hD : va_D A (WS_J7_fill_53178 cI cJ cZ cY a0 n0 v0_3) := by rw [ev0_3]; exact hD
        have hg := g_lte hg v0_3 ev0_3
        obtain ⟨x2_4, ex2_4⟩ : ∃ z : Int32, z = x2 + 1 := ⟨_, rfl⟩
        have hg := g_lte hg x2_4 ex2_4
        refine lv_iinc (v := x2_4) (lv' := [(2, .int x2_4), (0, .ref a0), (1, .int x1), (3, .int x3)]) hx hb dJ7_fill_53178_14 hl (k := 2) rfl (by rw [ex2_4]; rfl) (by decide) rfl (fun ls hl => ?_)
        refine lv_goto (tgt := 5) hx hb dJ7_fill_53178_17 (by decide) ?_
        exact ih x1 x2_4 x3 v0_3 H locs ls hP hD hS (lv_sub hl [1, 2, 0, 3] rfl) hg
  generalize hHe : s.heap = H at hP ⊢
  have hS : va_S A s.heap H [] := by rw [← hHe]; exact va_S.rf
  generalize ([] : List Loc) = locs at hS ⊢
  unfold f_J7_fill_53178 at hg
  refine lv_iconst (v := 0) hx hb dJ7_fill_53178_0 (by decide) ?_
  refine lv_istore_n (lv' := [(2, .int 0), (0, .ref a0), (1, .int p1)]) hx hb dJ7_fill_53178_1 rfl hl (by decide) rfl (fun ls hl => ?_)
  refine lv_aload_n hx hb dJ7_fill_53178_2 rfl (lv_at hl 1 rfl) ?_
  refine va_alen (v := (Int32.ofNat n0)) hx hb hK.1 hP 0 0 rfl rfl rfl dJ7_fill_53178_3 ?_
  refine lv_topi (fun x3_5 ex3_5 => ?_)
  have hg := g_lte hg x3_5 ex3_5
  refine lv_istore_n (lv' := [(3, .int x3_5), (2, .int 0), (0, .ref a0), (1, .int p1)]) hx hb dJ7_fill_53178_4 rfl hl (by decide) rfl (fun ls hl => ?_)
  exact b_5 fU p1 0 x3_5 v0 H locs ls hP hD hS (lv_sub hl [2, 3, 1, 0] rfl) hg

/-! ManyEyesLaw.cell([II)I -/
def WS_L_cell (cI cJ cZ cY : ClassId) (a0 n0 : Nat) (v0 : (Nat → Int32)) : va_W := (GA cI a0 n0 v0)
def f_L_cell (n0 : Nat) (v0 : (Nat → Int32)) (p1 : Int32) : Option (Int32) := if ((Int32.ofNat n0) : Int32) ≤ p1 then (some 0) else (g_gd (inB p1 n0) (some (v0 (p1 : Int32).toNatClampNeg)))
abbrev rm_L_cell : Room := { frames := 0, cells := 0, slots := 0, locals := 0 }
set_option maxHeartbeats 4000000 in
set_option maxRecDepth 100000 in
theorem k_L_cell {l : Launch} {D : va_G} {cI cJ cZ cY : ClassId} {tX tY : Nat} {sz : Nat} (a0 n0 : Nat) (v0 : (Nat → Int32)) (p1 : Int32) (res : Int32) (hg : f_L_cell n0 v0 p1 = some res) : Met l yL_cell (Cond.code yL_cell cL_cell 2 (some .int) :: TB) rm_L_cell (PC D cI cJ cZ cY tX tY [.ref a0, .int p1] (WS_L_cell cI cJ cZ cY a0 n0 v0) sz) (va_Qi (fun (r : Int32) (_ : Unit) => r = res) (BC D (fun _ : Unit => WS_L_cell cI cJ cZ cY a0 n0 v0) (va_A (WS_L_cell cI cJ cZ cY a0 n0 v0) sz)) (va_A (WS_L_cell cI cJ cZ cY a0 n0 v0) sz)) 0 0 (va_A (WS_L_cell cI cJ cZ cY a0 n0 v0) sz) := by
  refine Met.ofW (cc := cL_cell) (maxL := 2) (ret := (some .int)) (by decide) rfl ?_
  intro p e s m args below meth c s₁ B hml hv
  obtain ⟨hargs, hsz, hP, hK, hD0, hT⟩ := hv
  have hx := B.exec
  have hb := B.bytes
  have hr := B.returns
  have htb : ∀ w ∈ TB, w.before args s = true := fun w h => atoms_spec (ws := Cond.code yL_cell cL_cell 2 (some .int) :: TB) B.pre w (List.mem_cons_of_mem _ h)
  have hown : s.vm.findClass "ManyEyesLaw" = some m.cls := findClass_of_methodNamed B.named
  have hlocks := B.notSynchronized
  subst hsz
  have hD := hD0.self (sz := s.heap.size)
  generalize hAe : va_A (WS_L_cell cI cJ cZ cY a0 n0 v0) s.heap.size = A at hD hT ⊢
  have hA : ∀ q : Nat, s.heap.size ≤ q → A q := fun q h => by rw [← hAe]; exact Or.inr h
  have hS : va_S A s.heap s.heap [] := va_S.rf
  have hl := lv_entry ([.ref a0, .int p1]) (n := 2) (Nat.le_of_ble_eq_true rfl)
  have he : entryFrame m args 2 = F0 m 0 (lg_sl ([.ref a0, .int p1]) ++ List.replicate (2 - (lg_sl ([.ref a0, .int p1])).length) Slot.unset).toArray [] := by rw [hargs, lg_entry_eq]
  rw [he]
  generalize (lg_sl ([.ref a0, .int p1]) ++ List.replicate (2 - (lg_sl ([.ref a0, .int p1])).length) Slot.unset).toArray = ls at hl ⊢
  have hl : lv_has ls 2 [(0, .ref a0), (1, .int p1)] := hl
  show W p l e rm_L_cell s m args below meth c s.heap [] 0 0 _ _
  refine W.genQ (fun Q hQ => ?_)
  generalize hHe : s.heap = H at hP ⊢
  have hS : va_S A s.heap H [] := by rw [← hHe]; exact va_S.rf
  generalize ([] : List Loc) = locs at hS ⊢
  unfold f_L_cell at hg
  refine lv_iload_n hx hb dL_cell_0 rfl (lv_at hl 1 rfl) ?_
  refine lv_aload_n hx hb dL_cell_1 rfl (lv_at hl 0 rfl) ?_
  refine va_alen (v := (Int32.ofNat n0)) hx hb hK.1 hP 0 0 rfl rfl rfl dL_cell_2 ?_
  refine lv_icmp_ge (tgt := 12) hx hb dL_cell_3 (by decide) (fun c_1 => ?_) (fun c_1 => ?_)
  · have hg := g_it hg c_1
    refine lv_iconst (v := 0) hx hb dL_cell_12 (by decide) ?_
    have hg := Option.some.inj hg
    rw [hQ]
    exact W.iret (v := 0) hx hb hr (fun t ht hW => ⟨⟨0, (), rfl, hg, by rw [ht]; exact hP, hD⟩, hS.F ht⟩) hS.2.2 dL_cell_13
  · have hg := g_if hg c_1
    refine lv_aload_n hx hb dL_cell_6 rfl (lv_at hl 0 rfl) ?_
    refine lv_iload_n hx hb dL_cell_7 rfl (lv_at hl 1 rfl) ?_
    obtain ⟨h_2, hg⟩ := g_gde hg
    refine va_iald hx hb hK.1 hP 0 0 rfl rfl (inB_vp h_2) dL_cell_8 ?_
    refine lv_goto (tgt := 13) hx hb dL_cell_9 (by decide) ?_
    have hg := Option.some.inj hg
    rw [hQ]
    exact W.iret (v := (v0 (p1 : Int32).toNatClampNeg)) hx hb hr (fun t ht hW => ⟨⟨(v0 (p1 : Int32).toNatClampNeg), (), rfl, hg, by rw [ht]; exact hP, hD⟩, hS.F ht⟩) hS.2.2 dL_cell_13

/-! ManyEyes$Eye.isLens(I)Z -/
def WS_X1_isLens (cI cJ cZ cY : ClassId) (a0 a0_lensSide a0_lensWidth a0_pairA a0_pairB a0_pairDelay : Nat) (v0 : BX1) : va_W := (GX1 cI cJ cZ cY a0 a0_lensSide a0_lensWidth a0_pairA a0_pairB a0_pairDelay v0)
def f_X1_isLens (v0 : BX1) (p0 : Int32) : Option (Int32) := (f_X11_isWithin p0 0 ((pX1_lenses v0) - 1)).bind (fun r_1 => g_gd (r_1 = 0 ∨ r_1 = 1) (some r_1))
abbrev rm_X1_isLens : Room := { frames := 1, cells := 0, slots := 0, locals := 22 }
set_option maxHeartbeats 4000000 in
set_option maxRecDepth 100000 in
theorem k_X1_isLens {l : Launch} {D : va_G} {cI cJ cZ cY : ClassId} {tX tY : Nat} {sz : Nat} (a0 a0_lensSide a0_lensWidth a0_pairA a0_pairB a0_pairDelay : Nat) (v0 : BX1) (p0 : Int32) (res : Int32) (hg : f_X1_isLens v0 p0 = some res) : Met l yX1_isLens (Cond.code yX1_isLens cX1_isLens 2 (some .boolean) :: TB) rm_X1_isLens (PC D cI cJ cZ cY tX tY [.ref a0, .int p0] (WS_X1_isLens cI cJ cZ cY a0 a0_lensSide a0_lensWidth a0_pairA a0_pairB a0_pairDelay v0) sz) (va_Qi (fun (r : Int32) (_ : Unit) => r = res) (BC D (fun _ : Unit => WS_X1_isLens cI cJ cZ cY a0 a0_lensSide a0_lensWidth a0_pairA a0_pairB a0_pairDelay v0) (va_A (WS_X1_isLens cI cJ cZ cY a0 a0_lensSide a0_lensWidth a0_pairA a0_pairB a0_pairDelay v0) sz)) (va_A (WS_X1_isLens cI cJ cZ cY a0 a0_lensSide a0_lensWidth a0_pairA a0_pairB a0_pairDelay v0) sz)) 0 0 (va_A (WS_X1_isLens cI cJ cZ cY a0 a0_lensSide a0_lensWidth a0_pairA a0_pairB a0_pairDelay v0) sz) := by
  refine Met.ofW (cc := cX1_isLens) (maxL := 2) (ret := (some .boolean)) (by decide) rfl ?_
  intro p e s m args below meth c s₁ B hml hv
  obtain ⟨hargs, hsz, hP, hK, hD0, hT⟩ := hv
  have hx := B.exec
  have hb := B.bytes
  have hr := B.returns
  have htb : ∀ w ∈ TB, w.before args s = true := fun w h => atoms_spec (ws := Cond.code yX1_isLens cX1_isLens 2 (some .boolean) :: TB) B.pre w (List.mem_cons_of_mem _ h)
  have hown : s.vm.findClass "ManyEyes$Eye" = some m.cls := findClass_of_methodNamed B.named
  have hlocks := B.notSynchronized
  subst hsz
  have hD := hD0.self (sz := s.heap.size)
  generalize hAe : va_A (WS_X1_isLens cI cJ cZ cY a0 a0_lensSide a0_lensWidth a0_pairA a0_pairB a0_pairDelay v0) s.heap.size = A at hD hT ⊢
  have hA : ∀ q : Nat, s.heap.size ≤ q → A q := fun q h => by rw [← hAe]; exact Or.inr h
  have hS : va_S A s.heap s.heap [] := va_S.rf
  have hl := lv_entry ([.ref a0, .int p0]) (n := 2) (Nat.le_of_ble_eq_true rfl)
  have he : entryFrame m args 2 = F0 m 0 (lg_sl ([.ref a0, .int p0]) ++ List.replicate (2 - (lg_sl ([.ref a0, .int p0])).length) Slot.unset).toArray [] := by rw [hargs, lg_entry_eq]
  rw [he]
  generalize (lg_sl ([.ref a0, .int p0]) ++ List.replicate (2 - (lg_sl ([.ref a0, .int p0])).length) Slot.unset).toArray = ls at hl ⊢
  have hl : lv_has ls 2 [(0, .ref a0), (1, .int p0)] := hl
  show W p l e rm_X1_isLens s m args below meth c s.heap [] 0 0 _ _
  refine W.genQ (fun Q hQ => ?_)
  generalize hHe : s.heap = H at hP ⊢
  have hS : va_S A s.heap H [] := by rw [← hHe]; exact va_S.rf
  generalize ([] : List Loc) = locs at hS ⊢
  unfold f_X1_isLens at hg
  refine lv_iload_n hx hb dX1_isLens_0 rfl (lv_at hl 1 rfl) ?_
  refine lv_iconst (v := 0) hx hb dX1_isLens_1 (by decide) ?_
  refine lv_aload_n hx hb dX1_isLens_2 rfl (lv_at hl 0 rfl) ?_
  refine va_get (ci := 0) (v := .int (pX1_lenses v0)) (C := RX1) (T := TX1) (N := 7) hx hb htb uX1 hown hK.1 hP 0 rfl rfl 5 (by decide) (htb _ tg_107) (fun _ h9 => h9) rfl dX1_isLens_3 ?_
  refine lv_iconst (v := 1) hx hb dX1_isLens_6 (by decide) ?_
  refine lv_isub hx hb dX1_isLens_7 ?_
  obtain ⟨r_1, hr_1, hg⟩ := g_bd hg
  refine cc_i (va_runSN (As := [.int p0, .int 0, .int ((pX1_lenses v0) - 1)]) (rest := []) ⟨hx, hb, hml, hown, htb⟩ (k_X11_isWithin p0 0 ((pX1_lenses v0) - 1) r_1 hr_1) (cw_SN 3 htb tg_450 tg_1 (hK.2.1 _ nw_491) tg_449 rfl rfl (by decide +kernel) ⟨Nat.le_of_ble_eq_true rfl, Nat.le_of_ble_eq_true rfl⟩) ⟨PC.blind, PC.pre hK hT hP hD hS hA [] rfl (by decide)⟩ rfl rfl hl.1 rfl (lv_room (Nat.le_of_ble_eq_true rfl)) dX1_isLens_8 ⟨Nat.le_of_ble_eq_true rfl, Nat.le_of_ble_eq_true rfl⟩) hP hD hS hA [] [0, 1, 2, 3, 4, 5] rfl rfl (by decide) (by decide) (fun r9 u9 H locs hw hP hD hS => ?_)
  have hw := hw.symm
  subst hw
  have hP : va_P D vwCl (WS_X1_isLens cI cJ cZ cY a0 a0_lensSide a0_lensWidth a0_pairA a0_pairB a0_pairDelay v0) H := hP.sub [0, 1, 2, 3, 4, 5] rfl
  have hD : va_D A (WS_X1_isLens cI cJ cZ cY a0 a0_lensSide a0_lensWidth a0_pairA a0_pairB a0_pairDelay v0) := hD.sub [0, 1, 2, 3, 4, 5] (by decide) rfl
  obtain ⟨h_2, hg⟩ := g_gde hg
  have hg := Option.some.inj hg
  rw [hQ]
  exact W.zret (v := r_1) (ty := .boolean) hx hb hr (bool_nar h_2) (fun t ht hW => ⟨⟨r_1, (), rfl, hg, by rw [ht]; exact hP, hD⟩, hS.F ht⟩) hS.2.2 dX1_isLens_11
