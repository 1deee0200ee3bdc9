/-! ManyEyesModel.think(I)Z -/
def WS_X12_think (cI cJ cZ cY : ClassId) (a0 a0_a a0_image a0_texts a0_board a0_taken a0_fars a0_before a0_tape a0_pile a0_rows a0_told a0_values a0_truth a0_keeps : Nat) (v0 : BX12) : va_W := (GX12 cI cJ cZ cY a0 a0_a a0_image a0_texts a0_board a0_taken a0_fars a0_before a0_tape a0_pile a0_rows a0_told a0_values a0_truth a0_keeps v0)
def f_X12_think_b231 (J21 : (Int32 × Int32 × Int32 × BX12) → Option (Int32 × BX12)) (x2 : Int32) (x3 : Int32) (x4 : Int32) (v0 : BX12) : Option (Int32 × BX12) := g_lt (x4 + 1 : Int32) (fun x4_1 => J21 (x2, x3, x4_1, v0))
def f_X12_think_b213 (J21 : (Int32 × Int32 × Int32 × BX12) → Option (Int32 × BX12)) (x2 : Int32) (x3 : Int32) (x4 : Int32) (x5 : Int32) (v0 : BX12) : Option (Int32 × BX12) := g_gd (inB x5 6400) (if (((pX12_texts v0) (x5 : Int32).toNatClampNeg) : Int32) = 4 then (g_gd (inB 0 330) (g_lt (((pX12_truth v0) (0 : Int32).toNatClampNeg) : Int32) (fun x3_5 => f_X12_think_b231 J21 x2 x3_5 x4 v0))) else (f_X12_think_b231 J21 x2 x3 x4 v0))
def f_X12_think_b210 (J21 : (Int32 × Int32 × Int32 × BX12) → Option (Int32 × BX12)) (x2 : Int32) (x3 : Int32) (x4 : Int32) (x5 : Int32) (t1 : Int32) (v0 : BX12) : Option (Int32 × BX12) := g_lt (sX12_go v0 t1) (fun v0_6 => f_X12_think_b213 J21 x2 x3 x4 x5 v0_6)
def f_X12_think_b158 (J21 : (Int32 × Int32 × Int32 × BX12) → Option (Int32 × BX12)) (x2 : Int32) (x3 : Int32) (x4 : Int32) (x5 : Int32) (v0 : BX12) : Option (Int32 × BX12) := g_gd (inB x5 6400) (if (((pX12_texts v0) (x5 : Int32).toNatClampNeg) : Int32) = 3 then (g_gd (inB 0 330) (if (0 : Int32) ≤ (lg_cmp ((pX12_values v0) (0 : Int32).toNatClampNeg) 0) then (g_gd (inB 0 330) (if ((lg_cmp ((pX12_values v0) (0 : Int32).toNatClampNeg) 16) : Int32) ≤ 0 then (g_gd (inB 0 330) (f_X12_think_b210 J21 x2 x3 x4 x5 ((((pX12_values v0) (0 : Int32).toNatClampNeg) : Int64).toInt32) v0)) else (f_X12_think_b210 J21 x2 x3 x4 x5 16 v0))) else (f_X12_think_b210 J21 x2 x3 x4 x5 0 v0))) else (f_X12_think_b213 J21 x2 x3 x4 x5 v0))
def f_X12_think_b155 (J21 : (Int32 × Int32 × Int32 × BX12) → Option (Int32 × BX12)) (x2 : Int32) (x3 : Int32) (x4 : Int32) (x5 : Int32) (t1 : Int32) (v0 : BX12) : Option (Int32 × BX12) := g_lt (sX12_turn v0 t1) (fun v0_14 => f_X12_think_b158 J21 x2 x3 x4 x5 v0_14)
def f_X12_think_b100 (J21 : (Int32 × Int32 × Int32 × BX12) → Option (Int32 × BX12)) (x2 : Int32) (x3 : Int32) (x4 : Int32) (x5 : Int32) (v0 : BX12) : Option (Int32 × BX12) := g_gd (inB x5 6400) (if (((pX12_texts v0) (x5 : Int32).toNatClampNeg) : Int32) = 2 then (g_gd (inB 0 330) (if (0 : Int32) ≤ (lg_cmp ((pX12_values v0) (0 : Int32).toNatClampNeg) (-8)) then (g_gd (inB 0 330) (if ((lg_cmp ((pX12_values v0) (0 : Int32).toNatClampNeg) 8) : Int32) ≤ 0 then (g_gd (inB 0 330) (f_X12_think_b155 J21 x2 x3 x4 x5 ((((pX12_values v0) (0 : Int32).toNatClampNeg) : Int64).toInt32) v0)) else (f_X12_think_b155 J21 x2 x3 x4 x5 8 v0))) else (f_X12_think_b155 J21 x2 x3 x4 x5 (-8) v0))) else (f_X12_think_b158 J21 x2 x3 x4 x5 v0))
def f_X12_think_b21B (J21 : Int32 × Int32 × Int32 × BX12 → Option (Int32 × BX12)) (x2 : Int32) (x3 : Int32) (x4 : Int32) (v0 : BX12) : Option (Int32 × BX12) := g_gd (inB x2 6400) (if (((pX12_texts v0) (x2 : Int32).toNatClampNeg) : Int32) ≤ x4 then (g_gd (x3 = 0 ∨ x3 = 1) (some (x3, v0))) else (g_lt (((x2 + 1) + ((4 : Int32) * x4)) : Int32) (fun x5_25 => g_gd (inB (x5_25 + 2) 6400) (g_gd (inB (x5_25 + 3) 6400) ((f_X12_work v0 (x2 + 80) ((pX12_texts v0) ((x5_25 + 2) : Int32).toNatClampNeg) ((pX12_texts v0) ((x5_25 + 3) : Int32).toNatClampNeg)).bind (fun r_28 => g_gd (inB x5_25 6400) (if (((pX12_texts r_28) (x5_25 : Int32).toNatClampNeg) : Int32) = 1 then (g_gd (inB (x5_25 + 1) 6400) (g_gd (inB 0 330) (g_lt (((((pX12_values r_28) (0 : Int32).toNatClampNeg) : Int64).toInt32) : Int32) (fun x_33 => g_gd (inB ((pX12_texts r_28) ((x5_25 + 1) : Int32).toNatClampNeg) 8) (g_lt (sX12_told r_28 (upd (pX12_told r_28) (((pX12_texts r_28) ((x5_25 + 1) : Int32).toNatClampNeg) : Int32).toNatClampNeg x_33)) (fun v0_35 => f_X12_think_b100 J21 x2 x3 x4 x5_25 v0_35)))))) else (f_X12_think_b100 J21 x2 x3 x4 x5_25 r_28))))))))
def f_X12_think_b21 : Nat → (Int32 × Int32 × Int32 × BX12) → Option (Int32 × BX12) := g_lp (fun J z => f_X12_think_b21B J z.1 z.2.1 z.2.2.1 z.2.2.2)
def f_X12_think (v0 : BX12) (p0 : Int32) : Option (Int32 × BX12) := g_lt (((800 : Int32) * p0) : Int32) (fun x2_36 => g_lt (sX12_turn v0 0) (fun v0_37 => g_lt (sX12_go v0_37 0) (fun v0_38 => f_X12_think_b21 fU (x2_36, 0, 0, v0_38))))
abbrev rm_X12_think : Room := { frames := 3, cells := 0, slots := 0, locals := 75 }
set_option maxHeartbeats 4000000 in
set_option maxRecDepth 100000 in
theorem k_X12_think {l : Launch} {D : va_G} {cI cJ cZ cY : ClassId} {tX tY : Nat} {sz : Nat} (a0 a0_a a0_image a0_texts a0_board a0_taken a0_fars a0_before a0_tape a0_pile a0_rows a0_told a0_values a0_truth a0_keeps : Nat) (v0 : BX12) (p0 : Int32) (res : Int32 × BX12) (hg : f_X12_think v0 p0 = some res) : Met l yX12_think (Cond.code yX12_think cX12_think 6 (some .boolean) :: TB) rm_X12_think (PC D cI cJ cZ cY tX tY [.ref a0, .int p0] (WS_X12_think cI cJ cZ cY a0 a0_a a0_image a0_texts a0_board a0_taken a0_fars a0_before a0_tape a0_pile a0_rows a0_told a0_values a0_truth a0_keeps v0) sz) (va_Qi (fun (r : Int32) (u : BX12) => r = res.1 ∧ u = res.2) (BC D (fun u : BX12 => WS_X12_think cI cJ cZ cY a0 a0_a a0_image a0_texts a0_board a0_taken a0_fars a0_before a0_tape a0_pile a0_rows a0_told a0_values a0_truth a0_keeps u) (va_A (WS_X12_think cI cJ cZ cY a0 a0_a a0_image a0_texts a0_board a0_taken a0_fars a0_before a0_tape a0_pile a0_rows a0_told a0_values a0_truth a0_keeps v0) sz)) (va_A (WS_X12_think cI cJ cZ cY a0 a0_a a0_image a0_texts a0_board a0_taken a0_fars a0_before a0_tape a0_pile a0_rows a0_told a0_values a0_truth a0_keeps v0) sz)) 0 0 (va_A (WS_X12_think cI cJ cZ cY a0 a0_a a0_image a0_texts a0_board a0_taken a0_fars a0_before a0_tape a0_pile a0_rows a0_told a0_values a0_truth a0_keeps v0) sz) := by
  refine Met.ofW (cc := cX12_think) (maxL := 6) (ret := (some .boolean)) (by decide) rfl ?_
  intro p e s m args below meth c s₁ B hml hv
  obtain ⟨hargs, hsz, hP, hK, hD0, hT⟩ := hv
  have hx := B.exec
  have hb := B.bytes
  have hr := B.returns
  have htb : ∀ w ∈ TB, w.before args s = true := fun w h => atoms_spec (ws := Cond.code yX12_think cX12_think 6 (some .boolean) :: TB) B.pre w (List.mem_cons_of_mem _ h)
  have hown : s.vm.findClass "ManyEyesModel" = some m.cls := findClass_of_methodNamed B.named
  have hlocks := B.notSynchronized
  subst hsz
  have hD := hD0.self (sz := s.heap.size)
  generalize hAe : va_A (WS_X12_think cI cJ cZ cY a0 a0_a a0_image a0_texts a0_board a0_taken a0_fars a0_before a0_tape a0_pile a0_rows a0_told a0_values a0_truth a0_keeps v0) s.heap.size = A at hD hT ⊢
  have hA : ∀ q : Nat, s.heap.size ≤ q → A q := fun q h => by rw [← hAe]; exact Or.inr h
  have hS : va_S A s.heap s.heap [] := va_S.rf
  have hl := lv_entry ([.ref a0, .int p0]) (n := 6) (Nat.le_of_ble_eq_true rfl)
  have he : entryFrame m args 6 = F0 m 0 (lg_sl ([.ref a0, .int p0]) ++ List.replicate (6 - (lg_sl ([.ref a0, .int p0])).length) Slot.unset).toArray [] := by rw [hargs, lg_entry_eq]
  rw [he]
  generalize (lg_sl ([.ref a0, .int p0]) ++ List.replicate (6 - (lg_sl ([.ref a0, .int p0])).length) Slot.unset).toArray = ls at hl ⊢
  have hl : lv_has ls 6 [(0, .ref a0), (1, .int p0)] := hl
  show W p l e rm_X12_think s m args below meth c s.heap [] 0 0 _ _
  refine W.genQ (fun Q hQ => ?_)
  have b_231 : ∀ (J21 : (Int32 × Int32 × Int32 × BX12) → Option (Int32 × BX12)) (hJ21 : ∀ (x2 : Int32) (x3 : Int32) (x4 : Int32) (v0 : BX12) (H : Heap) (locs : List Loc) (ls : Array Slot), va_P D vwCl (WS_X12_think cI cJ cZ cY a0 a0_a a0_image a0_texts a0_board a0_taken a0_fars a0_before a0_tape a0_pile a0_rows a0_told a0_values a0_truth a0_keeps v0) H → va_D A (WS_X12_think cI cJ cZ cY a0 a0_a a0_image a0_texts a0_board a0_taken a0_fars a0_before a0_tape a0_pile a0_rows a0_told a0_values a0_truth a0_keeps v0) → va_S A s.heap H locs → lv_has ls 6 [(0, .ref a0), (2, .int x2), (3, .int x3), (4, .int x4)] → J21 (x2, x3, x4, v0) = some res → W p l e rm_X12_think s m args below meth c H locs 0 0 Q (F0 m 21 ls [])), ∀ (x2 : Int32) (x3 : Int32) (x4 : Int32) (v0 : BX12) (H : Heap) (locs : List Loc) (ls : Array Slot), va_P D vwCl (WS_X12_think cI cJ cZ cY a0 a0_a a0_image a0_texts a0_board a0_taken a0_fars a0_before a0_tape a0_pile a0_rows a0_told a0_values a0_truth a0_keeps v0) H → va_D A (WS_X12_think cI cJ cZ cY a0 a0_a a0_image a0_texts a0_board a0_taken a0_fars a0_before a0_tape a0_pile a0_rows a0_told a0_values a0_truth a0_keeps v0) → va_S A s.heap H locs → lv_has ls 6 [(0, .ref a0), (2, .int x2), (3, .int x3), (4, .int x4)] → f_X12_think_b231 J21 x2 x3 x4 v0 = some res → W p l e rm_X12_think s m args below meth c H locs 0 0 Q (F0 m 231 ls []) := by
    intro J21 hJ21 x2 x3 x4 v0 H locs ls hP hD hS hl hg
    unfold f_X12_think_b231 at hg
    obtain ⟨x4_1, ex4_1⟩ : ∃ z : Int32, z = x4 + 1 := ⟨_, rfl⟩
    have hg := g_lte hg x4_1 ex4_1
    refine lv_iinc (v := x4_1) (lv' := [(4, .int x4_1), (0, .ref a0), (2, .int x2), (3, .int x3)]) hx hb dX12_think_231 hl (k := 3) rfl (by rw [ex4_1]; rfl) (by decide) rfl (fun ls hl => ?_)
    refine lv_goto (tgt := 21) hx hb dX12_think_234 (by decide) ?_
    exact hJ21 x2 x3 x4_1 v0 H locs ls hP hD hS (lv_sub hl [1, 2, 3, 0] rfl) hg
  have b_213 : ∀ (J21 : (Int32 × Int32 × Int32 × BX12) → Option (Int32 × BX12)) (hJ21 : ∀ (x2 : Int32) (x3 : Int32) (x4 : Int32) (v0 : BX12) (H : Heap) (locs : List Loc) (ls : Array Slot), va_P D vwCl (WS_X12_think cI cJ cZ cY a0 a0_a a0_image a0_texts a0_board a0_taken a0_fars a0_before a0_tape a0_pile a0_rows a0_told a0_values a0_truth a0_keeps v0) H → va_D A (WS_X12_think cI cJ cZ cY a0 a0_a a0_image a0_texts a0_board a0_taken a0_fars a0_before a0_tape a0_pile a0_rows a0_told a0_values a0_truth a0_keeps v0) → va_S A s.heap H locs → lv_has ls 6 [(0, .ref a0), (2, .int x2), (3, .int x3), (4, .int x4)] → J21 (x2, x3, x4, v0) = some res → W p l e rm_X12_think s m args below meth c H locs 0 0 Q (F0 m 21 ls [])), ∀ (x2 : Int32) (x3 : Int32) (x4 : Int32) (x5 : Int32) (v0 : BX12) (H : Heap) (locs : List Loc) (ls : Array Slot), va_P D vwCl (WS_X12_think cI cJ cZ cY a0 a0_a a0_image a0_texts a0_board a0_taken a0_fars a0_before a0_tape a0_pile a0_rows a0_told a0_values a0_truth a0_keeps v0) H → va_D A (WS_X12_think cI cJ cZ cY a0 a0_a a0_image a0_texts a0_board a0_taken a0_fars a0_before a0_tape a0_pile a0_rows a0_told a0_values a0_truth a0_keeps v0) → va_S A s.heap H locs → lv_has ls 6 [(0, .ref a0), (2, .int x2), (3, .int x3), (4, .int x4), (5, .int x5)] → f_X12_think_b213 J21 x2 x3 x4 x5 v0 = some res → W p l e rm_X12_think s m args below meth c H locs 0 0 Q (F0 m 213 ls []) := by
    intro J21 hJ21 x2 x3 x4 x5 v0 H locs ls hP hD hS hl hg
    unfold f_X12_think_b213 at hg
    refine lv_aload_n hx hb dX12_think_213 rfl (lv_at hl 0 rfl) ?_
    refine va_get (ci := 11) (v := .ref a0_texts) (C := RX12) (T := TX12) (N := 43) hx hb htb uX12 hown hK.1 hP 0 rfl rfl 4 (by decide) (htb _ tg_940) (fun _ h9 => h9) rfl dX12_think_214 ?_
    refine lv_iload hx hb dX12_think_217 (lv_at hl 4 rfl) ?_
    obtain ⟨h_2, hg⟩ := g_gde hg
    refine va_iald hx hb hK.1 hP 3 0 rfl rfl (inB_vp h_2) dX12_think_219 ?_
    refine lv_iconst (v := 4) hx hb dX12_think_220 (by decide) ?_
    refine lv_icmp_ne (tgt := 231) hx hb dX12_think_221 (by decide) (fun c_3 => ?_) (fun c_3 => ?_)
    · have hg := g_if hg c_3
      exact b_231 J21 hJ21 x2 x3 x4 v0 H locs ls hP hD hS (lv_sub hl [0, 1, 2, 3] rfl) hg
    · have hg := g_it hg c_3
      refine lv_aload_n hx hb dX12_think_224 rfl (lv_at hl 0 rfl) ?_
      refine va_get (ci := 11) (v := .ref a0_truth) (C := RX12) (T := TX12) (N := 43) hx hb htb uX12 hown hK.1 hP 0 rfl rfl 38 (by decide) (htb _ tg_974) (fun _ h9 => h9) rfl dX12_think_225 ?_
      refine lv_iconst (v := 0) hx hb dX12_think_228 (by decide) ?_
      obtain ⟨h_4, hg⟩ := g_gde hg
      refine va_zald hx hb hK.1 hP 13 2 rfl rfl (inB_vp h_4) dX12_think_229 ?_
      refine lv_topi (fun x3_5 ex3_5 => ?_)
      have hg := g_lte hg x3_5 ex3_5
      refine lv_istore_n (lv' := [(3, .int x3_5), (0, .ref a0), (2, .int x2), (4, .int x4), (5, .int x5)]) hx hb dX12_think_230 rfl hl (by decide) rfl (fun ls hl => ?_)
      exact b_231 J21 hJ21 x2 x3_5 x4 v0 H locs ls hP hD hS (lv_sub hl [1, 2, 0, 3] rfl) hg
  have b_210 : ∀ (J21 : (Int32 × Int32 × Int32 × BX12) → Option (Int32 × BX12)) (hJ21 : ∀ (x2 : Int32) (x3 : Int32) (x4 : Int32) (v0 : BX12) (H : Heap) (locs : List Loc) (ls : Array Slot), va_P D vwCl (WS_X12_think cI cJ cZ cY a0 a0_a a0_image a0_texts a0_board a0_taken a0_fars a0_before a0_tape a0_pile a0_rows a0_told a0_values a0_truth a0_keeps v0) H → va_D A (WS_X12_think cI cJ cZ cY a0 a0_a a0_image a0_texts a0_board a0_taken a0_fars a0_before a0_tape a0_pile a0_rows a0_told a0_values a0_truth a0_keeps v0) → va_S A s.heap H locs → lv_has ls 6 [(0, .ref a0), (2, .int x2), (3, .int x3), (4, .int x4)] → J21 (x2, x3, x4, v0) = some res → W p l e rm_X12_think s m args below meth c H locs 0 0 Q (F0 m 21 ls [])), ∀ (x2 : Int32) (x3 : Int32) (x4 : Int32) (x5 : Int32) (t1 : Int32) (v0 : BX12) (H : Heap) (locs : List Loc) (ls : Array Slot), va_P D vwCl (WS_X12_think cI cJ cZ cY a0 a0_a a0_image a0_texts a0_board a0_taken a0_fars a0_before a0_tape a0_pile a0_rows a0_told a0_values a0_truth a0_keeps v0) H → va_D A (WS_X12_think cI cJ cZ cY a0 a0_a a0_image a0_texts a0_board a0_taken a0_fars a0_before a0_tape a0_pile a0_rows a0_told a0_values a0_truth a0_keeps v0) → va_S A s.heap H locs → lv_has ls 6 [(0, .ref a0), (2, .int x2), (3, .int x3), (4, .int x4), (5, .int x5)] → f_X12_think_b210 J21 x2 x3 x4 x5 t1 v0 = some res → W p l e rm_X12_think s m args below meth c H locs 0 0 Q (F0 m 210 ls [.int t1, .ref a0]) := by
    intro J21 hJ21 x2 x3 x4 x5 t1 v0 H locs ls hP hD hS hl hg
    unfold f_X12_think_b210 at hg
    refine va_put (ci := 11) (v := .int t1) (ty := .int) (C := RX12) (T := TX12) (N := 43) hx hb htb uX12 tyX12 tyX12_ok nmX12 hown hK.1 hP hD hS 0 rfl rfl 41 (by decide) (htb _ tg_977) (fun _ h9 => h9) rfl (by decide +kernel) rfl rfl (Nat.le_of_ble_eq_true rfl) dX12_think_210 (fun H locs hP hD hS => ?_)
    obtain ⟨v0_6, ev0_6⟩ : ∃ z, z = sX12_go v0 t1 := ⟨_, rfl⟩
    have hP : va_P D vwCl (WS_X12_think cI cJ cZ cY a0 a0_a a0_image a0_texts a0_board a0_taken a0_fars a0_before a0_tape a0_pile a0_rows a0_told a0_values a0_truth a0_keeps v0_6) H := by rw [ev0_6]; exact hP
    have hD : va_D A (WS_X12_think cI cJ cZ cY a0 a0_a a0_image a0_texts a0_board a0_taken a0_fars a0_before a0_tape a0_pile a0_rows a0_told a0_values a0_truth a0_keeps v0_6) := by rw [ev0_6]; exact hD
    have hg := g_lte hg v0_6 ev0_6
    exact b_213 J21 hJ21 x2 x3 x4 x5 v0_6 H locs ls hP hD hS (lv_sub hl [0, 1, 2, 3, 4] rfl) hg
  have b_158 : ∀ (J21 : (Int32 × Int32 × Int32 × BX12) → Option (Int32 × BX12)) (hJ21 : ∀ (x2 : Int32) (x3 : Int32) (x4 : Int32) (v0 : BX12) (H : Heap) (locs : List Loc) (ls : Array Slot), va_P D vwCl (WS_X12_think cI cJ cZ cY a0 a0_a a0_image a0_texts a0_board a0_taken a0_fars a0_before a0_tape a0_pile a0_rows a0_told a0_values a0_truth a0_keeps v0) H → va_D A (WS_X12_think cI cJ cZ cY a0 a0_a a0_image a0_texts a0_board a0_taken a0_fars a0_before a0_tape a0_pile a0_rows a0_told a0_values a0_truth a0_keeps v0) → va_S A s.heap H locs → lv_has ls 6 [(0, .ref a0), (2, .int x2), (3, .int x3), (4, .int x4)] → J21 (x2, x3, x4, v0) = some res → W p l e rm_X12_think s m args below meth c H locs 0 0 Q (F0 m 21 ls [])), ∀ (x2 : Int32) (x3 : Int32) (x4 : Int32) (x5 : Int32) (v0 : BX12) (H : Heap) (locs : List Loc) (ls : Array Slot), va_P D vwCl (WS_X12_think cI cJ cZ cY a0 a0_a a0_image a0_texts a0_board a0_taken a0_fars a0_before a0_tape a0_pile a0_rows a0_told a0_values a0_truth a0_keeps v0) H → va_D A (WS_X12_think cI cJ cZ cY a0 a0_a a0_image a0_texts a0_board a0_taken a0_fars a0_before a0_tape a0_pile a0_rows a0_told a0_values a0_truth a0_keeps v0) → va_S A s.heap H locs → lv_has ls 6 [(0, .ref a0), (2, .int x2), (3, .int x3), (4, .int x4), (5, .int x5)] → f_X12_think_b158 J21 x2 x3 x4 x5 v0 = some res → W p l e rm_X12_think s m args below meth c H locs 0 0 Q (F0 m 158 ls []) := by
    intro J21 hJ21 x2 x3 x4 x5 v0 H locs ls hP hD hS hl hg
    unfold f_X12_think_b158 at hg
    refine lv_aload_n hx hb dX12_think_158 rfl (lv_at hl 0 rfl) ?_
    refine va_get (ci := 11) (v := .ref a0_texts) (C := RX12) (T := TX12) (N := 43) hx hb htb uX12 hown hK.1 hP 0 rfl rfl 4 (by decide) (htb _ tg_940) (fun _ h9 => h9) rfl dX12_think_159 ?_
    refine lv_iload hx hb dX12_think_162 (lv_at hl 4 rfl) ?_
    obtain ⟨h_7, hg⟩ := g_gde hg
    refine va_iald hx hb hK.1 hP 3 0 rfl rfl (inB_vp h_7) dX12_think_164 ?_
    refine lv_iconst (v := 3) hx hb dX12_think_165 (by decide) ?_
    refine lv_icmp_ne (tgt := 213) hx hb dX12_think_166 (by decide) (fun c_8 => ?_) (fun c_8 => ?_)
    · have hg := g_if hg c_8
      exact b_213 J21 hJ21 x2 x3 x4 x5 v0 H locs ls hP hD hS (lv_sub hl [0, 1, 2, 3, 4] rfl) hg
    · have hg := g_it hg c_8
      refine lv_aload_n hx hb dX12_think_169 rfl (lv_at hl 0 rfl) ?_
      refine lv_aload_n hx hb dX12_think_170 rfl (lv_at hl 0 rfl) ?_
      refine va_get (ci := 11) (v := .ref a0_values) (C := RX12) (T := TX12) (N := 43) hx hb htb uX12 hown hK.1 hP 0 rfl rfl 37 (by decide) (htb _ tg_973) (fun _ h9 => h9) rfl dX12_think_171 ?_
      refine lv_iconst (v := 0) hx hb dX12_think_174 (by decide) ?_
      obtain ⟨h_9, hg⟩ := g_gde hg
      refine va_lald hx hb hK.1 hP 12 1 rfl rfl (inB_vp h_9) dX12_think_175 ?_
      refine lv_lconst (v := 0) hx hb dX12_think_176 (by decide) ?_
      refine W.lcmp hx hb dX12_think_177 ?_
      refine lv_if_ge (tgt := 185) hx hb dX12_think_178 (by decide) (fun c_10 => ?_) (fun c_10 => ?_)
      · have hg := g_it hg c_10
        refine lv_aload_n hx hb dX12_think_185 rfl (lv_at hl 0 rfl) ?_
        refine va_get (ci := 11) (v := .ref a0_values) (C := RX12) (T := TX12) (N := 43) hx hb htb uX12 hown hK.1 hP 0 rfl rfl 37 (by decide) (htb _ tg_973) (fun _ h9 => h9) rfl dX12_think_186 ?_
        refine lv_iconst (v := 0) hx hb dX12_think_189 (by decide) ?_
        obtain ⟨h_11, hg⟩ := g_gde hg
        refine va_lald hx hb hK.1 hP 12 1 rfl rfl (inB_vp h_11) dX12_think_190 ?_
        refine lv_ldc2 (v := 16) hx hb hown (htb _ tg_1344) dX12_think_191 ?_
        refine W.lcmp hx hb dX12_think_194 ?_
        refine lv_if_le (tgt := 203) hx hb dX12_think_195 (by decide) (fun c_12 => ?_) (fun c_12 => ?_)
        · have hg := g_it hg c_12
          refine lv_aload_n hx hb dX12_think_203 rfl (lv_at hl 0 rfl) ?_
          refine va_get (ci := 11) (v := .ref a0_values) (C := RX12) (T := TX12) (N := 43) hx hb htb uX12 hown hK.1 hP 0 rfl rfl 37 (by decide) (htb _ tg_973) (fun _ h9 => h9) rfl dX12_think_204 ?_
          refine lv_iconst (v := 0) hx hb dX12_think_207 (by decide) ?_
          obtain ⟨h_13, hg⟩ := g_gde hg
          refine va_lald hx hb hK.1 hP 12 1 rfl rfl (inB_vp h_13) dX12_think_208 ?_
          refine lv_l2i (v := (((pX12_values v0) (0 : Int32).toNatClampNeg) : Int64).toInt32) hx hb dX12_think_209 rfl ?_
          exact b_210 J21 hJ21 x2 x3 x4 x5 ((((pX12_values v0) (0 : Int32).toNatClampNeg) : Int64).toInt32) v0 H locs ls hP hD hS (lv_sub hl [0, 1, 2, 3, 4] rfl) hg
        · have hg := g_if hg c_12
          refine lv_bipush (v := 16) hx hb dX12_think_198 (by decide) ?_
          refine lv_goto (tgt := 210) hx hb dX12_think_200 (by decide) ?_
          exact b_210 J21 hJ21 x2 x3 x4 x5 16 v0 H locs ls hP hD hS (lv_sub hl [0, 1, 2, 3, 4] rfl) hg
      · have hg := g_if hg c_10
        refine lv_iconst (v := 0) hx hb dX12_think_181 (by decide) ?_
        refine lv_goto (tgt := 210) hx hb dX12_think_182 (by decide) ?_
        exact b_210 J21 hJ21 x2 x3 x4 x5 0 v0 H locs ls hP hD hS (lv_sub hl [0, 1, 2, 3, 4] rfl) hg
  have b_155 : ∀ (J21 : (Int32 × Int32 × Int32 × BX12) → Option (Int32 × BX12)) (hJ21 : ∀ (x2 : Int32) (x3 : Int32) (x4 : Int32) (v0 : BX12) (H : Heap) (locs : List Loc) (ls : Array Slot), va_P D vwCl (WS_X12_think cI cJ cZ cY a0 a0_a a0_image a0_texts a0_board a0_taken a0_fars a0_before a0_tape a0_pile a0_rows a0_told a0_values a0_truth a0_keeps v0) H → va_D A (WS_X12_think cI cJ cZ cY a0 a0_a a0_image a0_texts a0_board a0_taken a0_fars a0_before a0_tape a0_pile a0_rows a0_told a0_values a0_truth a0_keeps v0) → va_S A s.heap H locs → lv_has ls 6 [(0, .ref a0), (2, .int x2), (3, .int x3), (4, .int x4)] → J21 (x2, x3, x4, v0) = some res → W p l e rm_X12_think s m args below meth c H locs 0 0 Q (F0 m 21 ls [])), ∀ (x2 : Int32) (x3 : Int32) (x4 : Int32) (x5 : Int32) (t1 : Int32) (v0 : BX12) (H : Heap) (locs : List Loc) (ls : Array Slot), va_P D vwCl (WS_X12_think cI cJ cZ cY a0 a0_a a0_image a0_texts a0_board a0_taken a0_fars a0_before a0_tape a0_pile a0_rows a0_told a0_values a0_truth a0_keeps v0) H → va_D A (WS_X12_think cI cJ cZ cY a0 a0_a a0_image a0_texts a0_board a0_taken a0_fars a0_before a0_tape a0_pile a0_rows a0_told a0_values a0_truth a0_keeps v0) → va_S A s.heap H locs → lv_has ls 6 [(0, .ref a0), (2, .int x2), (3, .int x3), (4, .int x4), (5, .int x5)] → f_X12_think_b155 J21 x2 x3 x4 x5 t1 v0 = some res → W p l e rm_X12_think s m args below meth c H locs 0 0 Q (F0 m 155 ls [.int t1, .ref a0]) := by
    intro J21 hJ21 x2 x3 x4 x5 t1 v0 H locs ls hP hD hS hl hg
    unfold f_X12_think_b155 at hg
    refine va_put (ci := 11) (v := .int t1) (ty := .int) (C := RX12) (T := TX12) (N := 43) hx hb htb uX12 tyX12 tyX12_ok nmX12 hown hK.1 hP hD hS 0 rfl rfl 40 (by decide) (htb _ tg_976) (fun _ h9 => h9) rfl (by decide +kernel) rfl rfl (Nat.le_of_ble_eq_true rfl) dX12_think_155 (fun H locs hP hD hS => ?_)
    obtain ⟨v0_14, ev0_14⟩ : ∃ z, z = sX12_turn v0 t1 := ⟨_, rfl⟩
    have hP : va_P D vwCl (WS_X12_think cI cJ cZ cY a0 a0_a a0_image a0_texts a0_board a0_taken a0_fars a0_before a0_tape a0_pile a0_rows a0_told a0_values a0_truth a0_keeps v0_14) H := by rw [ev0_14]; exact hP
    have hD : va_D A (WS_X12_think cI cJ cZ cY a0 a0_a a0_image a0_texts a0_board a0_taken a0_fars a0_before a0_tape a0_pile a0_rows a0_told a0_values a0_truth a0_keeps v0_14) := by rw [ev0_14]; exact hD
    have hg := g_lte hg v0_14 ev0_14
    exact b_158 J21 hJ21 x2 x3 x4 x5 v0_14 H locs ls hP hD hS (lv_sub hl [0, 1, 2, 3, 4] rfl) hg
  have b_100 : ∀ (J21 : (Int32 × Int32 × Int32 × BX12) → Option (Int32 × BX12)) (hJ21 : ∀ (x2 : Int32) (x3 : Int32) (x4 : Int32) (v0 : BX12) (H : Heap) (locs : List Loc) (ls : Array Slot), va_P D vwCl (WS_X12_think cI cJ cZ cY a0 a0_a a0_image a0_texts a0_board a0_taken a0_fars a0_before a0_tape a0_pile a0_rows a0_told a0_values a0_truth a0_keeps v0) H → va_D A (WS_X12_think cI cJ cZ cY a0 a0_a a0_image a0_texts a0_board a0_taken a0_fars a0_before a0_tape a0_pile a0_rows a0_told a0_values a0_truth a0_keeps v0) → va_S A s.heap H locs → lv_has ls 6 [(0, .ref a0), (2, .int x2), (3, .int x3), (4, .int x4)] → J21 (x2, x3, x4, v0) = some res → W p l e rm_X12_think s m args below meth c H locs 0 0 Q (F0 m 21 ls [])), ∀ (x2 : Int32) (x3 : Int32) (x4 : Int32) (x5 : Int32) (v0 : BX12) (H : Heap) (locs : List Loc) (ls : Array Slot), va_P D vwCl (WS_X12_think cI cJ cZ cY a0 a0_a a0_image a0_texts a0_board a0_taken a0_fars a0_before a0_tape a0_pile a0_rows a0_told a0_values a0_truth a0_keeps v0) H → va_D A (WS_X12_think cI cJ cZ cY a0 a0_a a0_image a0_texts a0_board a0_taken a0_fars a0_before a0_tape a0_pile a0_rows a0_told a0_values a0_truth a0_keeps v0) → va_S A s.heap H locs → lv_has ls 6 [(0, .ref a0), (2, .int x2), (3, .int x3), (4, .int x4), (5, .int x5)] → f_X12_think_b100 J21 x2 x3 x4 x5 v0 = some res → W p l e rm_X12_think s m args below meth c H locs 0 0 Q (F0 m 100 ls []) := by
    intro J21 hJ21 x2 x3 x4 x5 v0 H locs ls hP hD hS hl hg
    unfold f_X12_think_b100 at hg
    refine lv_aload_n hx hb dX12_think_100 rfl (lv_at hl 0 rfl) ?_
    refine va_get (ci := 11) (v := .ref a0_texts) (C := RX12) (T := TX12) (N := 43) hx hb htb uX12 hown hK.1 hP 0 rfl rfl 4 (by decide) (htb _ tg_940) (fun _ h9 => h9) rfl dX12_think_101 ?_
    refine lv_iload hx hb dX12_think_104 (lv_at hl 4 rfl) ?_
    obtain ⟨h_15, hg⟩ := g_gde hg
    refine va_iald hx hb hK.1 hP 3 0 rfl rfl (inB_vp h_15) dX12_think_106 ?_
    refine lv_iconst (v := 2) hx hb dX12_think_107 (by decide) ?_
    refine lv_icmp_ne (tgt := 158) hx hb dX12_think_108 (by decide) (fun c_16 => ?_) (fun c_16 => ?_)
    · have hg := g_if hg c_16
      exact b_158 J21 hJ21 x2 x3 x4 x5 v0 H locs ls hP hD hS (lv_sub hl [0, 1, 2, 3, 4] rfl) hg
    · have hg := g_it hg c_16
      refine lv_aload_n hx hb dX12_think_111 rfl (lv_at hl 0 rfl) ?_
      refine lv_aload_n hx hb dX12_think_112 rfl (lv_at hl 0 rfl) ?_
      refine va_get (ci := 11) (v := .ref a0_values) (C := RX12) (T := TX12) (N := 43) hx hb htb uX12 hown hK.1 hP 0 rfl rfl 37 (by decide) (htb _ tg_973) (fun _ h9 => h9) rfl dX12_think_113 ?_
      refine lv_iconst (v := 0) hx hb dX12_think_116 (by decide) ?_
      obtain ⟨h_17, hg⟩ := g_gde hg
      refine va_lald hx hb hK.1 hP 12 1 rfl rfl (inB_vp h_17) dX12_think_117 ?_
      refine lv_ldc2 (v := (-8)) hx hb hown (htb _ tg_1342) dX12_think_118 ?_
      refine W.lcmp hx hb dX12_think_121 ?_
      refine lv_if_ge (tgt := 130) hx hb dX12_think_122 (by decide) (fun c_18 => ?_) (fun c_18 => ?_)
      · have hg := g_it hg c_18
        refine lv_aload_n hx hb dX12_think_130 rfl (lv_at hl 0 rfl) ?_
        refine va_get (ci := 11) (v := .ref a0_values) (C := RX12) (T := TX12) (N := 43) hx hb htb uX12 hown hK.1 hP 0 rfl rfl 37 (by decide) (htb _ tg_973) (fun _ h9 => h9) rfl dX12_think_131 ?_
        refine lv_iconst (v := 0) hx hb dX12_think_134 (by decide) ?_
        obtain ⟨h_19, hg⟩ := g_gde hg
        refine va_lald hx hb hK.1 hP 12 1 rfl rfl (inB_vp h_19) dX12_think_135 ?_
        refine lv_ldc2 (v := 8) hx hb hown (htb _ tg_1343) dX12_think_136 ?_
        refine W.lcmp hx hb dX12_think_139 ?_
        refine lv_if_le (tgt := 148) hx hb dX12_think_140 (by decide) (fun c_20 => ?_) (fun c_20 => ?_)
        · have hg := g_it hg c_20
          refine lv_aload_n hx hb dX12_think_148 rfl (lv_at hl 0 rfl) ?_
          refine va_get (ci := 11) (v := .ref a0_values) (C := RX12) (T := TX12) (N := 43) hx hb htb uX12 hown hK.1 hP 0 rfl rfl 37 (by decide) (htb _ tg_973) (fun _ h9 => h9) rfl dX12_think_149 ?_
          refine lv_iconst (v := 0) hx hb dX12_think_152 (by decide) ?_
          obtain ⟨h_21, hg⟩ := g_gde hg
          refine va_lald hx hb hK.1 hP 12 1 rfl rfl (inB_vp h_21) dX12_think_153 ?_
          refine lv_l2i (v := (((pX12_values v0) (0 : Int32).toNatClampNeg) : Int64).toInt32) hx hb dX12_think_154 rfl ?_
          exact b_155 J21 hJ21 x2 x3 x4 x5 ((((pX12_values v0) (0 : Int32).toNatClampNeg) : Int64).toInt32) v0 H locs ls hP hD hS (lv_sub hl [0, 1, 2, 3, 4] rfl) hg
        · have hg := g_if hg c_20
          refine lv_bipush (v := 8) hx hb dX12_think_143 (by decide) ?_
          refine lv_goto (tgt := 155) hx hb dX12_think_145 (by decide) ?_
          exact b_155 J21 hJ21 x2 x3 x4 x5 8 v0 H locs ls hP hD hS (lv_sub hl [0, 1, 2, 3, 4] rfl) hg
      · have hg := g_if hg c_18
        refine lv_bipush (v := (-8)) hx hb dX12_think_125 (by decide) ?_
        refine lv_goto (tgt := 155) hx hb dX12_think_127 (by decide) ?_
        exact b_155 J21 hJ21 x2 x3 x4 x5 (-8) v0 H locs ls hP hD hS (lv_sub hl [0, 1, 2, 3, 4] rfl) hg
  have b_21 : ∀ (n : Nat), ∀ (x2 : Int32) (x3 : Int32) (x4 : Int32) (v0 : BX12) (H : Heap) (locs : List Loc) (ls : Array Slot), va_P D vwCl (WS_X12_think cI cJ cZ cY a0 a0_a a0_image a0_texts a0_board a0_taken a0_fars a0_before a0_tape a0_pile a0_rows a0_told a0_values a0_truth a0_keeps v0) H → va_D A (WS_X12_think cI cJ cZ cY a0 a0_a a0_image a0_texts a0_board a0_taken a0_fars a0_before a0_tape a0_pile a0_rows a0_told a0_values a0_truth a0_keeps v0) → va_S A s.heap H locs → lv_has ls 6 [(0, .ref a0), (2, .int x2), (3, .int x3), (4, .int x4)] → f_X12_think_b21 n (x2, x3, x4, v0) = some res → W p l e rm_X12_think s m args below meth c H locs 0 0 Q (F0 m 21 ls []) := by
    intro n
    induction n with
    | zero =>
      intro x2 x3 x4 v0 H locs ls hP hD hS hl hg
      exact (g_lp0 hg).elim
    | succ n ih =>
      intro x2 x3 x4 v0 H locs ls hP hD hS hl hg
      have hg : f_X12_think_b21B (f_X12_think_b21 n) x2 x3 x4 v0 = some res := hg
      unfold f_X12_think_b21B at hg
      refine lv_iload hx hb dX12_think_21 (lv_at hl 3 rfl) ?_
      refine lv_aload_n hx hb dX12_think_23 rfl (lv_at hl 0 rfl) ?_
      refine va_get (ci := 11) (v := .ref a0_texts) (C := RX12) (T := TX12) (N := 43) hx hb htb uX12 hown hK.1 hP 0 rfl rfl 4 (by decide) (htb _ tg_940) (fun _ h9 => h9) rfl dX12_think_24 ?_
      refine lv_iload_n hx hb dX12_think_27 rfl (lv_at hl 1 rfl) ?_
      obtain ⟨h_22, hg⟩ := g_gde hg
      refine va_iald hx hb hK.1 hP 3 0 rfl rfl (inB_vp h_22) dX12_think_28 ?_
      refine lv_icmp_ge (tgt := 237) hx hb dX12_think_29 (by decide) (fun c_23 => ?_) (fun c_23 => ?_)
      · have hg := g_it hg c_23
        refine lv_iload_n hx hb dX12_think_237 rfl (lv_at hl 2 rfl) ?_
        obtain ⟨h_24, hg⟩ := g_gde hg
        have hg := Option.some.inj hg
        rw [hQ]
        exact W.zret (v := x3) (ty := .boolean) hx hb hr (bool_nar h_24) (fun t ht hW => ⟨⟨x3, (v0), rfl, ⟨by rw [← hg], by rw [← hg]⟩, by rw [ht]; exact hP, hD⟩, hS.F ht⟩) hS.2.2 dX12_think_238
      · have hg := g_if hg c_23
        refine lv_iload_n hx hb dX12_think_32 rfl (lv_at hl 1 rfl) ?_
        refine lv_iconst (v := 1) hx hb dX12_think_33 (by decide) ?_
        refine lv_iadd hx hb dX12_think_34 ?_
        refine lv_iconst (v := 4) hx hb dX12_think_35 (by decide) ?_
        refine lv_iload hx hb dX12_think_36 (lv_at hl 3 rfl) ?_
        refine lv_imul hx hb dX12_think_38 ?_
        refine lv_iadd hx hb dX12_think_39 ?_
        refine lv_topi (fun x5_25 ex5_25 => ?_)
        have hg := g_lte hg x5_25 ex5_25
        refine lv_istore (lv' := [(5, .int x5_25), (0, .ref a0), (2, .int x2), (3, .int x3), (4, .int x4)]) hx hb dX12_think_40 hl (by decide) rfl (fun ls hl => ?_)
        refine lv_aload_n hx hb dX12_think_42 rfl (lv_at hl 1 rfl) ?_
        refine lv_iload_n hx hb dX12_think_43 rfl (lv_at hl 2 rfl) ?_
        refine lv_bipush (v := 80) hx hb dX12_think_44 (by decide) ?_
        refine lv_iadd hx hb dX12_think_46 ?_
        refine lv_aload_n hx hb dX12_think_47 rfl (lv_at hl 1 rfl) ?_
        refine va_get (ci := 11) (v := .ref a0_texts) (C := RX12) (T := TX12) (N := 43) hx hb htb uX12 hown hK.1 hP 0 rfl rfl 4 (by decide) (htb _ tg_940) (fun _ h9 => h9) rfl dX12_think_48 ?_
        refine lv_iload hx hb dX12_think_51 (lv_at hl 0 rfl) ?_
        refine lv_iconst (v := 2) hx hb dX12_think_53 (by decide) ?_
        refine lv_iadd hx hb dX12_think_54 ?_
        obtain ⟨h_26, hg⟩ := g_gde hg
        refine va_iald hx hb hK.1 hP 3 0 rfl rfl (inB_vp h_26) dX12_think_55 ?_
        refine lv_aload_n hx hb dX12_think_56 rfl (lv_at hl 1 rfl) ?_
        refine va_get (ci := 11) (v := .ref a0_texts) (C := RX12) (T := TX12) (N := 43) hx hb htb uX12 hown hK.1 hP 0 rfl rfl 4 (by decide) (htb _ tg_940) (fun _ h9 => h9) rfl dX12_think_57 ?_
        refine lv_iload hx hb dX12_think_60 (lv_at hl 0 rfl) ?_
        refine lv_iconst (v := 3) hx hb dX12_think_62 (by decide) ?_
        refine lv_iadd hx hb dX12_think_63 ?_
        obtain ⟨h_27, hg⟩ := g_gde hg
        refine va_iald hx hb hK.1 hP 3 0 rfl rfl (inB_vp h_27) dX12_think_64 ?_
        obtain ⟨r_28, hr_28, hg⟩ := g_bd hg
        refine cc_v (va_runV (C := RX12) (As := [.int (x2 + 80), .int ((pX12_texts v0) ((x5_25 + 2) : Int32).toNatClampNeg), .int ((pX12_texts v0) ((x5_25 + 3) : Int32).toNatClampNeg)]) (rest := []) ⟨hx, hb, hml, hown, htb⟩ (k_X12_work a0 a0_a a0_image a0_texts a0_board a0_taken a0_fars a0_before a0_tape a0_pile a0_rows a0_told a0_values a0_truth a0_keeps v0 (x2 + 80) ((pX12_texts v0) ((x5_25 + 2) : Int32).toNatClampNeg) ((pX12_texts v0) ((x5_25 + 3) : Int32).toNatClampNeg) r_28 hr_28) (cw_V 3 htb tg_1326 tg_13 tg_1323 tg_1325 ts_66 rfl rfl (by decide +kernel) ⟨Nat.le_of_ble_eq_true rfl, Nat.le_of_ble_eq_true rfl⟩) ⟨PC.blind, va_recv hK.1 hP (ci := 11) (q0 := 0) rfl rfl, PC.pre hK hT hP hD hS hA [0, 1, 2, 3, 4, 5, 6, 7, 8, 9, 10, 11, 12, 13, 14] rfl (by decide)⟩ rfl rfl hl.1 rfl (lv_room (Nat.le_of_ble_eq_true rfl)) dX12_think_65 ⟨Nat.le_of_ble_eq_true rfl, Nat.le_of_ble_eq_true rfl⟩) hP hD hS hA [0, 1, 2, 3, 4, 5, 6, 7, 8, 9, 10, 11, 12, 13, 14] [] rfl rfl (by decide) (by decide) (fun u9 H locs hw hP hD hS => ?_)
        have hw := hw.symm
        subst hw
        have hP : va_P D vwCl (WS_X12_think cI cJ cZ cY a0 a0_a a0_image a0_texts a0_board a0_taken a0_fars a0_before a0_tape a0_pile a0_rows a0_told a0_values a0_truth a0_keeps r_28) H := hP.sub [0, 1, 2, 3, 4, 5, 6, 7, 8, 9, 10, 11, 12, 13, 14] rfl
        have hD : va_D A (WS_X12_think cI cJ cZ cY a0 a0_a a0_image a0_texts a0_board a0_taken a0_fars a0_before a0_tape a0_pile a0_rows a0_told a0_values a0_truth a0_keeps r_28) := hD.sub [0, 1, 2, 3, 4, 5, 6, 7, 8, 9, 10, 11, 12, 13, 14] (by decide) rfl
        refine lv_aload_n hx hb dX12_think_68 rfl (lv_at hl 1 rfl) ?_
        refine va_get (ci := 11) (v := .ref a0_texts) (C := RX12) (T := TX12) (N := 43) hx hb htb uX12 hown hK.1 hP 0 rfl rfl 4 (by decide) (htb _ tg_940) (fun _ h9 => h9) rfl dX12_think_69 ?_
        refine lv_iload hx hb dX12_think_72 (lv_at hl 0 rfl) ?_
        obtain ⟨h_29, hg⟩ := g_gde hg
        refine va_iald hx hb hK.1 hP 3 0 rfl rfl (inB_vp h_29) dX12_think_74 ?_
        refine lv_iconst (v := 1) hx hb dX12_think_75 (by decide) ?_
        refine lv_icmp_ne (tgt := 100) hx hb dX12_think_76 (by decide) (fun c_30 => ?_) (fun c_30 => ?_)
        · have hg := g_if hg c_30
          exact b_100 (f_X12_think_b21 n) ih x2 x3 x4 x5_25 r_28 H locs ls hP hD hS (lv_sub hl [1, 2, 3, 4, 0] rfl) hg
        · have hg := g_it hg c_30
          refine lv_aload_n hx hb dX12_think_79 rfl (lv_at hl 1 rfl) ?_
          refine va_get (ci := 11) (v := .ref a0_told) (C := RX12) (T := TX12) (N := 43) hx hb htb uX12 hown hK.1 hP 0 rfl rfl 36 (by decide) (htb _ tg_972) (fun _ h9 => h9) rfl dX12_think_80 ?_
          refine lv_aload_n hx hb dX12_think_83 rfl (lv_at hl 1 rfl) ?_
          refine va_get (ci := 11) (v := .ref a0_texts) (C := RX12) (T := TX12) (N := 43) hx hb htb uX12 hown hK.1 hP 0 rfl rfl 4 (by decide) (htb _ tg_940) (fun _ h9 => h9) rfl dX12_think_84 ?_
          refine lv_iload hx hb dX12_think_87 (lv_at hl 0 rfl) ?_
          refine lv_iconst (v := 1) hx hb dX12_think_89 (by decide) ?_
          refine lv_iadd hx hb dX12_think_90 ?_
          obtain ⟨h_31, hg⟩ := g_gde hg
          refine va_iald hx hb hK.1 hP 3 0 rfl rfl (inB_vp h_31) dX12_think_91 ?_
          refine lv_aload_n hx hb dX12_think_92 rfl (lv_at hl 1 rfl) ?_
          refine va_get (ci := 11) (v := .ref a0_values) (C := RX12) (T := TX12) (N := 43) hx hb htb uX12 hown hK.1 hP 0 rfl rfl 37 (by decide) (htb _ tg_973) (fun _ h9 => h9) rfl dX12_think_93 ?_
          refine lv_iconst (v := 0) hx hb dX12_think_96 (by decide) ?_
          obtain ⟨h_32, hg⟩ := g_gde hg
          refine va_lald hx hb hK.1 hP 12 1 rfl rfl (inB_vp h_32) dX12_think_97 ?_
          refine lv_l2i (v := (((pX12_values r_28) (0 : Int32).toNatClampNeg) : Int64).toInt32) hx hb dX12_think_98 rfl ?_
          refine lv_topi (fun x_33 ex_33 => ?_)
          have hg := g_lte hg x_33 ex_33
          obtain ⟨h_34, hg⟩ := g_gde hg
          refine va_iast hx hb hK.1 hP hD hS 11 0 rfl rfl (inB_vp h_34) dX12_think_99 (fun H locs hP hD hS => ?_)
          obtain ⟨v0_35, ev0_35⟩ : ∃ z, z = sX12_told r_28 (upd (pX12_told r_28) (((pX12_texts r_28) ((x5_25 + 1) : Int32).toNatClampNeg) : Int32).toNatClampNeg x_33) := ⟨_, rfl⟩
          have hP : va_P D vwCl (WS_X12_think cI cJ cZ cY a0 a0_a a0_image a0_texts a0_board a0_taken a0_fars a0_before a0_tape a0_pile a0_rows a0_told a0_values a0_truth a0_keeps v0_35) H := by rw [ev0_35]; exact hP
          have hD : va_D A (WS_X12_think cI cJ cZ cY a0 a0_a a0_image a0_texts a0_board a0_taken a0_fars a0_before a0_tape a0_pile a0_rows a0_told a0_values a0_truth a0_keeps v0_35) := by rw [ev0_35]; exact hD
          have hg := g_lte hg v0_35 ev0_35
          exact b_100 (f_X12_think_b21 n) ih x2 x3 x4 x5_25 v0_35 H locs ls hP hD hS (lv_sub hl [1, 2, 3, 4, 0] rfl) hg
  generalize hHe : s.heap = H at hP ⊢
  have hS : va_S A s.heap H [] := by rw [← hHe]; exact va_S.rf
  generalize ([] : List Loc) = locs at hS ⊢
  unfold f_X12_think at hg
  refine lv_sipush (v := 800) hx hb dX12_think_0 (by decide) ?_
  refine lv_iload_n hx hb dX12_think_3 rfl (lv_at hl 1 rfl) ?_
  refine lv_imul hx hb dX12_think_4 ?_
  refine lv_topi (fun x2_36 ex2_36 => ?_)
  have hg := g_lte hg x2_36 ex2_36
  refine lv_istore_n (lv' := [(2, .int x2_36), (0, .ref a0), (1, .int p0)]) hx hb dX12_think_5 rfl hl (by decide) rfl (fun ls hl => ?_)
  refine lv_iconst (v := 0) hx hb dX12_think_6 (by decide) ?_
  refine lv_istore_n (lv' := [(3, .int 0), (2, .int x2_36), (0, .ref a0), (1, .int p0)]) hx hb dX12_think_7 rfl hl (by decide) rfl (fun ls hl => ?_)
  refine lv_aload_n hx hb dX12_think_8 rfl (lv_at hl 2 rfl) ?_
  refine lv_iconst (v := 0) hx hb dX12_think_9 (by decide) ?_
  refine va_put (ci := 11) (v := .int 0) (ty := .int) (C := RX12) (T := TX12) (N := 43) hx hb htb uX12 tyX12 tyX12_ok nmX12 hown hK.1 hP hD hS 0 rfl rfl 40 (by decide) (htb _ tg_976) (fun _ h9 => h9) rfl (by decide +kernel) rfl rfl (Nat.le_of_ble_eq_true rfl) dX12_think_10 (fun H locs hP hD hS => ?_)
  obtain ⟨v0_37, ev0_37⟩ : ∃ z, z = sX12_turn v0 0 := ⟨_, rfl⟩
  have hP : va_P D vwCl (WS_X12_think cI cJ cZ cY a0 a0_a a0_image a0_texts a0_board a0_taken a0_fars a0_before a0_tape a0_pile a0_rows a0_told a0_values a0_truth a0_keeps v0_37) H := by rw [ev0_37]; exact hP
  have hD : va_D A (WS_X12_think cI cJ cZ cY a0 a0_a a0_image a0_texts a0_board a0_taken a0_fars a0_before a0_tape a0_pile a0_rows a0_told a0_values a0_truth a0_keeps v0_37) := by rw [ev0_37]; exact hD
  have hg := g_lte hg v0_37 ev0_37
  refine lv_aload_n hx hb dX12_think_13 rfl (lv_at hl 2 rfl) ?_
  refine lv_iconst (v := 0) hx hb dX12_think_14 (by decide) ?_
  refine va_put (ci := 11) (v := .int 0) (ty := .int) (C := RX12) (T := TX12) (N := 43) hx hb htb uX12 tyX12 tyX12_ok nmX12 hown hK.1 hP hD hS 0 rfl rfl 41 (by decide) (htb _ tg_977) (fun _ h9 => h9) rfl (by decide +kernel) rfl rfl (Nat.le_of_ble_eq_true rfl) dX12_think_15 (fun H locs hP hD hS => ?_)
  obtain ⟨v0_38, ev0_38⟩ : ∃ z, z = sX12_go v0_37 0 := ⟨_, rfl⟩
  have hP : va_P D vwCl (WS_X12_think cI cJ cZ cY a0 a0_a a0_image a0_texts a0_board a0_taken a0_fars a0_before a0_tape a0_pile a0_rows a0_told a0_values a0_truth a0_keeps v0_38) H := by rw [ev0_38]; exact hP
  have hD : va_D A (WS_X12_think cI cJ cZ cY a0 a0_a a0_image a0_texts a0_board a0_taken a0_fars a0_before a0_tape a0_pile a0_rows a0_told a0_values a0_truth a0_keeps v0_38) := by rw [ev0_38]; exact hD
  have hg := g_lte hg v0_38 ev0_38
  refine lv_iconst (v := 0) hx hb dX12_think_18 (by decide) ?_
  refine lv_istore (lv' := [(4, .int 0), (3, .int 0), (2, .int x2_36), (0, .ref a0), (1, .int p0)]) hx hb dX12_think_19 hl (by decide) rfl (fun ls hl => ?_)
  exact b_21 fU x2_36 0 0 v0_38 H locs ls hP hD hS (lv_sub hl [3, 2, 1, 0] rfl) hg

/-! ManyEyesModel.see()V -/
def WS_X12_see_ (cI cJ cZ cY : ClassId) (a0 a0_a a0_image a0_texts a0_board a0_taken a0_fars a0_before a0_tape a0_pile a0_rows a0_told a0_values a0_truth a0_keeps : Nat) (v0 : BX12) : va_W := (GX12 cI cJ cZ cY a0 a0_a a0_image a0_texts a0_board a0_taken a0_fars a0_before a0_tape a0_pile a0_rows a0_told a0_values a0_truth a0_keeps v0)
def f_X12_see__b192 (J63 : (Int32 × Int32 × BX12) → Option (BX12)) (x1 : Int32) (x2 : Int32) (t1 : Int32) (t2 : Int32) (v0 : BX12) : Option (BX12) := g_gd (inB t1 2280) (g_lt (sX12_rows v0 (upd (pX12_rows v0) (t1 : Int32).toNatClampNeg t2)) (fun v0_2 => g_lt (x2 + 1 : Int32) (fun x2_3 => J63 (x1, x2_3, v0_2))))
def f_X12_see__b63B (J63 : Int32 × Int32 × BX12 → Option (BX12)) (x1 : Int32) (x2 : Int32) (v0 : BX12) : Option (BX12) := g_gd (inB 2 3170) (if (((pX12_a v0) (2 : Int32).toNatClampNeg) : Int32) ≤ x2 then (some (v0)) else (g_lt (((660 : Int32) + ((3 : Int32) * x2)) : Int32) (fun x3_6 => g_gd (inB (x3_6 + 2) 3170) (g_lt (((x1 - ((38 : Int32) * ((pX12_a v0) ((x3_6 + 2) : Int32).toNatClampNeg))) + 5) : Int32) (fun x4_8 => g_gd (inB (x3_6 + 2) 3170) (if (((pX12_a v0) ((x3_6 + 2) : Int32).toNatClampNeg) : Int32) ≤ (pX12_now v0) then (g_gd (inB x3_6 3170) (g_gd (inB (x4_8 + ((pX12_a v0) (x3_6 : Int32).toNatClampNeg)) 2280) (g_gd (inB (x3_6 + 1) 3170) (g_gd (inB ((x1 + 5) + ((pX12_a v0) ((x3_6 + 1) : Int32).toNatClampNeg)) 2280) (g_gd (inB x3_6 3170) (g_gd (inB ((x1 + 5) + ((pX12_a v0) (x3_6 : Int32).toNatClampNeg)) 2280) (g_gd (inB (x3_6 + 1) 3170) (g_gd (inB (x4_8 + ((pX12_a v0) ((x3_6 + 1) : Int32).toNatClampNeg)) 2280) (f_X12_see__b192 J63 x1 x2 ((x1 + 21) + x2) ((((pX12_rows v0) ((x4_8 + ((pX12_a v0) (x3_6 : Int32).toNatClampNeg)) : Int32).toNatClampNeg) * ((pX12_rows v0) (((x1 + 5) + ((pX12_a v0) ((x3_6 + 1) : Int32).toNatClampNeg)) : Int32).toNatClampNeg)) - (((pX12_rows v0) (((x1 + 5) + ((pX12_a v0) (x3_6 : Int32).toNatClampNeg)) : Int32).toNatClampNeg) * ((pX12_rows v0) ((x4_8 + ((pX12_a v0) ((x3_6 + 1) : Int32).toNatClampNeg)) : Int32).toNatClampNeg))) v0))))))))) else (f_X12_see__b192 J63 x1 x2 ((x1 + 21) + x2) 0 v0)))))))
def f_X12_see__b63 : Nat → (Int32 × Int32 × BX12) → Option (BX12) := g_lp (fun J z => f_X12_see__b63B J z.1 z.2.1 z.2.2)
def f_X12_see__b26B (J26 : Int32 × Int32 × BX12 → Option (BX12)) (x1 : Int32) (x2 : Int32) (v0 : BX12) : Option (BX12) := g_gd (inB 1 3170) (if (((pX12_a v0) (1 : Int32).toNatClampNeg) : Int32) ≤ x2 then (f_X12_see__b63 fU (x1, 0, v0)) else ((f_X12_lensTake v0 x2 (pX12_heading v0)).bind (fun r_21 => g_gd (inB ((x1 + 5) + x2) 2280) (g_lt (sX12_rows v0 (upd (pX12_rows v0) (((x1 + 5) + x2) : Int32).toNatClampNeg r_21)) (fun v0_23 => g_lt (x2 + 1 : Int32) (fun x2_24 => J26 (x1, x2_24, v0_23)))))))
def f_X12_see__b26 : Nat → (Int32 × Int32 × BX12) → Option (BX12) := g_lp (fun J z => f_X12_see__b26B J z.1 z.2.1 z.2.2)
def f_X12_see_ (v0 : BX12) : Option (BX12) := g_lt (((38 : Int32) * (pX12_now v0)) : Int32) (fun x1_25 => (f_X12_look v0 (pX12_atX v0) (pX12_atY v0) (pX12_now v0)).bind (fun r_26 => f_X12_see__b26 fU (x1_25, 0, r_26)))
abbrev rm_X12_see_ : Room := { frames := 4, cells := 0, slots := 0, locals := 92 }
set_option maxHeartbeats 4000000 in
set_option maxRecDepth 100000 in
theorem k_X12_see_ {l : Launch} {D : va_G} {cI cJ cZ cY : ClassId} {tX tY : Nat} {sz : Nat} (a0 a0_a a0_image a0_texts a0_board a0_taken a0_fars a0_before a0_tape a0_pile a0_rows a0_told a0_values a0_truth a0_keeps : Nat) (v0 : BX12) (res : BX12) (hg : f_X12_see_ v0 = some res) : Met l yX12_see_ (Cond.code yX12_see_ cX12_see_ 5 none :: TB) rm_X12_see_ (PC D cI cJ cZ cY tX tY [.ref a0] (WS_X12_see_ cI cJ cZ cY a0 a0_a a0_image a0_texts a0_board a0_taken a0_fars a0_before a0_tape a0_pile a0_rows a0_told a0_values a0_truth a0_keeps v0) sz) (va_Qv (fun (u : BX12) => u = res) (BC D (fun u : BX12 => WS_X12_see_ cI cJ cZ cY a0 a0_a a0_image a0_texts a0_board a0_taken a0_fars a0_before a0_tape a0_pile a0_rows a0_told a0_values a0_truth a0_keeps u) (va_A (WS_X12_see_ cI cJ cZ cY a0 a0_a a0_image a0_texts a0_board a0_taken a0_fars a0_before a0_tape a0_pile a0_rows a0_told a0_values a0_truth a0_keeps v0) sz)) (va_A (WS_X12_see_ cI cJ cZ cY a0 a0_a a0_image a0_texts a0_board a0_taken a0_fars a0_before a0_tape a0_pile a0_rows a0_told a0_values a0_truth a0_keeps v0) sz)) 0 0 (va_A (WS_X12_see_ cI cJ cZ cY a0 a0_a a0_image a0_texts a0_board a0_taken a0_fars a0_before a0_tape a0_pile a0_rows a0_told a0_values a0_truth a0_keeps v0) sz) := by
  refine Met.ofW (cc := cX12_see_) (maxL := 5) (ret := none) (by decide) rfl ?_
  intro p e s m args below meth c s₁ B hml hv
  obtain ⟨hargs, hsz, hP, hK, hD0, hT⟩ := hv
  have hx := B.exec
  have hb := B.bytes
  have hr := B.returns
  have htb : ∀ w ∈ TB, w.before args s = true := fun w h => atoms_spec (ws := Cond.code yX12_see_ cX12_see_ 5 none :: TB) B.pre w (List.mem_cons_of_mem _ h)
  have hown : s.vm.findClass "ManyEyesModel" = some m.cls := findClass_of_methodNamed B.named
  have hlocks := B.notSynchronized
  subst hsz
  have hD := hD0.self (sz := s.heap.size)
  generalize hAe : va_A (WS_X12_see_ cI cJ cZ cY a0 a0_a a0_image a0_texts a0_board a0_taken a0_fars a0_before a0_tape a0_pile a0_rows a0_told a0_values a0_truth a0_keeps v0) s.heap.size = A at hD hT ⊢
  have hA : ∀ q : Nat, s.heap.size ≤ q → A q := fun q h => by rw [← hAe]; exact Or.inr h
  have hS : va_S A s.heap s.heap [] := va_S.rf
  have hl := lv_entry ([.ref a0]) (n := 5) (Nat.le_of_ble_eq_true rfl)
  have he : entryFrame m args 5 = F0 m 0 (lg_sl ([.ref a0]) ++ List.replicate (5 - (lg_sl ([.ref a0])).length) Slot.unset).toArray [] := by rw [hargs, lg_entry_eq]
  rw [he]
  generalize (lg_sl ([.ref a0]) ++ List.replicate (5 - (lg_sl ([.ref a0])).length) Slot.unset).toArray = ls at hl ⊢
  have hl : lv_has ls 5 [(0, .ref a0)] := hl
  show W p l e rm_X12_see_ s m args below meth c s.heap [] 0 0 _ _
  refine W.genQ (fun Q hQ => ?_)
  have b_192 : ∀ (J63 : (Int32 × Int32 × BX12) → Option (BX12)) (hJ63 : ∀ (x1 : Int32) (x2 : Int32) (v0 : BX12) (H : Heap) (locs : List Loc) (ls : Array Slot), va_P D vwCl (WS_X12_see_ cI cJ cZ cY a0 a0_a a0_image a0_texts a0_board a0_taken a0_fars a0_before a0_tape a0_pile a0_rows a0_told a0_values a0_truth a0_keeps v0) H → va_D A (WS_X12_see_ cI cJ cZ cY a0 a0_a a0_image a0_texts a0_board a0_taken a0_fars a0_before a0_tape a0_pile a0_rows a0_told a0_values a0_truth a0_keeps v0) → va_S A s.heap H locs → lv_has ls 5 [(0, .ref a0), (1, .int x1), (2, .int x2)] → J63 (x1, x2, v0) = some res → W p l e rm_X12_see_ s m args below meth c H locs 0 0 Q (F0 m 63 ls [])), ∀ (x1 : Int32) (x2 : Int32) (t1 : Int32) (t2 : Int32) (v0 : BX12) (H : Heap) (locs : List Loc) (ls : Array Slot), va_P D vwCl (WS_X12_see_ cI cJ cZ cY a0 a0_a a0_image a0_texts a0_board a0_taken a0_fars a0_before a0_tape a0_pile a0_rows a0_told a0_values a0_truth a0_keeps v0) H → va_D A (WS_X12_see_ cI cJ cZ cY a0 a0_a a0_image a0_texts a0_board a0_taken a0_fars a0_before a0_tape a0_pile a0_rows a0_told a0_values a0_truth a0_keeps v0) → va_S A s.heap H locs → lv_has ls 5 [(0, .ref a0), (1, .int x1), (2, .int x2)] → f_X12_see__b192 J63 x1 x2 t1 t2 v0 = some res → W p l e rm_X12_see_ s m args below meth c H locs 0 0 Q (F0 m 192 ls [.int t2, .int t1, .ref a0_rows]) := by
    intro J63 hJ63 x1 x2 t1 t2 v0 H locs ls hP hD hS hl hg
    unfold f_X12_see__b192 at hg
    obtain ⟨h_1, hg⟩ := g_gde hg
    refine va_iast hx hb hK.1 hP hD hS 10 0 rfl rfl (inB_vp h_1) dX12_see__192 (fun H locs hP hD hS => ?_)
    obtain ⟨v0_2, ev0_2⟩ : ∃ z, z = sX12_rows v0 (upd (pX12_rows v0) (t1 : Int32).toNatClampNeg t2) := ⟨_, rfl⟩
    have hP : va_P D vwCl (WS_X12_see_ cI cJ cZ cY a0 a0_a a0_image a0_texts a0_board a0_taken a0_fars a0_before a0_tape a0_pile a0_rows a0_told a0_values a0_truth a0_keeps v0_2) H := by rw [ev0_2]; exact hP
    have hD : va_D A (WS_X12_see_ cI cJ cZ cY a0 a0_a a0_image a0_texts a0_board a0_taken a0_fars a0_before a0_tape a0_pile a0_rows a0_told a0_values a0_truth a0_keeps v0_2) := by rw [ev0_2]; exact hD
    have hg := g_lte hg v0_2 ev0_2
    obtain ⟨x2_3, ex2_3⟩ : ∃ z : Int32, z = x2 + 1 := ⟨_, rfl⟩
    have hg := g_lte hg x2_3 ex2_3
    refine lv_iinc (v := x2_3) (lv' := [(2, .int x2_3), (0, .ref a0), (1, .int x1)]) hx hb dX12_see__193 hl (k := 2) rfl (by rw [ex2_3]; rfl) (by decide) rfl (fun ls hl => ?_)
    refine lv_goto (tgt := 63) hx hb dX12_see__196 (by decide) ?_
    exact hJ63 x1 x2_3 v0_2 H locs ls hP hD hS (lv_sub hl [1, 2, 0] rfl) hg
  have b_63 : ∀ (n : Nat), ∀ (x1 : Int32) (x2 : Int32) (v0 : BX12) (H : Heap) (locs : List Loc) (ls : Array Slot), va_P D vwCl (WS_X12_see_ cI cJ cZ cY a0 a0_a a0_image a0_texts a0_board a0_taken a0_fars a0_before a0_tape a0_pile a0_rows a0_told a0_values a0_truth a0_keeps v0) H → va_D A (WS_X12_see_ cI cJ cZ cY a0 a0_a a0_image a0_texts a0_board a0_taken a0_fars a0_before a0_tape a0_pile a0_rows a0_told a0_values a0_truth a0_keeps v0) → va_S A s.heap H locs → lv_has ls 5 [(0, .ref a0), (1, .int x1), (2, .int x2)] → f_X12_see__b63 n (x1, x2, v0) = some res → W p l e rm_X12_see_ s m args below meth c H locs 0 0 Q (F0 m 63 ls []) := by
    intro n
    induction n with
    | zero =>
      intro x1 x2 v0 H locs ls hP hD hS hl hg
      exact (g_lp0 hg).elim
    | succ n ih =>
      intro x1 x2 v0 H locs ls hP hD hS hl hg
      have hg : f_X12_see__b63B (f_X12_see__b63 n) x1 x2 v0 = some res := hg
      unfold f_X12_see__b63B at hg
      refine lv_iload_n hx hb dX12_see__63 rfl (lv_at hl 2 rfl) ?_
      refine lv_aload_n hx hb dX12_see__64 rfl (lv_at hl 0 rfl) ?_
      refine va_get (ci := 11) (v := .ref a0_a) (C := RX12) (T := TX12) (N := 43) hx hb htb uX12 hown hK.1 hP 0 rfl rfl 2 (by decide) (htb _ tg_938) (fun _ h9 => h9) rfl dX12_see__65 ?_
      refine lv_iconst (v := 2) hx hb dX12_see__68 (by decide) ?_
      obtain ⟨h_4, hg⟩ := g_gde hg
      refine va_iald hx hb hK.1 hP 1 0 rfl rfl (inB_vp h_4) dX12_see__69 ?_
      refine lv_icmp_ge (tgt := 199) hx hb dX12_see__70 (by decide) (fun c_5 => ?_) (fun c_5 => ?_)
      · have hg := g_it hg c_5
        have hg := Option.some.inj hg
        rw [hQ]
        exact W.vret hx hb hr (fun t ht hW => ⟨⟨(v0), rfl, hg, by rw [ht]; exact hP, hD⟩, hS.F ht⟩) hS.2.2 dX12_see__199
      · have hg := g_if hg c_5
        refine lv_sipush (v := 660) hx hb dX12_see__73 (by decide) ?_
        refine lv_iconst (v := 3) hx hb dX12_see__76 (by decide) ?_
        refine lv_iload_n hx hb dX12_see__77 rfl (lv_at hl 2 rfl) ?_
        refine lv_imul hx hb dX12_see__78 ?_
        refine lv_iadd hx hb dX12_see__79 ?_
        refine lv_topi (fun x3_6 ex3_6 => ?_)
        have hg := g_lte hg x3_6 ex3_6
        refine lv_istore_n (lv' := [(3, .int x3_6), (0, .ref a0), (1, .int x1), (2, .int x2)]) hx hb dX12_see__80 rfl hl (by decide) rfl (fun ls hl => ?_)
        refine lv_iload_n hx hb dX12_see__81 rfl (lv_at hl 2 rfl) ?_
        refine lv_bipush (v := 38) hx hb dX12_see__82 (by decide) ?_
        refine lv_aload_n hx hb dX12_see__84 rfl (lv_at hl 1 rfl) ?_
        refine va_get (ci := 11) (v := .ref a0_a) (C := RX12) (T := TX12) (N := 43) hx hb htb uX12 hown hK.1 hP 0 rfl rfl 2 (by decide) (htb _ tg_938) (fun _ h9 => h9) rfl dX12_see__85 ?_
        refine lv_iload_n hx hb dX12_see__88 rfl (lv_at hl 0 rfl) ?_
        refine lv_iconst (v := 2) hx hb dX12_see__89 (by decide) ?_
        refine lv_iadd hx hb dX12_see__90 ?_
        obtain ⟨h_7, hg⟩ := g_gde hg
        refine va_iald hx hb hK.1 hP 1 0 rfl rfl (inB_vp h_7) dX12_see__91 ?_
        refine lv_imul hx hb dX12_see__92 ?_
        refine lv_isub hx hb dX12_see__93 ?_
        refine lv_iconst (v := 5) hx hb dX12_see__94 (by decide) ?_
        refine lv_iadd hx hb dX12_see__95 ?_
        refine lv_topi (fun x4_8 ex4_8 => ?_)
        have hg := g_lte hg x4_8 ex4_8
        refine lv_istore (lv' := [(4, .int x4_8), (3, .int x3_6), (0, .ref a0), (1, .int x1), (2, .int x2)]) hx hb dX12_see__96 hl (by decide) rfl (fun ls hl => ?_)
        refine lv_aload_n hx hb dX12_see__98 rfl (lv_at hl 2 rfl) ?_
        refine va_get (ci := 11) (v := .ref a0_rows) (C := RX12) (T := TX12) (N := 43) hx hb htb uX12 hown hK.1 hP 0 rfl rfl 35 (by decide) (htb _ tg_971) (fun _ h9 => h9) rfl dX12_see__99 ?_
        refine lv_iload_n hx hb dX12_see__102 rfl (lv_at hl 3 rfl) ?_
        refine lv_bipush (v := 21) hx hb dX12_see__103 (by decide) ?_
        refine lv_iadd hx hb dX12_see__105 ?_
        refine lv_iload_n hx hb dX12_see__106 rfl (lv_at hl 4 rfl) ?_
        refine lv_iadd hx hb dX12_see__107 ?_
        refine lv_aload_n hx hb dX12_see__108 rfl (lv_at hl 2 rfl) ?_
        refine va_get (ci := 11) (v := .int (pX12_now v0)) (C := RX12) (T := TX12) (N := 43) hx hb htb uX12 hown hK.1 hP 0 rfl rfl 39 (by decide) (htb _ tg_975) (fun _ h9 => h9) rfl dX12_see__109 ?_
        refine lv_aload_n hx hb dX12_see__112 rfl (lv_at hl 2 rfl) ?_
        refine va_get (ci := 11) (v := .ref a0_a) (C := RX12) (T := TX12) (N := 43) hx hb htb uX12 hown hK.1 hP 0 rfl rfl 2 (by decide) (htb _ tg_938) (fun _ h9 => h9) rfl dX12_see__113 ?_
        refine lv_iload_n hx hb dX12_see__116 rfl (lv_at hl 1 rfl) ?_
        refine lv_iconst (v := 2) hx hb dX12_see__117 (by decide) ?_
        refine lv_iadd hx hb dX12_see__118 ?_
        obtain ⟨h_9, hg⟩ := g_gde hg
        refine va_iald hx hb hK.1 hP 1 0 rfl rfl (inB_vp h_9) dX12_see__119 ?_
        refine lv_icmp_ge (tgt := 127) hx hb dX12_see__120 (by decide) (fun c_10 => ?_) (fun c_10 => ?_)
        · have hg := g_it hg c_10
          refine lv_aload_n hx hb dX12_see__127 rfl (lv_at hl 2 rfl) ?_
          refine va_get (ci := 11) (v := .ref a0_rows) (C := RX12) (T := TX12) (N := 43) hx hb htb uX12 hown hK.1 hP 0 rfl rfl 35 (by decide) (htb _ tg_971) (fun _ h9 => h9) rfl dX12_see__128 ?_
          refine lv_iload hx hb dX12_see__131 (lv_at hl 0 rfl) ?_
          refine lv_aload_n hx hb dX12_see__133 rfl (lv_at hl 2 rfl) ?_
          refine va_get (ci := 11) (v := .ref a0_a) (C := RX12) (T := TX12) (N := 43) hx hb htb uX12 hown hK.1 hP 0 rfl rfl 2 (by decide) (htb _ tg_938) (fun _ h9 => h9) rfl dX12_see__134 ?_
          refine lv_iload_n hx hb dX12_see__137 rfl (lv_at hl 1 rfl) ?_
          obtain ⟨h_11, hg⟩ := g_gde hg
          refine va_iald hx hb hK.1 hP 1 0 rfl rfl (inB_vp h_11) dX12_see__138 ?_
          refine lv_iadd hx hb dX12_see__139 ?_
          obtain ⟨h_12, hg⟩ := g_gde hg
          refine va_iald hx hb hK.1 hP 10 0 rfl rfl (inB_vp h_12) dX12_see__140 ?_
          refine lv_aload_n hx hb dX12_see__141 rfl (lv_at hl 2 rfl) ?_
          refine va_get (ci := 11) (v := .ref a0_rows) (C := RX12) (T := TX12) (N := 43) hx hb htb uX12 hown hK.1 hP 0 rfl rfl 35 (by decide) (htb _ tg_971) (fun _ h9 => h9) rfl dX12_see__142 ?_
          refine lv_iload_n hx hb dX12_see__145 rfl (lv_at hl 3 rfl) ?_
          refine lv_iconst (v := 5) hx hb dX12_see__146 (by decide) ?_
          refine lv_iadd hx hb dX12_see__147 ?_
          refine lv_aload_n hx hb dX12_see__148 rfl (lv_at hl 2 rfl) ?_
          refine va_get (ci := 11) (v := .ref a0_a) (C := RX12) (T := TX12) (N := 43) hx hb htb uX12 hown hK.1 hP 0 rfl rfl 2 (by decide) (htb _ tg_938) (fun _ h9 => h9) rfl dX12_see__149 ?_
          refine lv_iload_n hx hb dX12_see__152 rfl (lv_at hl 1 rfl) ?_
          refine lv_iconst (v := 1) hx hb dX12_see__153 (by decide) ?_
          refine lv_iadd hx hb dX12_see__154 ?_
          obtain ⟨h_13, hg⟩ := g_gde hg
          refine va_iald hx hb hK.1 hP 1 0 rfl rfl (inB_vp h_13) dX12_see__155 ?_
          refine lv_iadd hx hb dX12_see__156 ?_
          obtain ⟨h_14, hg⟩ := g_gde hg
          refine va_iald hx hb hK.1 hP 10 0 rfl rfl (inB_vp h_14) dX12_see__157 ?_
          refine lv_imul hx hb dX12_see__158 ?_
          refine lv_aload_n hx hb dX12_see__159 rfl (lv_at hl 2 rfl) ?_
          refine va_get (ci := 11) (v := .ref a0_rows) (C := RX12) (T := TX12) (N := 43) hx hb htb uX12 hown hK.1 hP 0 rfl rfl 35 (by decide) (htb _ tg_971) (fun _ h9 => h9) rfl dX12_see__160 ?_
          refine lv_iload_n hx hb dX12_see__163 rfl (lv_at hl 3 rfl) ?_
          refine lv_iconst (v := 5) hx hb dX12_see__164 (by decide) ?_
          refine lv_iadd hx hb dX12_see__165 ?_
          refine lv_aload_n hx hb dX12_see__166 rfl (lv_at hl 2 rfl) ?_
          refine va_get (ci := 11) (v := .ref a0_a) (C := RX12) (T := TX12) (N := 43) hx hb htb uX12 hown hK.1 hP 0 rfl rfl 2 (by decide) (htb _ tg_938) (fun _ h9 => h9) rfl dX12_see__167 ?_
          refine lv_iload_n hx hb dX12_see__170 rfl (lv_at hl 1 rfl) ?_
          obtain ⟨h_15, hg⟩ := g_gde hg
          refine va_iald hx hb hK.1 hP 1 0 rfl rfl (inB_vp h_15) dX12_see__171 ?_
          refine lv_iadd hx hb dX12_see__172 ?_
          obtain ⟨h_16, hg⟩ := g_gde hg
          refine va_iald hx hb hK.1 hP 10 0 rfl rfl (inB_vp h_16) dX12_see__173 ?_
          refine lv_aload_n hx hb dX12_see__174 rfl (lv_at hl 2 rfl) ?_
          refine va_get (ci := 11) (v := .ref a0_rows) (C := RX12) (T := TX12) (N := 43) hx hb htb uX12 hown hK.1 hP 0 rfl rfl 35 (by decide) (htb _ tg_971) (fun _ h9 => h9) rfl dX12_see__175 ?_
          refine lv_iload hx hb dX12_see__178 (lv_at hl 0 rfl) ?_
          refine lv_aload_n hx hb dX12_see__180 rfl (lv_at hl 2 rfl) ?_
          refine va_get (ci := 11) (v := .ref a0_a) (C := RX12) (T := TX12) (N := 43) hx hb htb uX12 hown hK.1 hP 0 rfl rfl 2 (by decide) (htb _ tg_938) (fun _ h9 => h9) rfl dX12_see__181 ?_
          refine lv_iload_n hx hb dX12_see__184 rfl (lv_at hl 1 rfl) ?_
          refine lv_iconst (v := 1) hx hb dX12_see__185 (by decide) ?_
          refine lv_iadd hx hb dX12_see__186 ?_
          obtain ⟨h_17, hg⟩ := g_gde hg
          refine va_iald hx hb hK.1 hP 1 0 rfl rfl (inB_vp h_17) dX12_see__187 ?_
          refine lv_iadd hx hb dX12_see__188 ?_
          obtain ⟨h_18, hg⟩ := g_gde hg
          refine va_iald hx hb hK.1 hP 10 0 rfl rfl (inB_vp h_18) dX12_see__189 ?_
          refine lv_imul hx hb dX12_see__190 ?_
          refine lv_isub hx hb dX12_see__191 ?_
          exact b_192 (f_X12_see__b63 n) ih x1 x2 ((x1 + 21) + x2) ((((pX12_rows v0) ((x4_8 + ((pX12_a v0) (x3_6 : Int32).toNatClampNeg)) : Int32).toNatClampNeg) * ((pX12_rows v0) (((x1 + 5) + ((pX12_a v0) ((x3_6 + 1) : Int32).toNatClampNeg)) : Int32).toNatClampNeg)) - (((pX12_rows v0) (((x1 + 5) + ((pX12_a v0) (x3_6 : Int32).toNatClampNeg)) : Int32).toNatClampNeg) * ((pX12_rows v0) ((x4_8 + ((pX12_a v0) ((x3_6 + 1) : Int32).toNatClampNeg)) : Int32).toNatClampNeg))) v0 H locs ls hP hD hS (lv_sub hl [2, 3, 4] rfl) hg
        · have hg := g_if hg c_10
          refine lv_iconst (v := 0) hx hb dX12_see__123 (by decide) ?_
          refine lv_goto (tgt := 192) hx hb dX12_see__124 (by decide) ?_
          exact b_192 (f_X12_see__b63 n) ih x1 x2 ((x1 + 21) + x2) 0 v0 H locs ls hP hD hS (lv_sub hl [2, 3, 4] rfl) hg
  have b_26 : ∀ (n : Nat), ∀ (x1 : Int32) (x2 : Int32) (v0 : BX12) (H : Heap) (locs : List Loc) (ls : Array Slot), va_P D vwCl (WS_X12_see_ cI cJ cZ cY a0 a0_a a0_image a0_texts a0_board a0_taken a0_fars a0_before a0_tape a0_pile a0_rows a0_told a0_values a0_truth a0_keeps v0) H → va_D A (WS_X12_see_ cI cJ cZ cY a0 a0_a a0_image a0_texts a0_board a0_taken a0_fars a0_before a0_tape a0_pile a0_rows a0_told a0_values a0_truth a0_keeps v0) → va_S A s.heap H locs → lv_has ls 5 [(0, .ref a0), (1, .int x1), (2, .int x2)] → f_X12_see__b26 n (x1, x2, v0) = some res → W p l e rm_X12_see_ s m args below meth c H locs 0 0 Q (F0 m 26 ls []) := by
    intro n
    induction n with
    | zero =>
      intro x1 x2 v0 H locs ls hP hD hS hl hg
      exact (g_lp0 hg).elim
    | succ n ih =>
      intro x1 x2 v0 H locs ls hP hD hS hl hg
      have hg : f_X12_see__b26B (f_X12_see__b26 n) x1 x2 v0 = some res := hg
      unfold f_X12_see__b26B at hg
      refine lv_iload_n hx hb dX12_see__26 rfl (lv_at hl 2 rfl) ?_
      refine lv_aload_n hx hb dX12_see__27 rfl (lv_at hl 0 rfl) ?_
      refine va_get (ci := 11) (v := .ref a0_a) (C := RX12) (T := TX12) (N := 43) hx hb htb uX12 hown hK.1 hP 0 rfl rfl 2 (by decide) (htb _ tg_938) (fun _ h9 => h9) rfl dX12_see__28 ?_
      refine lv_iconst (v := 1) hx hb dX12_see__31 (by decide) ?_
      obtain ⟨h_19, hg⟩ := g_gde hg
      refine va_iald hx hb hK.1 hP 1 0 rfl rfl (inB_vp h_19) dX12_see__32 ?_
      refine lv_icmp_ge (tgt := 61) hx hb dX12_see__33 (by decide) (fun c_20 => ?_) (fun c_20 => ?_)
      · have hg := g_it hg c_20
        refine lv_iconst (v := 0) hx hb dX12_see__61 (by decide) ?_
        refine lv_istore_n (lv' := [(2, .int 0), (0, .ref a0), (1, .int x1)]) hx hb dX12_see__62 rfl hl (by decide) rfl (fun ls hl => ?_)
        exact b_63 fU x1 0 v0 H locs ls hP hD hS (lv_sub hl [1, 2, 0] rfl) hg
      · have hg := g_if hg c_20
        refine lv_aload_n hx hb dX12_see__36 rfl (lv_at hl 0 rfl) ?_
        refine va_get (ci := 11) (v := .ref a0_rows) (C := RX12) (T := TX12) (N := 43) hx hb htb uX12 hown hK.1 hP 0 rfl rfl 35 (by decide) (htb _ tg_971) (fun _ h9 => h9) rfl dX12_see__37 ?_
        refine lv_iload_n hx hb dX12_see__40 rfl (lv_at hl 1 rfl) ?_
        refine lv_iconst (v := 5) hx hb dX12_see__41 (by decide) ?_
        refine lv_iadd hx hb dX12_see__42 ?_
        refine lv_iload_n hx hb dX12_see__43 rfl (lv_at hl 2 rfl) ?_
        refine lv_iadd hx hb dX12_see__44 ?_
        refine lv_aload_n hx hb dX12_see__45 rfl (lv_at hl 0 rfl) ?_
        refine lv_iload_n hx hb dX12_see__46 rfl (lv_at hl 2 rfl) ?_
        refine lv_aload_n hx hb dX12_see__47 rfl (lv_at hl 0 rfl) ?_
        refine va_get (ci := 11) (v := .int (pX12_heading v0)) (C := RX12) (T := TX12) (N := 43) hx hb htb uX12 hown hK.1 hP 0 rfl rfl 32 (by decide) (htb _ tg_968) (fun _ h9 => h9) rfl dX12_see__48 ?_
        obtain ⟨r_21, hr_21, hg⟩ := g_bd hg
        refine cc_i (va_runV (C := RX12) (As := [.int x2, .int (pX12_heading v0)]) (rest := [.int ((x1 + 5) + x2), .ref a0_rows]) ⟨hx, hb, hml, hown, htb⟩ (k_X12_lensTake a0 a0_a a0_image a0_texts a0_board a0_taken a0_fars a0_before a0_tape a0_pile a0_rows a0_told a0_values a0_truth a0_keeps v0 x2 (pX12_heading v0) r_21 hr_21) (cw_V 2 htb tg_1149 tg_13 tg_1146 tg_1148 ts_36 rfl rfl (by decide +kernel) ⟨Nat.le_of_ble_eq_true rfl, Nat.le_of_ble_eq_true rfl⟩) ⟨PC.blind, va_recv hK.1 hP (ci := 11) (q0 := 0) rfl rfl, PC.pre hK hT hP hD hS hA [0, 1, 2, 3, 4, 5, 6, 7, 8, 9, 10, 11, 12, 13, 14] rfl (by decide)⟩ rfl rfl hl.1 rfl (lv_room (Nat.le_of_ble_eq_true rfl)) dX12_see__51 ⟨Nat.le_of_ble_eq_true rfl, Nat.le_of_ble_eq_true rfl⟩) hP hD hS hA [0, 1, 2, 3, 4, 5, 6, 7, 8, 9, 10, 11, 12, 13, 14] [] rfl rfl (by decide) (by decide) (fun r9 u9 H locs hw hP hD hS => ?_)
        have hw := hw.symm
        subst hw
        have hP : va_P D vwCl (WS_X12_see_ cI cJ cZ cY a0 a0_a a0_image a0_texts a0_board a0_taken a0_fars a0_before a0_tape a0_pile a0_rows a0_told a0_values a0_truth a0_keeps v0) H := hP.sub [0, 1, 2, 3, 4, 5, 6, 7, 8, 9, 10, 11, 12, 13, 14] rfl
        have hD : va_D A (WS_X12_see_ cI cJ cZ cY a0 a0_a a0_image a0_texts a0_board a0_taken a0_fars a0_before a0_tape a0_pile a0_rows a0_told a0_values a0_truth a0_keeps v0) := hD.sub [0, 1, 2, 3, 4, 5, 6, 7, 8, 9, 10, 11, 12, 13, 14] (by decide) rfl
        obtain ⟨h_22, hg⟩ := g_gde hg
        refine va_iast hx hb hK.1 hP hD hS 10 0 rfl rfl (inB_vp h_22) dX12_see__54 (fun H locs hP hD hS => ?_)
        obtain ⟨v0_23, ev0_23⟩ : ∃ z, z = sX12_rows v0 (upd (pX12_rows v0) (((x1 + 5) + x2) : Int32).toNatClampNeg r_21) := ⟨_, rfl⟩
        have hP : va_P D vwCl (WS_X12_see_ cI cJ cZ cY a0 a0_a a0_image a0_texts a0_board a0_taken a0_fars a0_before a0_tape a0_pile a0_rows a0_told a0_values a0_truth a0_keeps v0_23) H := by rw [ev0_23]; exact hP
        have hD : va_D A (WS_X12_see_ cI cJ cZ cY a0 a0_a a0_image a0_texts a0_board a0_taken a0_fars a0_before a0_tape a0_pile a0_rows a0_told a0_values a0_truth a0_keeps v0_23) := by rw [ev0_23]; exact hD
        have hg := g_lte hg v0_23 ev0_23
        obtain ⟨x2_24, ex2_24⟩ : ∃ z : Int32, z = x2 + 1 := ⟨_, rfl⟩
        have hg := g_lte hg x2_24 ex2_24
        refine lv_iinc (v := x2_24) (lv' := [(2, .int x2_24), (0, .ref a0), (1, .int x1)]) hx hb dX12_see__55 hl (k := 2) rfl (by rw [ex2_24]; rfl) (by decide) rfl (fun ls hl => ?_)
        refine lv_goto (tgt := 26) hx hb dX12_see__58 (by decide) ?_
        exact ih x1 x2_24 v0_23 H locs ls hP hD hS (lv_sub hl [1, 2, 0] rfl) hg
  generalize hHe : s.heap = H at hP ⊢
  have hS : va_S A s.heap H [] := by rw [← hHe]; exact va_S.rf
  generalize ([] : List Loc) = locs at hS ⊢
  unfold f_X12_see_ at hg
  refine lv_bipush (v := 38) hx hb dX12_see__0 (by decide) ?_
  refine lv_aload_n hx hb dX12_see__2 rfl (lv_at hl 0 rfl) ?_
  refine va_get (ci := 11) (v := .int (pX12_now v0)) (C := RX12) (T := TX12) (N := 43) hx hb htb uX12 hown hK.1 hP 0 rfl rfl 39 (by decide) (htb _ tg_975) (fun _ h9 => h9) rfl dX12_see__3 ?_
  refine lv_imul hx hb dX12_see__6 ?_
  refine lv_topi (fun x1_25 ex1_25 => ?_)
  have hg := g_lte hg x1_25 ex1_25
  refine lv_istore_n (lv' := [(1, .int x1_25), (0, .ref a0)]) hx hb dX12_see__7 rfl hl (by decide) rfl (fun ls hl => ?_)
  refine lv_aload_n hx hb dX12_see__8 rfl (lv_at hl 1 rfl) ?_
  refine lv_aload_n hx hb dX12_see__9 rfl (lv_at hl 1 rfl) ?_
  refine va_get (ci := 11) (v := .int (pX12_atX v0)) (C := RX12) (T := TX12) (N := 43) hx hb htb uX12 hown hK.1 hP 0 rfl rfl 30 (by decide) (htb _ tg_966) (fun _ h9 => h9) rfl dX12_see__10 ?_
  refine lv_aload_n hx hb dX12_see__13 rfl (lv_at hl 1 rfl) ?_
  refine va_get (ci := 11) (v := .int (pX12_atY v0)) (C := RX12) (T := TX12) (N := 43) hx hb htb uX12 hown hK.1 hP 0 rfl rfl 31 (by decide) (htb _ tg_967) (fun _ h9 => h9) rfl dX12_see__14 ?_
  refine lv_aload_n hx hb dX12_see__17 rfl (lv_at hl 1 rfl) ?_
  refine va_get (ci := 11) (v := .int (pX12_now v0)) (C := RX12) (T := TX12) (N := 43) hx hb htb uX12 hown hK.1 hP 0 rfl rfl 39 (by decide) (htb _ tg_975) (fun _ h9 => h9) rfl dX12_see__18 ?_
  obtain ⟨r_26, hr_26, hg⟩ := g_bd hg
  refine cc_v (va_runV (C := RX12) (As := [.int (pX12_atX v0), .int (pX12_atY v0), .int (pX12_now v0)]) (rest := []) ⟨hx, hb, hml, hown, htb⟩ (k_X12_look a0 a0_a a0_image a0_texts a0_board a0_taken a0_fars a0_before a0_tape a0_pile a0_rows a0_told a0_values a0_truth a0_keeps v0 (pX12_atX v0) (pX12_atY v0) (pX12_now v0) r_26 hr_26) (cw_V 3 htb tg_1145 tg_13 tg_1142 tg_1144 ts_35 rfl rfl (by decide +kernel) ⟨Nat.le_of_ble_eq_true rfl, Nat.le_of_ble_eq_true rfl⟩) ⟨PC.blind, va_recv hK.1 hP (ci := 11) (q0 := 0) rfl rfl, PC.pre hK hT hP hD hS hA [0, 1, 2, 3, 4, 5, 6, 7, 8, 9, 10, 11, 12, 13, 14] rfl (by decide)⟩ rfl rfl hl.1 rfl (lv_room (Nat.le_of_ble_eq_true rfl)) dX12_see__21 ⟨Nat.le_of_ble_eq_true rfl, Nat.le_of_ble_eq_true rfl⟩) hP hD hS hA [0, 1, 2, 3, 4, 5, 6, 7, 8, 9, 10, 11, 12, 13, 14] [] rfl rfl (by decide) (by decide) (fun u9 H locs hw hP hD hS => ?_)
  have hw := hw.symm
  subst hw
  have hP : va_P D vwCl (WS_X12_see_ cI cJ cZ cY a0 a0_a a0_image a0_texts a0_board a0_taken a0_fars a0_before a0_tape a0_pile a0_rows a0_told a0_values a0_truth a0_keeps r_26) H := hP.sub [0, 1, 2, 3, 4, 5, 6, 7, 8, 9, 10, 11, 12, 13, 14] rfl
  have hD : va_D A (WS_X12_see_ cI cJ cZ cY a0 a0_a a0_image a0_texts a0_board a0_taken a0_fars a0_before a0_tape a0_pile a0_rows a0_told a0_values a0_truth a0_keeps r_26) := hD.sub [0, 1, 2, 3, 4, 5, 6, 7, 8, 9, 10, 11, 12, 13, 14] (by decide) rfl
  refine lv_iconst (v := 0) hx hb dX12_see__24 (by decide) ?_
  refine lv_istore_n (lv' := [(2, .int 0), (1, .int x1_25), (0, .ref a0)]) hx hb dX12_see__25 rfl hl (by decide) rfl (fun ls hl => ?_)
  exact b_26 fU x1_25 0 r_26 H locs ls hP hD hS (lv_sub hl [2, 1, 0] rfl) hg

/-! ManyEyesModel.isStart(II)Z -/
def WS_X12_isStart (cI cJ cZ cY : ClassId) (a0 a0_a a0_image a0_texts a0_board a0_taken a0_fars a0_before a0_tape a0_pile a0_rows a0_told a0_values a0_truth a0_keeps : Nat) (v0 : BX12) : va_W := (GX12 cI cJ cZ cY a0 a0_a a0_image a0_texts a0_board a0_taken a0_fars a0_before a0_tape a0_pile a0_rows a0_told a0_values a0_truth a0_keeps v0)
def f_X12_isStart (v0 : BX12) (p0 : Int32) (p1 : Int32) : Option (Int32) := (f_X12_isPlace v0 p0 p1).bind (fun r_1 => if (r_1 : Int32) = 0 then (some 0) else ((f_X12_markAt v0 (((p1 / 16) * (pX12_w v0)) + (p0 / 16)) 0).bind (fun r_5 => if (r_5 : Int32) = 0 then (some 1) else (some 0))))
abbrev rm_X12_isStart : Room := { frames := 3, cells := 0, slots := 0, locals := 69 }
set_option maxHeartbeats 4000000 in
set_option maxRecDepth 100000 in
theorem k_X12_isStart {l : Launch} {D : va_G} {cI cJ cZ cY : ClassId} {tX tY : Nat} {sz : Nat} (a0 a0_a a0_image a0_texts a0_board a0_taken a0_fars a0_before a0_tape a0_pile a0_rows a0_told a0_values a0_truth a0_keeps : Nat) (v0 : BX12) (p0 : Int32) (p1 : Int32) (res : Int32) (hg : f_X12_isStart v0 p0 p1 = some res) : Met l yX12_isStart (Cond.code yX12_isStart cX12_isStart 3 (some .boolean) :: TB) rm_X12_isStart (PC D cI cJ cZ cY tX tY [.ref a0, .int p0, .int p1] (WS_X12_isStart cI cJ cZ cY a0 a0_a a0_image a0_texts a0_board a0_taken a0_fars a0_before a0_tape a0_pile a0_rows a0_told a0_values a0_truth a0_keeps v0) sz) (va_Qi (fun (r : Int32) (_ : Unit) => r = res) (BC D (fun _ : Unit => WS_X12_isStart cI cJ cZ cY a0 a0_a a0_image a0_texts a0_board a0_taken a0_fars a0_before a0_tape a0_pile a0_rows a0_told a0_values a0_truth a0_keeps v0) (va_A (WS_X12_isStart cI cJ cZ cY a0 a0_a a0_image a0_texts a0_board a0_taken a0_fars a0_before a0_tape a0_pile a0_rows a0_told a0_values a0_truth a0_keeps v0) sz)) (va_A (WS_X12_isStart cI cJ cZ cY a0 a0_a a0_image a0_texts a0_board a0_taken a0_fars a0_before a0_tape a0_pile a0_rows a0_told a0_values a0_truth a0_keeps v0) sz)) 0 0 (va_A (WS_X12_isStart cI cJ cZ cY a0 a0_a a0_image a0_texts a0_board a0_taken a0_fars a0_before a0_tape a0_pile a0_rows a0_told a0_values a0_truth a0_keeps v0) sz) := by
  refine Met.ofW (cc := cX12_isStart) (maxL := 3) (ret := (some .boolean)) (by decide) rfl ?_
  intro p e s m args below meth c s₁ B hml hv
  obtain ⟨hargs, hsz, hP, hK, hD0, hT⟩ := hv
  have hx := B.exec
  have hb := B.bytes
  have hr := B.returns
  have htb : ∀ w ∈ TB, w.before args s = true := fun w h => atoms_spec (ws := Cond.code yX12_isStart cX12_isStart 3 (some .boolean) :: TB) B.pre w (List.mem_cons_of_mem _ h)
  have hown : s.vm.findClass "ManyEyesModel" = some m.cls := findClass_of_methodNamed B.named
  have hlocks := B.notSynchronized
  subst hsz
  have hD := hD0.self (sz := s.heap.size)
  generalize hAe : va_A (WS_X12_isStart cI cJ cZ cY a0 a0_a a0_image a0_texts a0_board a0_taken a0_fars a0_before a0_tape a0_pile a0_rows a0_told a0_values a0_truth a0_keeps v0) s.heap.size = A at hD hT ⊢
  have hA : ∀ q : Nat, s.heap.size ≤ q → A q := fun q h => by rw [← hAe]; exact Or.inr h
  have hS : va_S A s.heap s.heap [] := va_S.rf
  have hl := lv_entry ([.ref a0, .int p0, .int p1]) (n := 3) (Nat.le_of_ble_eq_true rfl)
  have he : entryFrame m args 3 = F0 m 0 (lg_sl ([.ref a0, .int p0, .int p1]) ++ List.replicate (3 - (lg_sl ([.ref a0, .int p0, .int p1])).length) Slot.unset).toArray [] := by rw [hargs, lg_entry_eq]
  rw [he]
  generalize (lg_sl ([.ref a0, .int p0, .int p1]) ++ List.replicate (3 - (lg_sl ([.ref a0, .int p0, .int p1])).length) Slot.unset).toArray = ls at hl ⊢
  have hl : lv_has ls 3 [(0, .ref a0), (1, .int p0), (2, .int p1)] := hl
  show W p l e rm_X12_isStart s m args below meth c s.heap [] 0 0 _ _
  refine W.genQ (fun Q hQ => ?_)
  generalize hHe : s.heap = H at hP ⊢
  have hS : va_S A s.heap H [] := by rw [← hHe]; exact va_S.rf
  generalize ([] : List Loc) = locs at hS ⊢
  unfold f_X12_isStart at hg
  refine lv_aload_n hx hb dX12_isStart_0 rfl (lv_at hl 0 rfl) ?_
  refine lv_iload_n hx hb dX12_isStart_1 rfl (lv_at hl 1 rfl) ?_
  refine lv_iload_n hx hb dX12_isStart_2 rfl (lv_at hl 2 rfl) ?_
  obtain ⟨r_1, hr_1, hg⟩ := g_bd hg
  refine cc_i (va_runV (C := RX12) (As := [.int p0, .int p1]) (rest := []) ⟨hx, hb, hml, hown, htb⟩ (k_X12_isPlace a0 a0_a a0_image a0_texts a0_board a0_taken a0_fars a0_before a0_tape a0_pile a0_rows a0_told a0_values a0_truth a0_keeps v0 p0 p1 r_1 hr_1) (cw_V 2 htb tg_1105 tg_13 tg_1102 tg_1104 ts_31 rfl rfl (by decide +kernel) ⟨Nat.le_of_ble_eq_true rfl, Nat.le_of_ble_eq_true rfl⟩) ⟨PC.blind, va_recv hK.1 hP (ci := 11) (q0 := 0) rfl rfl, PC.pre hK hT hP hD hS hA [0, 1, 2, 3, 4, 5, 6, 7, 8, 9, 10, 11, 12, 13, 14] rfl (by decide)⟩ rfl rfl hl.1 rfl (lv_room (Nat.le_of_ble_eq_true rfl)) dX12_isStart_3 ⟨Nat.le_of_ble_eq_true rfl, Nat.le_of_ble_eq_true rfl⟩) hP hD hS hA [0, 1, 2, 3, 4, 5, 6, 7, 8, 9, 10, 11, 12, 13, 14] [] rfl rfl (by decide) (by decide) (fun r9 u9 H locs hw hP hD hS => ?_)
  have hw := hw.symm
  subst hw
  have hP : va_P D vwCl (WS_X12_isStart cI cJ cZ cY a0 a0_a a0_image a0_texts a0_board a0_taken a0_fars a0_before a0_tape a0_pile a0_rows a0_told a0_values a0_truth a0_keeps v0) H := hP.sub [0, 1, 2, 3, 4, 5, 6, 7, 8, 9, 10, 11, 12, 13, 14] rfl
  have hD : va_D A (WS_X12_isStart cI cJ cZ cY a0 a0_a a0_image a0_texts a0_board a0_taken a0_fars a0_before a0_tape a0_pile a0_rows a0_told a0_values a0_truth a0_keeps v0) := hD.sub [0, 1, 2, 3, 4, 5, 6, 7, 8, 9, 10, 11, 12, 13, 14] (by decide) rfl
  refine lv_if_eq (tgt := 35) hx hb dX12_isStart_6 (by decide) (fun c_2 => ?_) (fun c_2 => ?_)
  · have hg := g_it hg c_2
    refine lv_iconst (v := 0) hx hb dX12_isStart_35 (by decide) ?_
    have hg := Option.some.inj hg
    rw [hQ]
    exact W.zret (v := 0) (ty := .boolean) hx hb hr rfl (fun t ht hW => ⟨⟨0, (), rfl, hg, by rw [ht]; exact hP, hD⟩, hS.F ht⟩) hS.2.2 dX12_isStart_36
  · have hg := g_if hg c_2
    refine lv_aload_n hx hb dX12_isStart_9 rfl (lv_at hl 0 rfl) ?_
    refine lv_iload_n hx hb dX12_isStart_10 rfl (lv_at hl 2 rfl) ?_
    refine lv_bipush (v := 16) hx hb dX12_isStart_11 (by decide) ?_
    refine lv_idiv hx hb dX12_isStart_13 (by decide) ?_
    refine lv_aload_n hx hb dX12_isStart_14 rfl (lv_at hl 0 rfl) ?_
    refine va_get (ci := 11) (v := .int (pX12_w v0)) (C := RX12) (T := TX12) (N := 43) hx hb htb uX12 hown hK.1 hP 0 rfl rfl 0 (by decide) (htb _ tg_936) (fun _ h9 => h9) rfl dX12_isStart_15 ?_
    refine lv_imul hx hb dX12_isStart_18 ?_
    refine lv_iload_n hx hb dX12_isStart_19 rfl (lv_at hl 1 rfl) ?_
    refine lv_bipush (v := 16) hx hb dX12_isStart_20 (by decide) ?_
    refine lv_idiv hx hb dX12_isStart_22 (by decide) ?_
    refine lv_iadd hx hb dX12_isStart_23 ?_
    refine lv_iconst (v := 0) hx hb dX12_isStart_24 (by decide) ?_
    obtain ⟨r_5, hr_5, hg⟩ := g_bd hg
    refine cc_i (va_runV (C := RX12) (As := [.int (((p1 / 16) * (pX12_w v0)) + (p0 / 16)), .int 0]) (rest := []) ⟨hx, hb, hml, hown, htb⟩ (k_X12_markAt a0 a0_a a0_image a0_texts a0_board a0_taken a0_fars a0_before a0_tape a0_pile a0_rows a0_told a0_values a0_truth a0_keeps v0 (((p1 / 16) * (pX12_w v0)) + (p0 / 16)) 0 r_5 hr_5) (cw_V 2 htb tg_1093 tg_13 tg_1090 tg_1092 ts_29 rfl rfl (by decide +kernel) ⟨Nat.le_of_ble_eq_true rfl, Nat.le_of_ble_eq_true rfl⟩) ⟨PC.blind, va_recv hK.1 hP (ci := 11) (q0 := 0) rfl rfl, PC.pre hK hT hP hD hS hA [0, 1, 2, 3, 4, 5, 6, 7, 8, 9, 10, 11, 12, 13, 14] rfl (by decide)⟩ rfl rfl hl.1 rfl (lv_room (Nat.le_of_ble_eq_true rfl)) dX12_isStart_25 ⟨Nat.le_of_ble_eq_true rfl, Nat.le_of_ble_eq_true rfl⟩) hP hD hS hA [0, 1, 2, 3, 4, 5, 6, 7, 8, 9, 10, 11, 12, 13, 14] [] rfl rfl (by decide) (by decide) (fun r9 u9 H locs hw hP hD hS => ?_)
    have hw := hw.symm
    subst hw
    have hP : va_P D vwCl (WS_X12_isStart cI cJ cZ cY a0 a0_a a0_image a0_texts a0_board a0_taken a0_fars a0_before a0_tape a0_pile a0_rows a0_told a0_values a0_truth a0_keeps v0) H := hP.sub [0, 1, 2, 3, 4, 5, 6, 7, 8, 9, 10, 11, 12, 13, 14] rfl
    have hD : va_D A (WS_X12_isStart cI cJ cZ cY a0 a0_a a0_image a0_texts a0_board a0_taken a0_fars a0_before a0_tape a0_pile a0_rows a0_told a0_values a0_truth a0_keeps v0) := hD.sub [0, 1, 2, 3, 4, 5, 6, 7, 8, 9, 10, 11, 12, 13, 14] (by decide) rfl
    refine lv_if_ne (tgt := 35) hx hb dX12_isStart_28 (by decide) (fun c_6 => ?_) (fun c_6 => ?_)
    · have hg := g_if hg c_6
      refine lv_iconst (v := 0) hx hb dX12_isStart_35 (by decide) ?_
      have hg := Option.some.inj hg
      rw [hQ]
      exact W.zret (v := 0) (ty := .boolean) hx hb hr rfl (fun t ht hW => ⟨⟨0, (), rfl, hg, by rw [ht]; exact hP, hD⟩, hS.F ht⟩) hS.2.2 dX12_isStart_36
    · have hg := g_it hg c_6
      refine lv_iconst (v := 1) hx hb dX12_isStart_31 (by decide) ?_
      refine lv_goto (tgt := 36) hx hb dX12_isStart_32 (by decide) ?_
      have hg := Option.some.inj hg
      rw [hQ]
      exact W.zret (v := 1) (ty := .boolean) hx hb hr rfl (fun t ht hW => ⟨⟨1, (), rfl, hg, by rw [ht]; exact hP, hD⟩, hS.F ht⟩) hS.2.2 dX12_isStart_36
