/-! ManyEyesModel.same(IIIIII)I -/
def WS_X12_same (cI cJ cZ cY : ClassId) (a0 a0_a a0_image a0_texts a0_board a0_taken a0_fars a0_before a0_tape a0_pile a0_rows a0_told a0_values a0_truth a0_keeps : Nat) (v0 : BX12) : va_W := (GX12 cI cJ cZ cY a0 a0_a a0_image a0_texts a0_board a0_taken a0_fars a0_before a0_tape a0_pile a0_rows a0_told a0_values a0_truth a0_keeps v0)
def f_X12_same_b247 (J208 : (Int32 × Int32 × Int32 × Int32 × Int32 × BX12) → Option (Int32 × BX12)) (x1 : Int32) (x6 : Int32) (x7 : Int32) (x11 : Int32) (t0 : Int32) (v0 : BX12) : Option (Int32 × BX12) := g_lt (x11 + 1 : Int32) (fun x11_1 => J208 (x1, x6, x7, t0, x11_1, v0))
def f_X12_same_b246 (J208 : (Int32 × Int32 × Int32 × Int32 × Int32 × BX12) → Option (Int32 × BX12)) (x1 : Int32) (x6 : Int32) (x7 : Int32) (x11 : Int32) (v0 : BX12) : Option (Int32 × BX12) := f_X12_same_b247 J208 x1 x6 x7 x11 0 v0
def f_X12_same_b208B (J208 : Int32 × Int32 × Int32 × Int32 × Int32 × BX12 → Option (Int32 × BX12)) (x1 : Int32) (x6 : Int32) (x7 : Int32) (x10 : Int32) (x11 : Int32) (v0 : BX12) : Option (Int32 × BX12) := g_gd (inB 1 3170) (if (((pX12_a v0) (1 : Int32).toNatClampNeg) : Int32) ≤ x11 then (g_gd (inB ((590 : Int32) + ((4 : Int32) * x1)) 3170) (g_lt (sX12_a v0 (upd (pX12_a v0) (((590 : Int32) + ((4 : Int32) * x1)) : Int32).toNatClampNeg x7)) (fun v0_5 => if (x10 : Int32) = 0 then (some (0, v0_5)) else (some (1, v0_5))))) else (if (x10 : Int32) = 0 then (f_X12_same_b246 J208 x1 x6 x7 x11 v0) else ((f_X12_lensTake v0 x11 x6).bind (fun r_8 => g_gd (inB x11 16) (if (r_8 : Int32) = ((pX12_before v0) (x11 : Int32).toNatClampNeg) then (f_X12_same_b247 J208 x1 x6 x7 x11 1 v0) else (f_X12_same_b246 J208 x1 x6 x7 x11 v0))))))
def f_X12_same_b208 : Nat → (Int32 × Int32 × Int32 × Int32 × Int32 × BX12) → Option (Int32 × BX12) := g_lp (fun J z => f_X12_same_b208B J z.1 z.2.1 z.2.2.1 z.2.2.2.1 z.2.2.2.2.1 z.2.2.2.2.2)
def f_X12_same_b139B (J139 : Int32 × Int32 × Int32 × Int32 × Int32 × Int32 × Int32 × Int32 × BX12 → Option (Int32 × BX12)) (x1 : Int32) (x4 : Int32) (x5 : Int32) (x6 : Int32) (x7 : Int32) (x8 : Int32) (x9 : Int32) (x10 : Int32) (v0 : BX12) : Option (Int32 × BX12) := g_gd (inB 1 3170) (if (((pX12_a v0) (1 : Int32).toNatClampNeg) : Int32) ≤ x10 then (g_lt (((x9 * (pX12_w v0)) + x8) : Int32) (fun x_13 => g_gd (inB ((590 : Int32) + ((4 : Int32) * x1)) 3170) (g_lt (sX12_a v0 (upd (pX12_a v0) (((590 : Int32) + ((4 : Int32) * x1)) : Int32).toNatClampNeg x_13)) (fun v0_15 => (f_X12_look v0_15 x4 x5 0).bind (fun r_16 => f_X12_same_b208 fU (x1, x6, x7, 1, 0, r_16)))))) else ((f_X12_lensTake v0 x10 x6).bind (fun r_17 => g_gd (inB x10 16) (g_lt (sX12_before v0 (upd (pX12_before v0) (x10 : Int32).toNatClampNeg r_17)) (fun v0_19 => g_lt (x10 + 1 : Int32) (fun x10_20 => J139 (x1, x4, x5, x6, x7, x8, x9, x10_20, v0_19)))))))
def f_X12_same_b139 : Nat → (Int32 × Int32 × Int32 × Int32 × Int32 × Int32 × Int32 × Int32 × BX12) → Option (Int32 × BX12) := g_lp (fun J z => f_X12_same_b139B J z.1 z.2.1 z.2.2.1 z.2.2.2.1 z.2.2.2.2.1 z.2.2.2.2.2.1 z.2.2.2.2.2.2.1 z.2.2.2.2.2.2.2.1 z.2.2.2.2.2.2.2.2)
def f_X12_same (v0 : BX12) (p0 : Int32) (p1 : Int32) (p2 : Int32) (p3 : Int32) (p4 : Int32) (p5 : Int32) : Option (Int32 × BX12) := g_gd (inB 0 3170) ((f_X12_isIn p0 0 (((pX12_a v0) (0 : Int32).toNatClampNeg) - 1)).bind (fun r_22 => if (r_22 : Int32) = 0 then (some ((-1), v0)) else ((f_X12_isPlace v0 p3 p4).bind (fun r_24 => if (r_24 : Int32) = 0 then (some ((-1), v0)) else ((f_X12_isSide p5).bind (fun r_26 => if (r_26 : Int32) = 0 then (some ((-1), v0)) else ((f_X12_isIn p1 (-23) 23).bind (fun r_28 => if (r_28 : Int32) = 0 then (some ((-1), v0)) else ((f_X12_isIn p2 (-23) 23).bind (fun r_30 => if (r_30 : Int32) = 0 then (some ((-1), v0)) else (g_gd (inB ((590 : Int32) + ((4 : Int32) * p0)) 3170) (g_lt (((pX12_a v0) (((590 : Int32) + ((4 : Int32) * p0)) : Int32).toNatClampNeg) : Int32) (fun x7_33 => g_gd (¬ ((pX12_w v0) : Int32) = 0) (g_lt (((x7_33 - x7_33 / (pX12_w v0) * (pX12_w v0)) + p1) : Int32) (fun x8_35 => g_gd (¬ ((pX12_w v0) : Int32) = 0) (g_lt (((x7_33 / (pX12_w v0)) + p2) : Int32) (fun x9_37 => (f_X12_isIn x8_35 0 ((pX12_w v0) - 1)).bind (fun r_38 => if (r_38 : Int32) = 0 then (some ((-1), v0)) else ((f_X12_isIn x9_37 0 ((pX12_h v0) - 1)).bind (fun r_40 => if (r_40 : Int32) = 0 then (some ((-1), v0)) else ((f_X12_look v0 p3 p4 0).bind (fun r_42 => f_X12_same_b139 fU (p0, p3, p4, p5, x7_33, x8_35, x9_37, 0, r_42)))))))))))))))))))))))
abbrev rm_X12_same : Room := { frames := 4, cells := 0, slots := 0, locals := 92 }
set_option maxHeartbeats 4000000 in
set_option maxRecDepth 100000 in
theorem k_X12_same {l : Launch} {D : va_G} {cI cJ cZ cY : ClassId} {tX tY : Nat} {sz : Nat} (a0 a0_a a0_image a0_texts a0_board a0_taken a0_fars a0_before a0_tape a0_pile a0_rows a0_told a0_values a0_truth a0_keeps : Nat) (v0 : BX12) (p0 : Int32) (p1 : Int32) (p2 : Int32) (p3 : Int32) (p4 : Int32) (p5 : Int32) (res : Int32 × BX12) (hg : f_X12_same v0 p0 p1 p2 p3 p4 p5 = some res) : Met l yX12_same (Cond.code yX12_same cX12_same 12 (some .int) :: TB) rm_X12_same (PC D cI cJ cZ cY tX tY [.ref a0, .int p0, .int p1, .int p2, .int p3, .int p4, .int p5] (WS_X12_same cI cJ cZ cY a0 a0_a a0_image a0_texts a0_board a0_taken a0_fars a0_before a0_tape a0_pile a0_rows a0_told a0_values a0_truth a0_keeps v0) sz) (va_Qi (fun (r : Int32) (u : BX12) => r = res.1 ∧ u = res.2) (BC D (fun u : BX12 => WS_X12_same cI cJ cZ cY a0 a0_a a0_image a0_texts a0_board a0_taken a0_fars a0_before a0_tape a0_pile a0_rows a0_told a0_values a0_truth a0_keeps u) (va_A (WS_X12_same cI cJ cZ cY a0 a0_a a0_image a0_texts a0_board a0_taken a0_fars a0_before a0_tape a0_pile a0_rows a0_told a0_values a0_truth a0_keeps v0) sz)) (va_A (WS_X12_same cI cJ cZ cY a0 a0_a a0_image a0_texts a0_board a0_taken a0_fars a0_before a0_tape a0_pile a0_rows a0_told a0_values a0_truth a0_keeps v0) sz)) 0 0 (va_A (WS_X12_same cI cJ cZ cY a0 a0_a a0_image a0_texts a0_board a0_taken a0_fars a0_before a0_tape a0_pile a0_rows a0_told a0_values a0_truth a0_keeps v0) sz) := by
  refine Met.ofW (cc := cX12_same) (maxL := 12) (ret := (some .int)) (by decide) rfl ?_
  intro p e s m args below meth c s₁ B hml hv
  obtain ⟨hargs, hsz, hP, hK, hD0, hT⟩ := hv
  have hx := B.exec
  have hb := B.bytes
  have hr := B.returns
  have htb : ∀ w ∈ TB, w.before args s = true := fun w h => atoms_spec (ws := Cond.code yX12_same cX12_same 12 (some .int) :: TB) B.pre w (List.mem_cons_of_mem _ h)
  have hown : s.vm.findClass "ManyEyesModel" = some m.cls := findClass_of_methodNamed B.named
  have hlocks := B.notSynchronized
  subst hsz
  have hD := hD0.self (sz := s.heap.size)
  generalize hAe : va_A (WS_X12_same cI cJ cZ cY a0 a0_a a0_image a0_texts a0_board a0_taken a0_fars a0_before a0_tape a0_pile a0_rows a0_told a0_values a0_truth a0_keeps v0) s.heap.size = A at hD hT ⊢
  have hA : ∀ q : Nat, s.heap.size ≤ q → A q := fun q h => by rw [← hAe]; exact Or.inr h
  have hS : va_S A s.heap s.heap [] := va_S.rf
  have hl := lv_entry ([.ref a0, .int p0, .int p1, .int p2, .int p3, .int p4, .int p5]) (n := 12) (Nat.le_of_ble_eq_true rfl)
  have he : entryFrame m args 12 = F0 m 0 (lg_sl ([.ref a0, .int p0, .int p1, .int p2, .int p3, .int p4, .int p5]) ++ List.replicate (12 - (lg_sl ([.ref a0, .int p0, .int p1, .int p2, .int p3, .int p4, .int p5])).length) Slot.unset).toArray [] := by rw [hargs, lg_entry_eq]
  rw [he]
  generalize (lg_sl ([.ref a0, .int p0, .int p1, .int p2, .int p3, .int p4, .int p5]) ++ List.replicate (12 - (lg_sl ([.ref a0, .int p0, .int p1, .int p2, .int p3, .int p4, .int p5])).length) Slot.unset).toArray = ls at hl ⊢
  have hl : lv_has ls 12 [(0, .ref a0), (1, .int p0), (2, .int p1), (3, .int p2), (4, .int p3), (5, .int p4), (6, .int p5)] := hl
  show W p l e rm_X12_same s m args below meth c s.heap [] 0 0 _ _
  refine W.genQ (fun Q hQ => ?_)
  have b_247 : ∀ (J208 : (Int32 × Int32 × Int32 × Int32 × Int32 × BX12) → Option (Int32 × BX12)) (hJ208 : ∀ (x1 : Int32) (x6 : Int32) (x7 : Int32) (x10 : Int32) (x11 : Int32) (v0 : BX12) (H : Heap) (locs : List Loc) (ls : Array Slot), va_P D vwCl (WS_X12_same cI cJ cZ cY a0 a0_a a0_image a0_texts a0_board a0_taken a0_fars a0_before a0_tape a0_pile a0_rows a0_told a0_values a0_truth a0_keeps v0) H → va_D A (WS_X12_same cI cJ cZ cY a0 a0_a a0_image a0_texts a0_board a0_taken a0_fars a0_before a0_tape a0_pile a0_rows a0_told a0_values a0_truth a0_keeps v0) → va_S A s.heap H locs → lv_has ls 12 [(0, .ref a0), (1, .int x1), (6, .int x6), (7, .int x7), (10, .int x10), (11, .int x11)] → J208 (x1, x6, x7, x10, x11, v0) = some res → W p l e rm_X12_same s m args below meth c H locs 0 0 Q (F0 m 208 ls [])), ∀ (x1 : Int32) (x6 : Int32) (x7 : Int32) (x11 : Int32) (t0 : Int32) (v0 : BX12) (H : Heap) (locs : List Loc) (ls : Array Slot), va_P D vwCl (WS_X12_same cI cJ cZ cY a0 a0_a a0_image a0_texts a0_board a0_taken a0_fars a0_before a0_tape a0_pile a0_rows a0_told a0_values a0_truth a0_keeps v0) H → va_D A (WS_X12_same cI cJ cZ cY a0 a0_a a0_image a0_texts a0_board a0_taken a0_fars a0_before a0_tape a0_pile a0_rows a0_told a0_values a0_truth a0_keeps v0) → va_S A s.heap H locs → lv_has ls 12 [(0, .ref a0), (1, .int x1), (6, .int x6), (7, .int x7), (11, .int x11)] → f_X12_same_b247 J208 x1 x6 x7 x11 t0 v0 = some res → W p l e rm_X12_same s m args below meth c H locs 0 0 Q (F0 m 247 ls [.int t0]) := by
    intro J208 hJ208 x1 x6 x7 x11 t0 v0 H locs ls hP hD hS hl hg
    unfold f_X12_same_b247 at hg
    refine lv_istore (lv' := [(10, .int t0), (0, .ref a0), (1, .int x1), (6, .int x6), (7, .int x7), (11, .int x11)]) hx hb dX12_same_247 hl (by decide) rfl (fun ls hl => ?_)
    obtain ⟨x11_1, ex11_1⟩ : ∃ z : Int32, z = x11 + 1 := ⟨_, rfl⟩
    have hg := g_lte hg x11_1 ex11_1
    refine lv_iinc (v := x11_1) (lv' := [(11, .int x11_1), (10, .int t0), (0, .ref a0), (1, .int x1), (6, .int x6), (7, .int x7)]) hx hb dX12_same_249 hl (k := 5) rfl (by rw [ex11_1]; rfl) (by decide) rfl (fun ls hl => ?_)
    refine lv_goto (tgt := 208) hx hb dX12_same_252 (by decide) ?_
    exact hJ208 x1 x6 x7 t0 x11_1 v0 H locs ls hP hD hS (lv_sub hl [2, 3, 4, 5, 1, 0] rfl) hg
  have b_246 : ∀ (J208 : (Int32 × Int32 × Int32 × Int32 × Int32 × BX12) → Option (Int32 × BX12)) (hJ208 : ∀ (x1 : Int32) (x6 : Int32) (x7 : Int32) (x10 : Int32) (x11 : Int32) (v0 : BX12) (H : Heap) (locs : List Loc) (ls : Array Slot), va_P D vwCl (WS_X12_same cI cJ cZ cY a0 a0_a a0_image a0_texts a0_board a0_taken a0_fars a0_before a0_tape a0_pile a0_rows a0_told a0_values a0_truth a0_keeps v0) H → va_D A (WS_X12_same cI cJ cZ cY a0 a0_a a0_image a0_texts a0_board a0_taken a0_fars a0_before a0_tape a0_pile a0_rows a0_told a0_values a0_truth a0_keeps v0) → va_S A s.heap H locs → lv_has ls 12 [(0, .ref a0), (1, .int x1), (6, .int x6), (7, .int x7), (10, .int x10), (11, .int x11)] → J208 (x1, x6, x7, x10, x11, v0) = some res → W p l e rm_X12_same s m args below meth c H locs 0 0 Q (F0 m 208 ls [])), ∀ (x1 : Int32) (x6 : Int32) (x7 : Int32) (x11 : Int32) (v0 : BX12) (H : Heap) (locs : List Loc) (ls : Array Slot), va_P D vwCl (WS_X12_same cI cJ cZ cY a0 a0_a a0_image a0_texts a0_board a0_taken a0_fars a0_before a0_tape a0_pile a0_rows a0_told a0_values a0_truth a0_keeps v0) H → va_D A (WS_X12_same cI cJ cZ cY a0 a0_a a0_image a0_texts a0_board a0_taken a0_fars a0_before a0_tape a0_pile a0_rows a0_told a0_values a0_truth a0_keeps v0) → va_S A s.heap H locs → lv_has ls 12 [(0, .ref a0), (1, .int x1), (6, .int x6), (7, .int x7), (11, .int x11)] → f_X12_same_b246 J208 x1 x6 x7 x11 v0 = some res → W p l e rm_X12_same s m args below meth c H locs 0 0 Q (F0 m 246 ls []) := by
    intro J208 hJ208 x1 x6 x7 x11 v0 H locs ls hP hD hS hl hg
    unfold f_X12_same_b246 at hg
    refine lv_iconst (v := 0) hx hb dX12_same_246 (by decide) ?_
    exact b_247 J208 hJ208 x1 x6 x7 x11 0 v0 H locs ls hP hD hS (lv_sub hl [0, 1, 2, 3, 4] rfl) hg
  have b_208 : ∀ (n : Nat), ∀ (x1 : Int32) (x6 : Int32) (x7 : Int32) (x10 : Int32) (x11 : Int32) (v0 : BX12) (H : Heap) (locs : List Loc) (ls : Array Slot), va_P D vwCl (WS_X12_same cI cJ cZ cY a0 a0_a a0_image a0_texts a0_board a0_taken a0_fars a0_before a0_tape a0_pile a0_rows a0_told a0_values a0_truth a0_keeps v0) H → va_D A (WS_X12_same cI cJ cZ cY a0 a0_a a0_image a0_texts a0_board a0_taken a0_fars a0_before a0_tape a0_pile a0_rows a0_told a0_values a0_truth a0_keeps v0) → va_S A s.heap H locs → lv_has ls 12 [(0, .ref a0), (1, .int x1), (6, .int x6), (7, .int x7), (10, .int x10), (11, .int x11)] → f_X12_same_b208 n (x1, x6, x7, x10, x11, v0) = some res → W p l e rm_X12_same s m args below meth c H locs 0 0 Q (F0 m 208 ls []) := by
    intro n
    induction n with
    | zero =>
      intro x1 x6 x7 x10 x11 v0 H locs ls hP hD hS hl hg
      exact (g_lp0 hg).elim
    | succ n ih =>
      intro x1 x6 x7 x10 x11 v0 H locs ls hP hD hS hl hg
      have hg : f_X12_same_b208B (f_X12_same_b208 n) x1 x6 x7 x10 x11 v0 = some res := hg
      unfold f_X12_same_b208B at hg
      refine lv_iload hx hb dX12_same_208 (lv_at hl 5 rfl) ?_
      refine lv_aload_n hx hb dX12_same_210 rfl (lv_at hl 0 rfl) ?_
      refine va_get (ci := 11) (v := .ref a0_a) (C := RX12) (T := TX12) (N := 43) hx hb htb uX12 hown hK.1 hP 0 rfl rfl 2 (by decide) (htb _ tg_938) (fun _ h9 => h9) rfl dX12_same_211 ?_
      refine lv_iconst (v := 1) hx hb dX12_same_214 (by decide) ?_
      obtain ⟨h_2, hg⟩ := g_gde hg
      refine va_iald hx hb hK.1 hP 1 0 rfl rfl (inB_vp h_2) dX12_same_215 ?_
      refine lv_icmp_ge (tgt := 255) hx hb dX12_same_216 (by decide) (fun c_3 => ?_) (fun c_3 => ?_)
      · have hg := g_it hg c_3
        refine lv_aload_n hx hb dX12_same_255 rfl (lv_at hl 0 rfl) ?_
        refine va_get (ci := 11) (v := .ref a0_a) (C := RX12) (T := TX12) (N := 43) hx hb htb uX12 hown hK.1 hP 0 rfl rfl 2 (by decide) (htb _ tg_938) (fun _ h9 => h9) rfl dX12_same_256 ?_
        refine lv_sipush (v := 590) hx hb dX12_same_259 (by decide) ?_
        refine lv_iconst (v := 4) hx hb dX12_same_262 (by decide) ?_
        refine lv_iload_n hx hb dX12_same_263 rfl (lv_at hl 1 rfl) ?_
        refine lv_imul hx hb dX12_same_264 ?_
        refine lv_iadd hx hb dX12_same_265 ?_
        refine lv_iload hx hb dX12_same_266 (lv_at hl 3 rfl) ?_
        obtain ⟨h_4, hg⟩ := g_gde hg
        refine va_iast hx hb hK.1 hP hD hS 1 0 rfl rfl (inB_vp h_4) dX12_same_268 (fun H locs hP hD hS => ?_)
        obtain ⟨v0_5, ev0_5⟩ : ∃ z, z = sX12_a v0 (upd (pX12_a v0) (((590 : Int32) + ((4 : Int32) * x1)) : Int32).toNatClampNeg x7) := ⟨_, rfl⟩
        have hP : va_P D vwCl (WS_X12_same cI cJ cZ cY a0 a0_a a0_image a0_texts a0_board a0_taken a0_fars a0_before a0_tape a0_pile a0_rows a0_told a0_values a0_truth a0_keeps v0_5) H := by rw [ev0_5]; exact hP
        have hD : va_D A (WS_X12_same cI cJ cZ cY a0 a0_a a0_image a0_texts a0_board a0_taken a0_fars a0_before a0_tape a0_pile a0_rows a0_told a0_values a0_truth a0_keeps v0_5) := by rw [ev0_5]; exact hD
        have hg := g_lte hg v0_5 ev0_5
        refine lv_iload hx hb dX12_same_269 (lv_at hl 4 rfl) ?_
        refine lv_if_eq (tgt := 278) hx hb dX12_same_271 (by decide) (fun c_6 => ?_) (fun c_6 => ?_)
        · have hg := g_it hg c_6
          refine lv_iconst (v := 0) hx hb dX12_same_278 (by decide) ?_
          have hg := Option.some.inj hg
          rw [hQ]
          exact W.iret (v := 0) hx hb hr (fun t ht hW => ⟨⟨0, (v0_5), rfl, ⟨by rw [← hg], by rw [← hg]⟩, by rw [ht]; exact hP, hD⟩, hS.F ht⟩) hS.2.2 dX12_same_279
        · have hg := g_if hg c_6
          refine lv_iconst (v := 1) hx hb dX12_same_274 (by decide) ?_
          refine lv_goto (tgt := 279) hx hb dX12_same_275 (by decide) ?_
          have hg := Option.some.inj hg
          rw [hQ]
          exact W.iret (v := 1) hx hb hr (fun t ht hW => ⟨⟨1, (v0_5), rfl, ⟨by rw [← hg], by rw [← hg]⟩, by rw [ht]; exact hP, hD⟩, hS.F ht⟩) hS.2.2 dX12_same_279
      · have hg := g_if hg c_3
        refine lv_iload hx hb dX12_same_219 (lv_at hl 4 rfl) ?_
        refine lv_if_eq (tgt := 246) hx hb dX12_same_221 (by decide) (fun c_7 => ?_) (fun c_7 => ?_)
        · have hg := g_it hg c_7
          exact b_246 (f_X12_same_b208 n) ih x1 x6 x7 x11 v0 H locs ls hP hD hS (lv_sub hl [0, 1, 2, 3, 5] rfl) hg
        · have hg := g_if hg c_7
          refine lv_aload_n hx hb dX12_same_224 rfl (lv_at hl 0 rfl) ?_
          refine lv_iload hx hb dX12_same_225 (lv_at hl 5 rfl) ?_
          refine lv_iload hx hb dX12_same_227 (lv_at hl 2 rfl) ?_
          obtain ⟨r_8, hr_8, hg⟩ := g_bd hg
          refine cc_i (va_runV (C := RX12) (As := [.int x11, .int x6]) (rest := []) ⟨hx, hb, hml, hown, htb⟩ (k_X12_lensTake a0 a0_a a0_image a0_texts a0_board a0_taken a0_fars a0_before a0_tape a0_pile a0_rows a0_told a0_values a0_truth a0_keeps v0 x11 x6 r_8 hr_8) (cw_V 2 htb tg_1149 tg_13 tg_1146 tg_1148 ts_36 rfl rfl (by decide +kernel) ⟨Nat.le_of_ble_eq_true rfl, Nat.le_of_ble_eq_true rfl⟩) ⟨PC.blind, va_recv hK.1 hP (ci := 11) (q0 := 0) rfl rfl, PC.pre hK hT hP hD hS hA [0, 1, 2, 3, 4, 5, 6, 7, 8, 9, 10, 11, 12, 13, 14] rfl (by decide)⟩ rfl rfl hl.1 rfl (lv_room (Nat.le_of_ble_eq_true rfl)) dX12_same_229 ⟨Nat.le_of_ble_eq_true rfl, Nat.le_of_ble_eq_true rfl⟩) hP hD hS hA [0, 1, 2, 3, 4, 5, 6, 7, 8, 9, 10, 11, 12, 13, 14] [] rfl rfl (by decide) (by decide) (fun r9 u9 H locs hw hP hD hS => ?_)
          have hw := hw.symm
          subst hw
          have hP : va_P D vwCl (WS_X12_same cI cJ cZ cY a0 a0_a a0_image a0_texts a0_board a0_taken a0_fars a0_before a0_tape a0_pile a0_rows a0_told a0_values a0_truth a0_keeps v0) H := hP.sub [0, 1, 2, 3, 4, 5, 6, 7, 8, 9, 10, 11, 12, 13, 14] rfl
          have hD : va_D A (WS_X12_same cI cJ cZ cY a0 a0_a a0_image a0_texts a0_board a0_taken a0_fars a0_before a0_tape a0_pile a0_rows a0_told a0_values a0_truth a0_keeps v0) := hD.sub [0, 1, 2, 3, 4, 5, 6, 7, 8, 9, 10, 11, 12, 13, 14] (by decide) rfl
          refine lv_aload_n hx hb dX12_same_232 rfl (lv_at hl 0 rfl) ?_
          refine va_get (ci := 11) (v := .ref a0_before) (C := RX12) (T := TX12) (N := 43) hx hb htb uX12 hown hK.1 hP 0 rfl rfl 8 (by decide) (htb _ tg_944) (fun _ h9 => h9) rfl dX12_same_233 ?_
          refine lv_iload hx hb dX12_same_236 (lv_at hl 5 rfl) ?_
          obtain ⟨h_9, hg⟩ := g_gde hg
          refine va_iald hx hb hK.1 hP 7 0 rfl rfl (inB_vp h_9) dX12_same_238 ?_
          refine lv_icmp_ne (tgt := 246) hx hb dX12_same_239 (by decide) (fun c_10 => ?_) (fun c_10 => ?_)
          · have hg := g_if hg c_10
            exact b_246 (f_X12_same_b208 n) ih x1 x6 x7 x11 v0 H locs ls hP hD hS (lv_sub hl [0, 1, 2, 3, 5] rfl) hg
          · have hg := g_it hg c_10
            refine lv_iconst (v := 1) hx hb dX12_same_242 (by decide) ?_
            refine lv_goto (tgt := 247) hx hb dX12_same_243 (by decide) ?_
            exact b_247 (f_X12_same_b208 n) ih x1 x6 x7 x11 1 v0 H locs ls hP hD hS (lv_sub hl [0, 1, 2, 3, 5] rfl) hg
  have b_139 : ∀ (n : Nat), ∀ (x1 : Int32) (x4 : Int32) (x5 : Int32) (x6 : Int32) (x7 : Int32) (x8 : Int32) (x9 : Int32) (x10 : Int32) (v0 : BX12) (H : Heap) (locs : List Loc) (ls : Array Slot), va_P D vwCl (WS_X12_same cI cJ cZ cY a0 a0_a a0_image a0_texts a0_board a0_taken a0_fars a0_before a0_tape a0_pile a0_rows a0_told a0_values a0_truth a0_keeps v0) H → va_D A (WS_X12_same cI cJ cZ cY a0 a0_a a0_image a0_texts a0_board a0_taken a0_fars a0_before a0_tape a0_pile a0_rows a0_told a0_values a0_truth a0_keeps v0) → va_S A s.heap H locs → lv_has ls 12 [(0, .ref a0), (1, .int x1), (4, .int x4), (5, .int x5), (6, .int x6), (7, .int x7), (8, .int x8), (9, .int x9), (10, .int x10)] → f_X12_same_b139 n (x1, x4, x5, x6, x7, x8, x9, x10, v0) = some res → W p l e rm_X12_same s m args below meth c H locs 0 0 Q (F0 m 139 ls []) := by
    intro n
    induction n with
    | zero =>
      intro x1 x4 x5 x6 x7 x8 x9 x10 v0 H locs ls hP hD hS hl hg
      exact (g_lp0 hg).elim
    | succ n ih =>
      intro x1 x4 x5 x6 x7 x8 x9 x10 v0 H locs ls hP hD hS hl hg
      have hg : f_X12_same_b139B (f_X12_same_b139 n) x1 x4 x5 x6 x7 x8 x9 x10 v0 = some res := hg
      unfold f_X12_same_b139B at hg
      refine lv_iload hx hb dX12_same_139 (lv_at hl 8 rfl) ?_
      refine lv_aload_n hx hb dX12_same_141 rfl (lv_at hl 0 rfl) ?_
      refine va_get (ci := 11) (v := .ref a0_a) (C := RX12) (T := TX12) (N := 43) hx hb htb uX12 hown hK.1 hP 0 rfl rfl 2 (by decide) (htb _ tg_938) (fun _ h9 => h9) rfl dX12_same_142 ?_
      refine lv_iconst (v := 1) hx hb dX12_same_145 (by decide) ?_
      obtain ⟨h_11, hg⟩ := g_gde hg
      refine va_iald hx hb hK.1 hP 1 0 rfl rfl (inB_vp h_11) dX12_same_146 ?_
      refine lv_icmp_ge (tgt := 171) hx hb dX12_same_147 (by decide) (fun c_12 => ?_) (fun c_12 => ?_)
      · have hg := g_it hg c_12
        refine lv_aload_n hx hb dX12_same_171 rfl (lv_at hl 0 rfl) ?_
        refine va_get (ci := 11) (v := .ref a0_a) (C := RX12) (T := TX12) (N := 43) hx hb htb uX12 hown hK.1 hP 0 rfl rfl 2 (by decide) (htb _ tg_938) (fun _ h9 => h9) rfl dX12_same_172 ?_
        refine lv_sipush (v := 590) hx hb dX12_same_175 (by decide) ?_
        refine lv_iconst (v := 4) hx hb dX12_same_178 (by decide) ?_
        refine lv_iload_n hx hb dX12_same_179 rfl (lv_at hl 1 rfl) ?_
        refine lv_imul hx hb dX12_same_180 ?_
        refine lv_iadd hx hb dX12_same_181 ?_
        refine lv_iload hx hb dX12_same_182 (lv_at hl 7 rfl) ?_
        refine lv_aload_n hx hb dX12_same_184 rfl (lv_at hl 0 rfl) ?_
        refine va_get (ci := 11) (v := .int (pX12_w v0)) (C := RX12) (T := TX12) (N := 43) hx hb htb uX12 hown hK.1 hP 0 rfl rfl 0 (by decide) (htb _ tg_936) (fun _ h9 => h9) rfl dX12_same_185 ?_
        refine lv_imul hx hb dX12_same_188 ?_
        refine lv_iload hx hb dX12_same_189 (lv_at hl 6 rfl) ?_
        refine lv_iadd hx hb dX12_same_191 ?_
        refine lv_topi (fun x_13 ex_13 => ?_)
        have hg := g_lte hg x_13 ex_13
        obtain ⟨h_14, hg⟩ := g_gde hg
        refine va_iast hx hb hK.1 hP hD hS 1 0 rfl rfl (inB_vp h_14) dX12_same_192 (fun H locs hP hD hS => ?_)
        obtain ⟨v0_15, ev0_15⟩ : ∃ z, z = sX12_a v0 (upd (pX12_a v0) (((590 : Int32) + ((4 : Int32) * x1)) : Int32).toNatClampNeg x_13) := ⟨_, rfl⟩
        have hP : va_P D vwCl (WS_X12_same cI cJ cZ cY a0 a0_a a0_image a0_texts a0_board a0_taken a0_fars a0_before a0_tape a0_pile a0_rows a0_told a0_values a0_truth a0_keeps v0_15) H := by rw [ev0_15]; exact hP
        have hD : va_D A (WS_X12_same cI cJ cZ cY a0 a0_a a0_image a0_texts a0_board a0_taken a0_fars a0_before a0_tape a0_pile a0_rows a0_told a0_values a0_truth a0_keeps v0_15) := by rw [ev0_15]; exact hD
        have hg := g_lte hg v0_15 ev0_15
        refine lv_aload_n hx hb dX12_same_193 rfl (lv_at hl 0 rfl) ?_
        refine lv_iload hx hb dX12_same_194 (lv_at hl 2 rfl) ?_
        refine lv_iload hx hb dX12_same_196 (lv_at hl 3 rfl) ?_
        refine lv_iconst (v := 0) hx hb dX12_same_198 (by decide) ?_
        obtain ⟨r_16, hr_16, hg⟩ := g_bd hg
        refine cc_v (va_runV (C := RX12) (As := [.int x4, .int x5, .int 0]) (rest := []) ⟨hx, hb, hml, hown, htb⟩ (k_X12_look a0 a0_a a0_image a0_texts a0_board a0_taken a0_fars a0_before a0_tape a0_pile a0_rows a0_told a0_values a0_truth a0_keeps v0_15 x4 x5 0 r_16 hr_16) (cw_V 3 htb tg_1145 tg_13 tg_1142 tg_1144 ts_35 rfl rfl (by decide +kernel) ⟨Nat.le_of_ble_eq_true rfl, Nat.le_of_ble_eq_true rfl⟩) ⟨PC.blind, va_recv hK.1 hP (ci := 11) (q0 := 0) rfl rfl, PC.pre hK hT hP hD hS hA [0, 1, 2, 3, 4, 5, 6, 7, 8, 9, 10, 11, 12, 13, 14] rfl (by decide)⟩ rfl rfl hl.1 rfl (lv_room (Nat.le_of_ble_eq_true rfl)) dX12_same_199 ⟨Nat.le_of_ble_eq_true rfl, Nat.le_of_ble_eq_true rfl⟩) hP hD hS hA [0, 1, 2, 3, 4, 5, 6, 7, 8, 9, 10, 11, 12, 13, 14] [] rfl rfl (by decide) (by decide) (fun u9 H locs hw hP hD hS => ?_)
        have hw := hw.symm
        subst hw
        have hP : va_P D vwCl (WS_X12_same cI cJ cZ cY a0 a0_a a0_image a0_texts a0_board a0_taken a0_fars a0_before a0_tape a0_pile a0_rows a0_told a0_values a0_truth a0_keeps r_16) H := hP.sub [0, 1, 2, 3, 4, 5, 6, 7, 8, 9, 10, 11, 12, 13, 14] rfl
        have hD : va_D A (WS_X12_same cI cJ cZ cY a0 a0_a a0_image a0_texts a0_board a0_taken a0_fars a0_before a0_tape a0_pile a0_rows a0_told a0_values a0_truth a0_keeps r_16) := hD.sub [0, 1, 2, 3, 4, 5, 6, 7, 8, 9, 10, 11, 12, 13, 14] (by decide) rfl
        refine lv_iconst (v := 1) hx hb dX12_same_202 (by decide) ?_
        refine lv_istore (lv' := [(10, .int 1), (0, .ref a0), (1, .int x1), (4, .int x4), (5, .int x5), (6, .int x6), (7, .int x7), (8, .int x8), (9, .int x9)]) hx hb dX12_same_203 hl (by decide) rfl (fun ls hl => ?_)
        refine lv_iconst (v := 0) hx hb dX12_same_205 (by decide) ?_
        refine lv_istore (lv' := [(11, .int 0), (10, .int 1), (0, .ref a0), (1, .int x1), (4, .int x4), (5, .int x5), (6, .int x6), (7, .int x7), (8, .int x8), (9, .int x9)]) hx hb dX12_same_206 hl (by decide) rfl (fun ls hl => ?_)
        exact b_208 fU x1 x6 x7 1 0 r_16 H locs ls hP hD hS (lv_sub hl [2, 3, 6, 7, 1, 0] rfl) hg
      · have hg := g_if hg c_12
        refine lv_aload_n hx hb dX12_same_150 rfl (lv_at hl 0 rfl) ?_
        refine va_get (ci := 11) (v := .ref a0_before) (C := RX12) (T := TX12) (N := 43) hx hb htb uX12 hown hK.1 hP 0 rfl rfl 8 (by decide) (htb _ tg_944) (fun _ h9 => h9) rfl dX12_same_151 ?_
        refine lv_iload hx hb dX12_same_154 (lv_at hl 8 rfl) ?_
        refine lv_aload_n hx hb dX12_same_156 rfl (lv_at hl 0 rfl) ?_
        refine lv_iload hx hb dX12_same_157 (lv_at hl 8 rfl) ?_
        refine lv_iload hx hb dX12_same_159 (lv_at hl 4 rfl) ?_
        obtain ⟨r_17, hr_17, hg⟩ := g_bd hg
        refine cc_i (va_runV (C := RX12) (As := [.int x10, .int x6]) (rest := [.int x10, .ref a0_before]) ⟨hx, hb, hml, hown, htb⟩ (k_X12_lensTake a0 a0_a a0_image a0_texts a0_board a0_taken a0_fars a0_before a0_tape a0_pile a0_rows a0_told a0_values a0_truth a0_keeps v0 x10 x6 r_17 hr_17) (cw_V 2 htb tg_1149 tg_13 tg_1146 tg_1148 ts_36 rfl rfl (by decide +kernel) ⟨Nat.le_of_ble_eq_true rfl, Nat.le_of_ble_eq_true rfl⟩) ⟨PC.blind, va_recv hK.1 hP (ci := 11) (q0 := 0) rfl rfl, PC.pre hK hT hP hD hS hA [0, 1, 2, 3, 4, 5, 6, 7, 8, 9, 10, 11, 12, 13, 14] rfl (by decide)⟩ rfl rfl hl.1 rfl (lv_room (Nat.le_of_ble_eq_true rfl)) dX12_same_161 ⟨Nat.le_of_ble_eq_true rfl, Nat.le_of_ble_eq_true rfl⟩) hP hD hS hA [0, 1, 2, 3, 4, 5, 6, 7, 8, 9, 10, 11, 12, 13, 14] [] rfl rfl (by decide) (by decide) (fun r9 u9 H locs hw hP hD hS => ?_)
        have hw := hw.symm
        subst hw
        have hP : va_P D vwCl (WS_X12_same cI cJ cZ cY a0 a0_a a0_image a0_texts a0_board a0_taken a0_fars a0_before a0_tape a0_pile a0_rows a0_told a0_values a0_truth a0_keeps v0) H := hP.sub [0, 1, 2, 3, 4, 5, 6, 7, 8, 9, 10, 11, 12, 13, 14] rfl
        have hD : va_D A (WS_X12_same cI cJ cZ cY a0 a0_a a0_image a0_texts a0_board a0_taken a0_fars a0_before a0_tape a0_pile a0_rows a0_told a0_values a0_truth a0_keeps v0) := hD.sub [0, 1, 2, 3, 4, 5, 6, 7, 8, 9, 10, 11, 12, 13, 14] (by decide) rfl
        obtain ⟨h_18, hg⟩ := g_gde hg
        refine va_iast hx hb hK.1 hP hD hS 7 0 rfl rfl (inB_vp h_18) dX12_same_164 (fun H locs hP hD hS => ?_)
        obtain ⟨v0_19, ev0_19⟩ : ∃ z, z = sX12_before v0 (upd (pX12_before v0) (x10 : Int32).toNatClampNeg r_17) := ⟨_, rfl⟩
        have hP : va_P D vwCl (WS_X12_same cI cJ cZ cY a0 a0_a a0_image a0_texts a0_board a0_taken a0_fars a0_before a0_tape a0_pile a0_rows a0_told a0_values a0_truth a0_keeps v0_19) H := by rw [ev0_19]; exact hP
        have hD : va_D A (WS_X12_same cI cJ cZ cY a0 a0_a a0_image a0_texts a0_board a0_taken a0_fars a0_before a0_tape a0_pile a0_rows a0_told a0_values a0_truth a0_keeps v0_19) := by rw [ev0_19]; exact hD
        have hg := g_lte hg v0_19 ev0_19
        obtain ⟨x10_20, ex10_20⟩ : ∃ z : Int32, z = x10 + 1 := ⟨_, rfl⟩
        have hg := g_lte hg x10_20 ex10_20
        refine lv_iinc (v := x10_20) (lv' := [(10, .int x10_20), (0, .ref a0), (1, .int x1), (4, .int x4), (5, .int x5), (6, .int x6), (7, .int x7), (8, .int x8), (9, .int x9)]) hx hb dX12_same_165 hl (k := 8) rfl (by rw [ex10_20]; rfl) (by decide) rfl (fun ls hl => ?_)
        refine lv_goto (tgt := 139) hx hb dX12_same_168 (by decide) ?_
        exact ih x1 x4 x5 x6 x7 x8 x9 x10_20 v0_19 H locs ls hP hD hS (lv_sub hl [1, 2, 3, 4, 5, 6, 7, 8, 0] rfl) hg
  generalize hHe : s.heap = H at hP ⊢
  have hS : va_S A s.heap H [] := by rw [← hHe]; exact va_S.rf
  generalize ([] : List Loc) = locs at hS ⊢
  unfold f_X12_same at hg
  refine lv_iload_n hx hb dX12_same_0 rfl (lv_at hl 1 rfl) ?_
  refine lv_iconst (v := 0) hx hb dX12_same_1 (by decide) ?_
  refine lv_aload_n hx hb dX12_same_2 rfl (lv_at hl 0 rfl) ?_
  refine va_get (ci := 11) (v := .ref a0_a) (C := RX12) (T := TX12) (N := 43) hx hb htb uX12 hown hK.1 hP 0 rfl rfl 2 (by decide) (htb _ tg_938) (fun _ h9 => h9) rfl dX12_same_3 ?_
  refine lv_iconst (v := 0) hx hb dX12_same_6 (by decide) ?_
  obtain ⟨h_21, hg⟩ := g_gde hg
  refine va_iald hx hb hK.1 hP 1 0 rfl rfl (inB_vp h_21) dX12_same_7 ?_
  refine lv_iconst (v := 1) hx hb dX12_same_8 (by decide) ?_
  refine lv_isub hx hb dX12_same_9 ?_
  obtain ⟨r_22, hr_22, hg⟩ := g_bd hg
  refine cc_i (va_runS (As := [.int p0, .int 0, .int (((pX12_a v0) (0 : Int32).toNatClampNeg) - 1)]) (rest := []) ⟨hx, hb, hml, hown, htb⟩ (k_X12_isIn p0 0 (((pX12_a v0) (0 : Int32).toNatClampNeg) - 1) r_22 hr_22) (cw_S 3 htb tg_1078 tg_13 tg_1076 tg_1077 rfl rfl (by decide +kernel) ⟨Nat.le_of_ble_eq_true rfl, Nat.le_of_ble_eq_true rfl⟩) ⟨PC.blind, PC.pre hK hT hP hD hS hA [] rfl (by decide)⟩ rfl rfl hl.1 rfl (lv_room (Nat.le_of_ble_eq_true rfl)) dX12_same_10 ⟨Nat.le_of_ble_eq_true rfl, Nat.le_of_ble_eq_true rfl⟩) hP hD hS hA [] [0, 1, 2, 3, 4, 5, 6, 7, 8, 9, 10, 11, 12, 13, 14] rfl rfl (by decide) (by decide) (fun r9 u9 H locs hw hP hD hS => ?_)
  have hw := hw.symm
  subst hw
  have hP : va_P D vwCl (WS_X12_same cI cJ cZ cY a0 a0_a a0_image a0_texts a0_board a0_taken a0_fars a0_before a0_tape a0_pile a0_rows a0_told a0_values a0_truth a0_keeps v0) H := hP.sub [0, 1, 2, 3, 4, 5, 6, 7, 8, 9, 10, 11, 12, 13, 14] rfl
  have hD : va_D A (WS_X12_same cI cJ cZ cY a0 a0_a a0_image a0_texts a0_board a0_taken a0_fars a0_before a0_tape a0_pile a0_rows a0_told a0_values a0_truth a0_keeps v0) := hD.sub [0, 1, 2, 3, 4, 5, 6, 7, 8, 9, 10, 11, 12, 13, 14] (by decide) rfl
  refine lv_if_eq (tgt := 57) hx hb dX12_same_13 (by decide) (fun c_23 => ?_) (fun c_23 => ?_)
  · have hg := g_it hg c_23
    refine lv_iconst (v := (-1)) hx hb dX12_same_57 (by decide) ?_
    have hg := Option.some.inj hg
    rw [hQ]
    exact W.iret (v := (-1)) hx hb hr (fun t ht hW => ⟨⟨(-1), (v0), rfl, ⟨by rw [← hg], by rw [← hg]⟩, by rw [ht]; exact hP, hD⟩, hS.F ht⟩) hS.2.2 dX12_same_58
  · have hg := g_if hg c_23
    refine lv_aload_n hx hb dX12_same_16 rfl (lv_at hl 0 rfl) ?_
    refine lv_iload hx hb dX12_same_17 (lv_at hl 4 rfl) ?_
    refine lv_iload hx hb dX12_same_19 (lv_at hl 5 rfl) ?_
    obtain ⟨r_24, hr_24, hg⟩ := g_bd hg
    refine cc_i (va_runV (C := RX12) (As := [.int p3, .int p4]) (rest := []) ⟨hx, hb, hml, hown, htb⟩ (k_X12_isPlace a0 a0_a a0_image a0_texts a0_board a0_taken a0_fars a0_before a0_tape a0_pile a0_rows a0_told a0_values a0_truth a0_keeps v0 p3 p4 r_24 hr_24) (cw_V 2 htb tg_1105 tg_13 tg_1102 tg_1104 ts_31 rfl rfl (by decide +kernel) ⟨Nat.le_of_ble_eq_true rfl, Nat.le_of_ble_eq_true rfl⟩) ⟨PC.blind, va_recv hK.1 hP (ci := 11) (q0 := 0) rfl rfl, PC.pre hK hT hP hD hS hA [0, 1, 2, 3, 4, 5, 6, 7, 8, 9, 10, 11, 12, 13, 14] rfl (by decide)⟩ rfl rfl hl.1 rfl (lv_room (Nat.le_of_ble_eq_true rfl)) dX12_same_21 ⟨Nat.le_of_ble_eq_true rfl, Nat.le_of_ble_eq_true rfl⟩) hP hD hS hA [0, 1, 2, 3, 4, 5, 6, 7, 8, 9, 10, 11, 12, 13, 14] [] rfl rfl (by decide) (by decide) (fun r9 u9 H locs hw hP hD hS => ?_)
    have hw := hw.symm
    subst hw
    have hP : va_P D vwCl (WS_X12_same cI cJ cZ cY a0 a0_a a0_image a0_texts a0_board a0_taken a0_fars a0_before a0_tape a0_pile a0_rows a0_told a0_values a0_truth a0_keeps v0) H := hP.sub [0, 1, 2, 3, 4, 5, 6, 7, 8, 9, 10, 11, 12, 13, 14] rfl
    have hD : va_D A (WS_X12_same cI cJ cZ cY a0 a0_a a0_image a0_texts a0_board a0_taken a0_fars a0_before a0_tape a0_pile a0_rows a0_told a0_values a0_truth a0_keeps v0) := hD.sub [0, 1, 2, 3, 4, 5, 6, 7, 8, 9, 10, 11, 12, 13, 14] (by decide) rfl
    refine lv_if_eq (tgt := 57) hx hb dX12_same_24 (by decide) (fun c_25 => ?_) (fun c_25 => ?_)
    · have hg := g_it hg c_25
      refine lv_iconst (v := (-1)) hx hb dX12_same_57 (by decide) ?_
      have hg := Option.some.inj hg
      rw [hQ]
      exact W.iret (v := (-1)) hx hb hr (fun t ht hW => ⟨⟨(-1), (v0), rfl, ⟨by rw [← hg], by rw [← hg]⟩, by rw [ht]; exact hP, hD⟩, hS.F ht⟩) hS.2.2 dX12_same_58
    · have hg := g_if hg c_25
      refine lv_iload hx hb dX12_same_27 (lv_at hl 6 rfl) ?_
      obtain ⟨r_26, hr_26, hg⟩ := g_bd hg
      refine cc_i (va_runS (As := [.int p5]) (rest := []) ⟨hx, hb, hml, hown, htb⟩ (k_X12_isSide p5 r_26 hr_26) (cw_S 1 htb tg_1108 tg_13 tg_1106 tg_1107 rfl rfl (by decide +kernel) ⟨Nat.le_of_ble_eq_true rfl, Nat.le_of_ble_eq_true rfl⟩) ⟨PC.blind, PC.pre hK hT hP hD hS hA [] rfl (by decide)⟩ rfl rfl hl.1 rfl (lv_room (Nat.le_of_ble_eq_true rfl)) dX12_same_29 ⟨Nat.le_of_ble_eq_true rfl, Nat.le_of_ble_eq_true rfl⟩) hP hD hS hA [] [0, 1, 2, 3, 4, 5, 6, 7, 8, 9, 10, 11, 12, 13, 14] rfl rfl (by decide) (by decide) (fun r9 u9 H locs hw hP hD hS => ?_)
      have hw := hw.symm
      subst hw
      have hP : va_P D vwCl (WS_X12_same cI cJ cZ cY a0 a0_a a0_image a0_texts a0_board a0_taken a0_fars a0_before a0_tape a0_pile a0_rows a0_told a0_values a0_truth a0_keeps v0) H := hP.sub [0, 1, 2, 3, 4, 5, 6, 7, 8, 9, 10, 11, 12, 13, 14] rfl
      have hD : va_D A (WS_X12_same cI cJ cZ cY a0 a0_a a0_image a0_texts a0_board a0_taken a0_fars a0_before a0_tape a0_pile a0_rows a0_told a0_values a0_truth a0_keeps v0) := hD.sub [0, 1, 2, 3, 4, 5, 6, 7, 8, 9, 10, 11, 12, 13, 14] (by decide) rfl
      refine lv_if_eq (tgt := 57) hx hb dX12_same_32 (by decide) (fun c_27 => ?_) (fun c_27 => ?_)
      · have hg := g_it hg c_27
        refine lv_iconst (v := (-1)) hx hb dX12_same_57 (by decide) ?_
        have hg := Option.some.inj hg
        rw [hQ]
        exact W.iret (v := (-1)) hx hb hr (fun t ht hW => ⟨⟨(-1), (v0), rfl, ⟨by rw [← hg], by rw [← hg]⟩, by rw [ht]; exact hP, hD⟩, hS.F ht⟩) hS.2.2 dX12_same_58
      · have hg := g_if hg c_27
        refine lv_iload_n hx hb dX12_same_35 rfl (lv_at hl 2 rfl) ?_
        refine lv_bipush (v := (-23)) hx hb dX12_same_36 (by decide) ?_
        refine lv_bipush (v := 23) hx hb dX12_same_38 (by decide) ?_
        obtain ⟨r_28, hr_28, hg⟩ := g_bd hg
        refine cc_i (va_runS (As := [.int p1, .int (-23), .int 23]) (rest := []) ⟨hx, hb, hml, hown, htb⟩ (k_X12_isIn p1 (-23) 23 r_28 hr_28) (cw_S 3 htb tg_1078 tg_13 tg_1076 tg_1077 rfl rfl (by decide +kernel) ⟨Nat.le_of_ble_eq_true rfl, Nat.le_of_ble_eq_true rfl⟩) ⟨PC.blind, PC.pre hK hT hP hD hS hA [] rfl (by decide)⟩ rfl rfl hl.1 rfl (lv_room (Nat.le_of_ble_eq_true rfl)) dX12_same_40 ⟨Nat.le_of_ble_eq_true rfl, Nat.le_of_ble_eq_true rfl⟩) hP hD hS hA [] [0, 1, 2, 3, 4, 5, 6, 7, 8, 9, 10, 11, 12, 13, 14] rfl rfl (by decide) (by decide) (fun r9 u9 H locs hw hP hD hS => ?_)
        have hw := hw.symm
        subst hw
        have hP : va_P D vwCl (WS_X12_same cI cJ cZ cY a0 a0_a a0_image a0_texts a0_board a0_taken a0_fars a0_before a0_tape a0_pile a0_rows a0_told a0_values a0_truth a0_keeps v0) H := hP.sub [0, 1, 2, 3, 4, 5, 6, 7, 8, 9, 10, 11, 12, 13, 14] rfl
        have hD : va_D A (WS_X12_same cI cJ cZ cY a0 a0_a a0_image a0_texts a0_board a0_taken a0_fars a0_before a0_tape a0_pile a0_rows a0_told a0_values a0_truth a0_keeps v0) := hD.sub [0, 1, 2, 3, 4, 5, 6, 7, 8, 9, 10, 11, 12, 13, 14] (by decide) rfl
        refine lv_if_eq (tgt := 57) hx hb dX12_same_43 (by decide) (fun c_29 => ?_) (fun c_29 => ?_)
        · have hg := g_it hg c_29
          refine lv_iconst (v := (-1)) hx hb dX12_same_57 (by decide) ?_
          have hg := Option.some.inj hg
          rw [hQ]
          exact W.iret (v := (-1)) hx hb hr (fun t ht hW => ⟨⟨(-1), (v0), rfl, ⟨by rw [← hg], by rw [← hg]⟩, by rw [ht]; exact hP, hD⟩, hS.F ht⟩) hS.2.2 dX12_same_58
        · have hg := g_if hg c_29
          refine lv_iload_n hx hb dX12_same_46 rfl (lv_at hl 3 rfl) ?_
          refine lv_bipush (v := (-23)) hx hb dX12_same_47 (by decide) ?_
          refine lv_bipush (v := 23) hx hb dX12_same_49 (by decide) ?_
          obtain ⟨r_30, hr_30, hg⟩ := g_bd hg
          refine cc_i (va_runS (As := [.int p2, .int (-23), .int 23]) (rest := []) ⟨hx, hb, hml, hown, htb⟩ (k_X12_isIn p2 (-23) 23 r_30 hr_30) (cw_S 3 htb tg_1078 tg_13 tg_1076 tg_1077 rfl rfl (by decide +kernel) ⟨Nat.le_of_ble_eq_true rfl, Nat.le_of_ble_eq_true rfl⟩) ⟨PC.blind, PC.pre hK hT hP hD hS hA [] rfl (by decide)⟩ rfl rfl hl.1 rfl (lv_room (Nat.le_of_ble_eq_true rfl)) dX12_same_51 ⟨Nat.le_of_ble_eq_true rfl, Nat.le_of_ble_eq_true rfl⟩) hP hD hS hA [] [0, 1, 2, 3, 4, 5, 6, 7, 8, 9, 10, 11, 12, 13, 14] rfl rfl (by decide) (by decide) (fun r9 u9 H locs hw hP hD hS => ?_)
          have hw := hw.symm
          subst hw
          have hP : va_P D vwCl (WS_X12_same cI cJ cZ cY a0 a0_a a0_image a0_texts a0_board a0_taken a0_fars a0_before a0_tape a0_pile a0_rows a0_told a0_values a0_truth a0_keeps v0) H := hP.sub [0, 1, 2, 3, 4, 5, 6, 7, 8, 9, 10, 11, 12, 13, 14] rfl
          have hD : va_D A (WS_X12_same cI cJ cZ cY a0 a0_a a0_image a0_texts a0_board a0_taken a0_fars a0_before a0_tape a0_pile a0_rows a0_told a0_values a0_truth a0_keeps v0) := hD.sub [0, 1, 2, 3, 4, 5, 6, 7, 8, 9, 10, 11, 12, 13, 14] (by decide) rfl
          refine lv_if_ne (tgt := 59) hx hb dX12_same_54 (by decide) (fun c_31 => ?_) (fun c_31 => ?_)
          · have hg := g_if hg c_31
            refine lv_aload_n hx hb dX12_same_59 rfl (lv_at hl 0 rfl) ?_
            refine va_get (ci := 11) (v := .ref a0_a) (C := RX12) (T := TX12) (N := 43) hx hb htb uX12 hown hK.1 hP 0 rfl rfl 2 (by decide) (htb _ tg_938) (fun _ h9 => h9) rfl dX12_same_60 ?_
            refine lv_sipush (v := 590) hx hb dX12_same_63 (by decide) ?_
            refine lv_iconst (v := 4) hx hb dX12_same_66 (by decide) ?_
            refine lv_iload_n hx hb dX12_same_67 rfl (lv_at hl 1 rfl) ?_
            refine lv_imul hx hb dX12_same_68 ?_
            refine lv_iadd hx hb dX12_same_69 ?_
            obtain ⟨h_32, hg⟩ := g_gde hg
            refine va_iald hx hb hK.1 hP 1 0 rfl rfl (inB_vp h_32) dX12_same_70 ?_
            refine lv_topi (fun x7_33 ex7_33 => ?_)
            have hg := g_lte hg x7_33 ex7_33
            refine lv_istore (lv' := [(7, .int x7_33), (0, .ref a0), (1, .int p0), (2, .int p1), (3, .int p2), (4, .int p3), (5, .int p4), (6, .int p5)]) hx hb dX12_same_71 hl (by decide) rfl (fun ls hl => ?_)
            refine lv_iload hx hb dX12_same_73 (lv_at hl 0 rfl) ?_
            refine lv_aload_n hx hb dX12_same_75 rfl (lv_at hl 1 rfl) ?_
            refine va_get (ci := 11) (v := .int (pX12_w v0)) (C := RX12) (T := TX12) (N := 43) hx hb htb uX12 hown hK.1 hP 0 rfl rfl 0 (by decide) (htb _ tg_936) (fun _ h9 => h9) rfl dX12_same_76 ?_
            obtain ⟨h_34, hg⟩ := g_gde hg
            refine lv_irem hx hb dX12_same_79 h_34 ?_
            refine lv_iload_n hx hb dX12_same_80 rfl (lv_at hl 3 rfl) ?_
            refine lv_iadd hx hb dX12_same_81 ?_
            refine lv_topi (fun x8_35 ex8_35 => ?_)
            have hg := g_lte hg x8_35 ex8_35
            refine lv_istore (lv' := [(8, .int x8_35), (7, .int x7_33), (0, .ref a0), (1, .int p0), (2, .int p1), (3, .int p2), (4, .int p3), (5, .int p4), (6, .int p5)]) hx hb dX12_same_82 hl (by decide) rfl (fun ls hl => ?_)
            refine lv_iload hx hb dX12_same_84 (lv_at hl 1 rfl) ?_
            refine lv_aload_n hx hb dX12_same_86 rfl (lv_at hl 2 rfl) ?_
            refine va_get (ci := 11) (v := .int (pX12_w v0)) (C := RX12) (T := TX12) (N := 43) hx hb htb uX12 hown hK.1 hP 0 rfl rfl 0 (by decide) (htb _ tg_936) (fun _ h9 => h9) rfl dX12_same_87 ?_
            obtain ⟨h_36, hg⟩ := g_gde hg
            refine lv_idiv hx hb dX12_same_90 h_36 ?_
            refine lv_iload_n hx hb dX12_same_91 rfl (lv_at hl 5 rfl) ?_
            refine lv_iadd hx hb dX12_same_92 ?_
            refine lv_topi (fun x9_37 ex9_37 => ?_)
            have hg := g_lte hg x9_37 ex9_37
            refine lv_istore (lv' := [(9, .int x9_37), (8, .int x8_35), (7, .int x7_33), (0, .ref a0), (1, .int p0), (2, .int p1), (3, .int p2), (4, .int p3), (5, .int p4), (6, .int p5)]) hx hb dX12_same_93 hl (by decide) rfl (fun ls hl => ?_)
            refine lv_iload hx hb dX12_same_95 (lv_at hl 1 rfl) ?_
            refine lv_iconst (v := 0) hx hb dX12_same_97 (by decide) ?_
            refine lv_aload_n hx hb dX12_same_98 rfl (lv_at hl 3 rfl) ?_
            refine va_get (ci := 11) (v := .int (pX12_w v0)) (C := RX12) (T := TX12) (N := 43) hx hb htb uX12 hown hK.1 hP 0 rfl rfl 0 (by decide) (htb _ tg_936) (fun _ h9 => h9) rfl dX12_same_99 ?_
            refine lv_iconst (v := 1) hx hb dX12_same_102 (by decide) ?_
            refine lv_isub hx hb dX12_same_103 ?_
            obtain ⟨r_38, hr_38, hg⟩ := g_bd hg
            refine cc_i (va_runS (As := [.int x8_35, .int 0, .int ((pX12_w v0) - 1)]) (rest := []) ⟨hx, hb, hml, hown, htb⟩ (k_X12_isIn x8_35 0 ((pX12_w v0) - 1) r_38 hr_38) (cw_S 3 htb tg_1078 tg_13 tg_1076 tg_1077 rfl rfl (by decide +kernel) ⟨Nat.le_of_ble_eq_true rfl, Nat.le_of_ble_eq_true rfl⟩) ⟨PC.blind, PC.pre hK hT hP hD hS hA [] rfl (by decide)⟩ rfl rfl hl.1 rfl (lv_room (Nat.le_of_ble_eq_true rfl)) dX12_same_104 ⟨Nat.le_of_ble_eq_true rfl, Nat.le_of_ble_eq_true rfl⟩) hP hD hS hA [] [0, 1, 2, 3, 4, 5, 6, 7, 8, 9, 10, 11, 12, 13, 14] rfl rfl (by decide) (by decide) (fun r9 u9 H locs hw hP hD hS => ?_)
            have hw := hw.symm
            subst hw
            have hP : va_P D vwCl (WS_X12_same cI cJ cZ cY a0 a0_a a0_image a0_texts a0_board a0_taken a0_fars a0_before a0_tape a0_pile a0_rows a0_told a0_values a0_truth a0_keeps v0) H := hP.sub [0, 1, 2, 3, 4, 5, 6, 7, 8, 9, 10, 11, 12, 13, 14] rfl
            have hD : va_D A (WS_X12_same cI cJ cZ cY a0 a0_a a0_image a0_texts a0_board a0_taken a0_fars a0_before a0_tape a0_pile a0_rows a0_told a0_values a0_truth a0_keeps v0) := hD.sub [0, 1, 2, 3, 4, 5, 6, 7, 8, 9, 10, 11, 12, 13, 14] (by decide) rfl
            refine lv_if_eq (tgt := 125) hx hb dX12_same_107 (by decide) (fun c_39 => ?_) (fun c_39 => ?_)
            · have hg := g_it hg c_39
              refine lv_iconst (v := (-1)) hx hb dX12_same_125 (by decide) ?_
              have hg := Option.some.inj hg
              rw [hQ]
              exact W.iret (v := (-1)) hx hb hr (fun t ht hW => ⟨⟨(-1), (v0), rfl, ⟨by rw [← hg], by rw [← hg]⟩, by rw [ht]; exact hP, hD⟩, hS.F ht⟩) hS.2.2 dX12_same_126
            · have hg := g_if hg c_39
              refine lv_iload hx hb dX12_same_110 (lv_at hl 0 rfl) ?_
              refine lv_iconst (v := 0) hx hb dX12_same_112 (by decide) ?_
              refine lv_aload_n hx hb dX12_same_113 rfl (lv_at hl 3 rfl) ?_
              refine va_get (ci := 11) (v := .int (pX12_h v0)) (C := RX12) (T := TX12) (N := 43) hx hb htb uX12 hown hK.1 hP 0 rfl rfl 1 (by decide) (htb _ tg_937) (fun _ h9 => h9) rfl dX12_same_114 ?_
              refine lv_iconst (v := 1) hx hb dX12_same_117 (by decide) ?_
              refine lv_isub hx hb dX12_same_118 ?_
              obtain ⟨r_40, hr_40, hg⟩ := g_bd hg
              refine cc_i (va_runS (As := [.int x9_37, .int 0, .int ((pX12_h v0) - 1)]) (rest := []) ⟨hx, hb, hml, hown, htb⟩ (k_X12_isIn x9_37 0 ((pX12_h v0) - 1) r_40 hr_40) (cw_S 3 htb tg_1078 tg_13 tg_1076 tg_1077 rfl rfl (by decide +kernel) ⟨Nat.le_of_ble_eq_true rfl, Nat.le_of_ble_eq_true rfl⟩) ⟨PC.blind, PC.pre hK hT hP hD hS hA [] rfl (by decide)⟩ rfl rfl hl.1 rfl (lv_room (Nat.le_of_ble_eq_true rfl)) dX12_same_119 ⟨Nat.le_of_ble_eq_true rfl, Nat.le_of_ble_eq_true rfl⟩) hP hD hS hA [] [0, 1, 2, 3, 4, 5, 6, 7, 8, 9, 10, 11, 12, 13, 14] rfl rfl (by decide) (by decide) (fun r9 u9 H locs hw hP hD hS => ?_)
              have hw := hw.symm
              subst hw
              have hP : va_P D vwCl (WS_X12_same cI cJ cZ cY a0 a0_a a0_image a0_texts a0_board a0_taken a0_fars a0_before a0_tape a0_pile a0_rows a0_told a0_values a0_truth a0_keeps v0) H := hP.sub [0, 1, 2, 3, 4, 5, 6, 7, 8, 9, 10, 11, 12, 13, 14] rfl
              have hD : va_D A (WS_X12_same cI cJ cZ cY a0 a0_a a0_image a0_texts a0_board a0_taken a0_fars a0_before a0_tape a0_pile a0_rows a0_told a0_values a0_truth a0_keeps v0) := hD.sub [0, 1, 2, 3, 4, 5, 6, 7, 8, 9, 10, 11, 12, 13, 14] (by decide) rfl
              refine lv_if_ne (tgt := 127) hx hb dX12_same_122 (by decide) (fun c_41 => ?_) (fun c_41 => ?_)
              · have hg := g_if hg c_41
                refine lv_aload_n hx hb dX12_same_127 rfl (lv_at hl 3 rfl) ?_
                refine lv_iload hx hb dX12_same_128 (lv_at hl 7 rfl) ?_
                refine lv_iload hx hb dX12_same_130 (lv_at hl 8 rfl) ?_
                refine lv_iconst (v := 0) hx hb dX12_same_132 (by decide) ?_
                obtain ⟨r_42, hr_42, hg⟩ := g_bd hg
                refine cc_v (va_runV (C := RX12) (As := [.int p3, .int p4, .int 0]) (rest := []) ⟨hx, hb, hml, hown, htb⟩ (k_X12_look a0 a0_a a0_image a0_texts a0_board a0_taken a0_fars a0_before a0_tape a0_pile a0_rows a0_told a0_values a0_truth a0_keeps v0 p3 p4 0 r_42 hr_42) (cw_V 3 htb tg_1145 tg_13 tg_1142 tg_1144 ts_35 rfl rfl (by decide +kernel) ⟨Nat.le_of_ble_eq_true rfl, Nat.le_of_ble_eq_true rfl⟩) ⟨PC.blind, va_recv hK.1 hP (ci := 11) (q0 := 0) rfl rfl, PC.pre hK hT hP hD hS hA [0, 1, 2, 3, 4, 5, 6, 7, 8, 9, 10, 11, 12, 13, 14] rfl (by decide)⟩ rfl rfl hl.1 rfl (lv_room (Nat.le_of_ble_eq_true rfl)) dX12_same_133 ⟨Nat.le_of_ble_eq_true rfl, Nat.le_of_ble_eq_true rfl⟩) hP hD hS hA [0, 1, 2, 3, 4, 5, 6, 7, 8, 9, 10, 11, 12, 13, 14] [] rfl rfl (by decide) (by decide) (fun u9 H locs hw hP hD hS => ?_)
                have hw := hw.symm
                subst hw
                have hP : va_P D vwCl (WS_X12_same cI cJ cZ cY a0 a0_a a0_image a0_texts a0_board a0_taken a0_fars a0_before a0_tape a0_pile a0_rows a0_told a0_values a0_truth a0_keeps r_42) H := hP.sub [0, 1, 2, 3, 4, 5, 6, 7, 8, 9, 10, 11, 12, 13, 14] rfl
                have hD : va_D A (WS_X12_same cI cJ cZ cY a0 a0_a a0_image a0_texts a0_board a0_taken a0_fars a0_before a0_tape a0_pile a0_rows a0_told a0_values a0_truth a0_keeps r_42) := hD.sub [0, 1, 2, 3, 4, 5, 6, 7, 8, 9, 10, 11, 12, 13, 14] (by decide) rfl
                refine lv_iconst (v := 0) hx hb dX12_same_136 (by decide) ?_
                refine lv_istore (lv' := [(10, .int 0), (9, .int x9_37), (8, .int x8_35), (7, .int x7_33), (0, .ref a0), (1, .int p0), (2, .int p1), (3, .int p2), (4, .int p3), (5, .int p4), (6, .int p5)]) hx hb dX12_same_137 hl (by decide) rfl (fun ls hl => ?_)
                exact b_139 fU p0 p3 p4 p5 x7_33 x8_35 x9_37 0 r_42 H locs ls hP hD hS (lv_sub hl [4, 5, 8, 9, 10, 3, 2, 1, 0] rfl) hg
              · have hg := g_it hg c_41
                refine lv_iconst (v := (-1)) hx hb dX12_same_125 (by decide) ?_
                have hg := Option.some.inj hg
                rw [hQ]
                exact W.iret (v := (-1)) hx hb hr (fun t ht hW => ⟨⟨(-1), (v0), rfl, ⟨by rw [← hg], by rw [← hg]⟩, by rw [ht]; exact hP, hD⟩, hS.F ht⟩) hS.2.2 dX12_same_126
          · have hg := g_it hg c_31
            refine lv_iconst (v := (-1)) hx hb dX12_same_57 (by decide) ?_
            have hg := Option.some.inj hg
            rw [hQ]
            exact W.iret (v := (-1)) hx hb hr (fun t ht hW => ⟨⟨(-1), (v0), rfl, ⟨by rw [← hg], by rw [← hg]⟩, by rw [ht]; exact hP, hD⟩, hS.F ht⟩) hS.2.2 dX12_same_58

/-! ManyEyesModel.four(I)V -/
def WS_X12_four (cI cJ cZ cY : ClassId) (a0 a0_a a0_image a0_texts a0_board a0_taken a0_fars a0_before a0_tape a0_pile a0_rows a0_told a0_values a0_truth a0_keeps : Nat) (v0 : BX12) : va_W := (GX12 cI cJ cZ cY a0 a0_a a0_image a0_texts a0_board a0_taken a0_fars a0_before a0_tape a0_pile a0_rows a0_told a0_values a0_truth a0_keeps v0)
def f_X12_four_b3B (J3 : Int32 × Int32 × BX12 → Option (BX12)) (x1 : Int32) (x2 : Int32) (v0 : BX12) : Option (BX12) := if (x2 : Int32) < 0 then (some (v0)) else (g_lt (((x1 >>> (x2 &&& 31)) &&& 255) : Int32) (fun x_2 => g_gd (inB (pX12_taped v0) 300) (g_lt (sX12_tape v0 (upd (pX12_tape v0) ((pX12_taped v0) : Int32).toNatClampNeg x_2)) (fun v0_4 => g_lt (((pX12_taped v0_4) + 1) : Int32) (fun x_5 => g_lt (sX12_taped v0_4 x_5) (fun v0_6 => g_lt (x2 + (-8) : Int32) (fun x2_7 => J3 (x1, x2_7, v0_6))))))))
def f_X12_four_b3 : Nat → (Int32 × Int32 × BX12) → Option (BX12) := g_lp (fun J z => f_X12_four_b3B J z.1 z.2.1 z.2.2)
def f_X12_four (v0 : BX12) (p0 : Int32) : Option (BX12) := f_X12_four_b3 fU (p0, 24, v0)
abbrev rm_X12_four : Room := { frames := 0, cells := 0, slots := 0, locals := 0 }
set_option maxHeartbeats 4000000 in
set_option maxRecDepth 100000 in
theorem k_X12_four {l : Launch} {D : va_G} {cI cJ cZ cY : ClassId} {tX tY : Nat} {sz : Nat} (a0 a0_a a0_image a0_texts a0_board a0_taken a0_fars a0_before a0_tape a0_pile a0_rows a0_told a0_values a0_truth a0_keeps : Nat) (v0 : BX12) (p0 : Int32) (res : BX12) (hg : f_X12_four v0 p0 = some res) : Met l yX12_four (Cond.code yX12_four cX12_four 3 none :: TB) rm_X12_four (PC D cI cJ cZ cY tX tY [.ref a0, .int p0] (WS_X12_four cI cJ cZ cY a0 a0_a a0_image a0_texts a0_board a0_taken a0_fars a0_before a0_tape a0_pile a0_rows a0_told a0_values a0_truth a0_keeps v0) sz) (va_Qv (fun (u : BX12) => u = res) (BC D (fun u : BX12 => WS_X12_four cI cJ cZ cY a0 a0_a a0_image a0_texts a0_board a0_taken a0_fars a0_before a0_tape a0_pile a0_rows a0_told a0_values a0_truth a0_keeps u) (va_A (WS_X12_four cI cJ cZ cY a0 a0_a a0_image a0_texts a0_board a0_taken a0_fars a0_before a0_tape a0_pile a0_rows a0_told a0_values a0_truth a0_keeps v0) sz)) (va_A (WS_X12_four cI cJ cZ cY a0 a0_a a0_image a0_texts a0_board a0_taken a0_fars a0_before a0_tape a0_pile a0_rows a0_told a0_values a0_truth a0_keeps v0) sz)) 0 0 (va_A (WS_X12_four cI cJ cZ cY a0 a0_a a0_image a0_texts a0_board a0_taken a0_fars a0_before a0_tape a0_pile a0_rows a0_told a0_values a0_truth a0_keeps v0) sz) := by
  refine Met.ofW (cc := cX12_four) (maxL := 3) (ret := none) (by decide) rfl ?_
  intro p e s m args below meth c s₁ B hml hv
  obtain ⟨hargs, hsz, hP, hK, hD0, hT⟩ := hv
  have hx := B.exec
  have hb := B.bytes
  have hr := B.returns
  have htb : ∀ w ∈ TB, w.before args s = true := fun w h => atoms_spec (ws := Cond.code yX12_four cX12_four 3 none :: TB) B.pre w (List.mem_cons_of_mem _ h)
  have hown : s.vm.findClass "ManyEyesModel" = some m.cls := findClass_of_methodNamed B.named
  have hlocks := B.notSynchronized
  subst hsz
  have hD := hD0.self (sz := s.heap.size)
  generalize hAe : va_A (WS_X12_four cI cJ cZ cY a0 a0_a a0_image a0_texts a0_board a0_taken a0_fars a0_before a0_tape a0_pile a0_rows a0_told a0_values a0_truth a0_keeps v0) s.heap.size = A at hD hT ⊢
  have hA : ∀ q : Nat, s.heap.size ≤ q → A q := fun q h => by rw [← hAe]; exact Or.inr h
  have hS : va_S A s.heap s.heap [] := va_S.rf
  have hl := lv_entry ([.ref a0, .int p0]) (n := 3) (Nat.le_of_ble_eq_true rfl)
  have he : entryFrame m args 3 = F0 m 0 (lg_sl ([.ref a0, .int p0]) ++ List.replicate (3 - (lg_sl ([.ref a0, .int p0])).length) Slot.unset).toArray [] := by rw [hargs, lg_entry_eq]
  rw [he]
  generalize (lg_sl ([.ref a0, .int p0]) ++ List.replicate (3 - (lg_sl ([.ref a0, .int p0])).length) Slot.unset).toArray = ls at hl ⊢
  have hl : lv_has ls 3 [(0, .ref a0), (1, .int p0)] := hl
  show W p l e rm_X12_four s m args below meth c s.heap [] 0 0 _ _
  refine W.genQ (fun Q hQ => ?_)
  have b_3 : ∀ (n : Nat), ∀ (x1 : Int32) (x2 : Int32) (v0 : BX12) (H : Heap) (locs : List Loc) (ls : Array Slot), va_P D vwCl (WS_X12_four cI cJ cZ cY a0 a0_a a0_image a0_texts a0_board a0_taken a0_fars a0_before a0_tape a0_pile a0_rows a0_told a0_values a0_truth a0_keeps v0) H → va_D A (WS_X12_four cI cJ cZ cY a0 a0_a a0_image a0_texts a0_board a0_taken a0_fars a0_before a0_tape a0_pile a0_rows a0_told a0_values a0_truth a0_keeps v0) → va_S A s.heap H locs → lv_has ls 3 [(0, .ref a0), (1, .int x1), (2, .int x2)] → f_X12_four_b3 n (x1, x2, v0) = some res → W p l e rm_X12_four s m args below meth c H locs 0 0 Q (F0 m 3 ls []) := by
    intro n
    induction n with
    | zero =>
      intro x1 x2 v0 H locs ls hP hD hS hl hg
      exact (g_lp0 hg).elim
    | succ n ih =>
      intro x1 x2 v0 H locs ls hP hD hS hl hg
      have hg : f_X12_four_b3B (f_X12_four_b3 n) x1 x2 v0 = some res := hg
      unfold f_X12_four_b3B at hg
      refine lv_iload_n hx hb dX12_four_3 rfl (lv_at hl 2 rfl) ?_
      refine lv_if_lt (tgt := 39) hx hb dX12_four_4 (by decide) (fun c_1 => ?_) (fun c_1 => ?_)
      · have hg := g_it hg c_1
        have hg := Option.some.inj hg
        rw [hQ]
        exact W.vret hx hb hr (fun t ht hW => ⟨⟨(v0), rfl, hg, by rw [ht]; exact hP, hD⟩, hS.F ht⟩) hS.2.2 dX12_four_39
      · have hg := g_if hg c_1
        refine lv_aload_n hx hb dX12_four_7 rfl (lv_at hl 0 rfl) ?_
        refine va_get (ci := 11) (v := .ref a0_tape) (C := RX12) (T := TX12) (N := 43) hx hb htb uX12 hown hK.1 hP 0 rfl rfl 9 (by decide) (htb _ tg_945) (fun _ h9 => h9) rfl dX12_four_8 ?_
        refine lv_aload_n hx hb dX12_four_11 rfl (lv_at hl 0 rfl) ?_
        refine va_get (ci := 11) (v := .int (pX12_taped v0)) (C := RX12) (T := TX12) (N := 43) hx hb htb uX12 hown hK.1 hP 0 rfl rfl 10 (by decide) (htb _ tg_946) (fun _ h9 => h9) rfl dX12_four_12 ?_
        refine lv_iload_n hx hb dX12_four_15 rfl (lv_at hl 1 rfl) ?_
        refine lv_iload_n hx hb dX12_four_16 rfl (lv_at hl 2 rfl) ?_
        refine lv_ishr hx hb dX12_four_17 ?_
        refine lv_sipush (v := 255) hx hb dX12_four_18 (by decide) ?_
        refine lv_iand hx hb dX12_four_21 ?_
        refine lv_topi (fun x_2 ex_2 => ?_)
        have hg := g_lte hg x_2 ex_2
        obtain ⟨h_3, hg⟩ := g_gde hg
        refine va_iast hx hb hK.1 hP hD hS 8 0 rfl rfl (inB_vp h_3) dX12_four_22 (fun H locs hP hD hS => ?_)
        obtain ⟨v0_4, ev0_4⟩ : ∃ z, z = sX12_tape v0 (upd (pX12_tape v0) ((pX12_taped v0) : Int32).toNatClampNeg x_2) := ⟨_, rfl⟩
        have hP : va_P D vwCl (WS_X12_four cI cJ cZ cY a0 a0_a a0_image a0_texts a0_board a0_taken a0_fars a0_before a0_tape a0_pile a0_rows a0_told a0_values a0_truth a0_keeps v0_4) H := by rw [ev0_4]; exact hP
        have hD : va_D A (WS_X12_four cI cJ cZ cY a0 a0_a a0_image a0_texts a0_board a0_taken a0_fars a0_before a0_tape a0_pile a0_rows a0_told a0_values a0_truth a0_keeps v0_4) := by rw [ev0_4]; exact hD
        have hg := g_lte hg v0_4 ev0_4
        refine lv_aload_n hx hb dX12_four_23 rfl (lv_at hl 0 rfl) ?_
        refine lv_dup hx hb dX12_four_24 rfl ?_
        refine va_get (ci := 11) (v := .int (pX12_taped v0_4)) (C := RX12) (T := TX12) (N := 43) hx hb htb uX12 hown hK.1 hP 0 rfl rfl 10 (by decide) (htb _ tg_946) (fun _ h9 => h9) rfl dX12_four_25 ?_
        refine lv_iconst (v := 1) hx hb dX12_four_28 (by decide) ?_
        refine lv_iadd hx hb dX12_four_29 ?_
        refine lv_topi (fun x_5 ex_5 => ?_)
        have hg := g_lte hg x_5 ex_5
        refine va_put (ci := 11) (v := .int x_5) (ty := .int) (C := RX12) (T := TX12) (N := 43) hx hb htb uX12 tyX12 tyX12_ok nmX12 hown hK.1 hP hD hS 0 rfl rfl 10 (by decide) (htb _ tg_946) (fun _ h9 => h9) rfl (by decide +kernel) rfl rfl (Nat.le_of_ble_eq_true rfl) dX12_four_30 (fun H locs hP hD hS => ?_)
        obtain ⟨v0_6, ev0_6⟩ : ∃ z, z = sX12_taped v0_4 x_5 := ⟨_, rfl⟩
        have hP : va_P D vwCl (WS_X12_four cI cJ cZ cY a0 a0_a a0_image a0_texts a0_board a0_taken a0_fars a0_before a0_tape a0_pile a0_rows a0_told a0_values a0_truth a0_keeps v0_6) H := by rw [ev0_6]; exact hP
        have hD : va_D A (WS_X12_four cI cJ cZ cY a0 a0_a a0_image a0_texts a0_board a0_taken a0_fars a0_before a0_tape a0_pile a0_rows a0_told a0_values a0_truth a0_keeps v0_6) := by rw [ev0_6]; exact hD
        have hg := g_lte hg v0_6 ev0_6
        obtain ⟨x2_7, ex2_7⟩ : ∃ z : Int32, z = x2 + (-8) := ⟨_, rfl⟩
        have hg := g_lte hg x2_7 ex2_7
        refine lv_iinc (v := x2_7) (lv' := [(2, .int x2_7), (0, .ref a0), (1, .int x1)]) hx hb dX12_four_33 hl (k := 2) rfl (by rw [ex2_7]; rfl) (by decide) rfl (fun ls hl => ?_)
        refine lv_goto (tgt := 3) hx hb dX12_four_36 (by decide) ?_
        exact ih x1 x2_7 v0_6 H locs ls hP hD hS (lv_sub hl [1, 2, 0] rfl) hg
  generalize hHe : s.heap = H at hP ⊢
  have hS : va_S A s.heap H [] := by rw [← hHe]; exact va_S.rf
  generalize ([] : List Loc) = locs at hS ⊢
  unfold f_X12_four at hg
  refine lv_bipush (v := 24) hx hb dX12_four_0 (by decide) ?_
  refine lv_istore_n (lv' := [(2, .int 24), (0, .ref a0), (1, .int p0)]) hx hb dX12_four_2 rfl hl (by decide) rfl (fun ls hl => ?_)
  exact b_3 fU p0 24 v0 H locs ls hP hD hS (lv_sub hl [1, 2, 0] rfl) hg

/-! ManyEyesModel.feed(IIIII)I -/
def WS_X12_feed (cI cJ cZ cY : ClassId) (a0 a0_a a0_image a0_texts a0_board a0_taken a0_fars a0_before a0_tape a0_pile a0_rows a0_told a0_values a0_truth a0_keeps : Nat) (v0 : BX12) : va_W := (GX12 cI cJ cZ cY a0 a0_a a0_image a0_texts a0_board a0_taken a0_fars a0_before a0_tape a0_pile a0_rows a0_told a0_values a0_truth a0_keeps v0)
def f_X12_feed (v0 : BX12) (p0 : Int32) (p1 : Int32) (p2 : Int32) (p3 : Int32) (p4 : Int32) : Option (Int32 × BX12) := if (((pX12_taped v0) + 20) : Int32) ≤ 300 then ((f_X12_four v0 p0).bind (fun r_2 => (f_X12_four r_2 p1).bind (fun r_3 => (f_X12_four r_3 p2).bind (fun r_4 => (f_X12_four r_4 p3).bind (fun r_5 => (f_X12_four r_5 p4).bind (fun r_6 => some ((pX12_taped r_6), r_6))))))) else (some ((-1), v0))
abbrev rm_X12_feed : Room := { frames := 1, cells := 0, slots := 0, locals := 22 }
set_option maxHeartbeats 4000000 in
set_option maxRecDepth 100000 in
theorem k_X12_feed {l : Launch} {D : va_G} {cI cJ cZ cY : ClassId} {tX tY : Nat} {sz : Nat} (a0 a0_a a0_image a0_texts a0_board a0_taken a0_fars a0_before a0_tape a0_pile a0_rows a0_told a0_values a0_truth a0_keeps : Nat) (v0 : BX12) (p0 : Int32) (p1 : Int32) (p2 : Int32) (p3 : Int32) (p4 : Int32) (res : Int32 × BX12) (hg : f_X12_feed v0 p0 p1 p2 p3 p4 = some res) : Met l yX12_feed (Cond.code yX12_feed cX12_feed 6 (some .int) :: TB) rm_X12_feed (PC D cI cJ cZ cY tX tY [.ref a0, .int p0, .int p1, .int p2, .int p3, .int p4] (WS_X12_feed cI cJ cZ cY a0 a0_a a0_image a0_texts a0_board a0_taken a0_fars a0_before a0_tape a0_pile a0_rows a0_told a0_values a0_truth a0_keeps v0) sz) (va_Qi (fun (r : Int32) (u : BX12) => r = res.1 ∧ u = res.2) (BC D (fun u : BX12 => WS_X12_feed cI cJ cZ cY a0 a0_a a0_image a0_texts a0_board a0_taken a0_fars a0_before a0_tape a0_pile a0_rows a0_told a0_values a0_truth a0_keeps u) (va_A (WS_X12_feed cI cJ cZ cY a0 a0_a a0_image a0_texts a0_board a0_taken a0_fars a0_before a0_tape a0_pile a0_rows a0_told a0_values a0_truth a0_keeps v0) sz)) (va_A (WS_X12_feed cI cJ cZ cY a0 a0_a a0_image a0_texts a0_board a0_taken a0_fars a0_before a0_tape a0_pile a0_rows a0_told a0_values a0_truth a0_keeps v0) sz)) 0 0 (va_A (WS_X12_feed cI cJ cZ cY a0 a0_a a0_image a0_texts a0_board a0_taken a0_fars a0_before a0_tape a0_pile a0_rows a0_told a0_values a0_truth a0_keeps v0) sz) := by
  refine Met.ofW (cc := cX12_feed) (maxL := 6) (ret := (some .int)) (by decide) rfl ?_
  intro p e s m args below meth c s₁ B hml hv
  obtain ⟨hargs, hsz, hP, hK, hD0, hT⟩ := hv
  have hx := B.exec
  have hb := B.bytes
  have hr := B.returns
  have htb : ∀ w ∈ TB, w.before args s = true := fun w h => atoms_spec (ws := Cond.code yX12_feed cX12_feed 6 (some .int) :: TB) B.pre w (List.mem_cons_of_mem _ h)
  have hown : s.vm.findClass "ManyEyesModel" = some m.cls := findClass_of_methodNamed B.named
  have hlocks := B.notSynchronized
  subst hsz
  have hD := hD0.self (sz := s.heap.size)
  generalize hAe : va_A (WS_X12_feed cI cJ cZ cY a0 a0_a a0_image a0_texts a0_board a0_taken a0_fars a0_before a0_tape a0_pile a0_rows a0_told a0_values a0_truth a0_keeps v0) s.heap.size = A at hD hT ⊢
  have hA : ∀ q : Nat, s.heap.size ≤ q → A q := fun q h => by rw [← hAe]; exact Or.inr h
  have hS : va_S A s.heap s.heap [] := va_S.rf
  have hl := lv_entry ([.ref a0, .int p0, .int p1, .int p2, .int p3, .int p4]) (n := 6) (Nat.le_of_ble_eq_true rfl)
  have he : entryFrame m args 6 = F0 m 0 (lg_sl ([.ref a0, .int p0, .int p1, .int p2, .int p3, .int p4]) ++ List.replicate (6 - (lg_sl ([.ref a0, .int p0, .int p1, .int p2, .int p3, .int p4])).length) Slot.unset).toArray [] := by rw [hargs, lg_entry_eq]
  rw [he]
  generalize (lg_sl ([.ref a0, .int p0, .int p1, .int p2, .int p3, .int p4]) ++ List.replicate (6 - (lg_sl ([.ref a0, .int p0, .int p1, .int p2, .int p3, .int p4])).length) Slot.unset).toArray = ls at hl ⊢
  have hl : lv_has ls 6 [(0, .ref a0), (1, .int p0), (2, .int p1), (3, .int p2), (4, .int p3), (5, .int p4)] := hl
  show W p l e rm_X12_feed s m args below meth c s.heap [] 0 0 _ _
  refine W.genQ (fun Q hQ => ?_)
  generalize hHe : s.heap = H at hP ⊢
  have hS : va_S A s.heap H [] := by rw [← hHe]; exact va_S.rf
  generalize ([] : List Loc) = locs at hS ⊢
  unfold f_X12_feed at hg
  refine lv_aload_n hx hb dX12_feed_0 rfl (lv_at hl 0 rfl) ?_
  refine va_get (ci := 11) (v := .int (pX12_taped v0)) (C := RX12) (T := TX12) (N := 43) hx hb htb uX12 hown hK.1 hP 0 rfl rfl 10 (by decide) (htb _ tg_946) (fun _ h9 => h9) rfl dX12_feed_1 ?_
  refine lv_bipush (v := 20) hx hb dX12_feed_4 (by decide) ?_
  refine lv_iadd hx hb dX12_feed_6 ?_
  refine lv_sipush (v := 300) hx hb dX12_feed_7 (by decide) ?_
  refine lv_icmp_le (tgt := 15) hx hb dX12_feed_10 (by decide) (fun c_1 => ?_) (fun c_1 => ?_)
  · have hg := g_it hg c_1
    refine lv_aload_n hx hb dX12_feed_15 rfl (lv_at hl 0 rfl) ?_
    refine lv_iload_n hx hb dX12_feed_16 rfl (lv_at hl 1 rfl) ?_
    obtain ⟨r_2, hr_2, hg⟩ := g_bd hg
    refine cc_v (va_runV (C := RX12) (As := [.int p0]) (rest := []) ⟨hx, hb, hml, hown, htb⟩ (k_X12_four a0 a0_a a0_image a0_texts a0_board a0_taken a0_fars a0_before a0_tape a0_pile a0_rows a0_told a0_values a0_truth a0_keeps v0 p0 r_2 hr_2) (cw_V 1 htb tg_1188 tg_13 tg_1185 tg_1187 ts_40 rfl rfl (by decide +kernel) ⟨Nat.le_of_ble_eq_true rfl, Nat.le_of_ble_eq_true rfl⟩) ⟨PC.blind, va_recv hK.1 hP (ci := 11) (q0 := 0) rfl rfl, PC.pre hK hT hP hD hS hA [0, 1, 2, 3, 4, 5, 6, 7, 8, 9, 10, 11, 12, 13, 14] rfl (by decide)⟩ rfl rfl hl.1 rfl (lv_room (Nat.le_of_ble_eq_true rfl)) dX12_feed_17 ⟨Nat.le_of_ble_eq_true rfl, Nat.le_of_ble_eq_true rfl⟩) hP hD hS hA [0, 1, 2, 3, 4, 5, 6, 7, 8, 9, 10, 11, 12, 13, 14] [] rfl rfl (by decide) (by decide) (fun u9 H locs hw hP hD hS => ?_)
    have hw := hw.symm
    subst hw
    have hP : va_P D vwCl (WS_X12_feed cI cJ cZ cY a0 a0_a a0_image a0_texts a0_board a0_taken a0_fars a0_before a0_tape a0_pile a0_rows a0_told a0_values a0_truth a0_keeps r_2) H := hP.sub [0, 1, 2, 3, 4, 5, 6, 7, 8, 9, 10, 11, 12, 13, 14] rfl
    have hD : va_D A (WS_X12_feed cI cJ cZ cY a0 a0_a a0_image a0_texts a0_board a0_taken a0_fars a0_before a0_tape a0_pile a0_rows a0_told a0_values a0_truth a0_keeps r_2) := hD.sub [0, 1, 2, 3, 4, 5, 6, 7, 8, 9, 10, 11, 12, 13, 14] (by decide) rfl
    refine lv_aload_n hx hb dX12_feed_20 rfl (lv_at hl 0 rfl) ?_
    refine lv_iload_n hx hb dX12_feed_21 rfl (lv_at hl 2 rfl) ?_
    obtain ⟨r_3, hr_3, hg⟩ := g_bd hg
    refine cc_v (va_runV (C := RX12) (As := [.int p1]) (rest := []) ⟨hx, hb, hml, hown, htb⟩ (k_X12_four a0 a0_a a0_image a0_texts a0_board a0_taken a0_fars a0_before a0_tape a0_pile a0_rows a0_told a0_values a0_truth a0_keeps r_2 p1 r_3 hr_3) (cw_V 1 htb tg_1188 tg_13 tg_1185 tg_1187 ts_40 rfl rfl (by decide +kernel) ⟨Nat.le_of_ble_eq_true rfl, Nat.le_of_ble_eq_true rfl⟩) ⟨PC.blind, va_recv hK.1 hP (ci := 11) (q0 := 0) rfl rfl, PC.pre hK hT hP hD hS hA [0, 1, 2, 3, 4, 5, 6, 7, 8, 9, 10, 11, 12, 13, 14] rfl (by decide)⟩ rfl rfl hl.1 rfl (lv_room (Nat.le_of_ble_eq_true rfl)) dX12_feed_22 ⟨Nat.le_of_ble_eq_true rfl, Nat.le_of_ble_eq_true rfl⟩) hP hD hS hA [0, 1, 2, 3, 4, 5, 6, 7, 8, 9, 10, 11, 12, 13, 14] [] rfl rfl (by decide) (by decide) (fun u9 H locs hw hP hD hS => ?_)
    have hw := hw.symm
    subst hw
    have hP : va_P D vwCl (WS_X12_feed cI cJ cZ cY a0 a0_a a0_image a0_texts a0_board a0_taken a0_fars a0_before a0_tape a0_pile a0_rows a0_told a0_values a0_truth a0_keeps r_3) H := hP.sub [0, 1, 2, 3, 4, 5, 6, 7, 8, 9, 10, 11, 12, 13, 14] rfl
    have hD : va_D A (WS_X12_feed cI cJ cZ cY a0 a0_a a0_image a0_texts a0_board a0_taken a0_fars a0_before a0_tape a0_pile a0_rows a0_told a0_values a0_truth a0_keeps r_3) := hD.sub [0, 1, 2, 3, 4, 5, 6, 7, 8, 9, 10, 11, 12, 13, 14] (by decide) rfl
    refine lv_aload_n hx hb dX12_feed_25 rfl (lv_at hl 0 rfl) ?_
    refine lv_iload_n hx hb dX12_feed_26 rfl (lv_at hl 3 rfl) ?_
    obtain ⟨r_4, hr_4, hg⟩ := g_bd hg
    refine cc_v (va_runV (C := RX12) (As := [.int p2]) (rest := []) ⟨hx, hb, hml, hown, htb⟩ (k_X12_four a0 a0_a a0_image a0_texts a0_board a0_taken a0_fars a0_before a0_tape a0_pile a0_rows a0_told a0_values a0_truth a0_keeps r_3 p2 r_4 hr_4) (cw_V 1 htb tg_1188 tg_13 tg_1185 tg_1187 ts_40 rfl rfl (by decide +kernel) ⟨Nat.le_of_ble_eq_true rfl, Nat.le_of_ble_eq_true rfl⟩) ⟨PC.blind, va_recv hK.1 hP (ci := 11) (q0 := 0) rfl rfl, PC.pre hK hT hP hD hS hA [0, 1, 2, 3, 4, 5, 6, 7, 8, 9, 10, 11, 12, 13, 14] rfl (by decide)⟩ rfl rfl hl.1 rfl (lv_room (Nat.le_of_ble_eq_true rfl)) dX12_feed_27 ⟨Nat.le_of_ble_eq_true rfl, Nat.le_of_ble_eq_true rfl⟩) hP hD hS hA [0, 1, 2, 3, 4, 5, 6, 7, 8, 9, 10, 11, 12, 13, 14] [] rfl rfl (by decide) (by decide) (fun u9 H locs hw hP hD hS => ?_)
    have hw := hw.symm
    subst hw
    have hP : va_P D vwCl (WS_X12_feed cI cJ cZ cY a0 a0_a a0_image a0_texts a0_board a0_taken a0_fars a0_before a0_tape a0_pile a0_rows a0_told a0_values a0_truth a0_keeps r_4) H := hP.sub [0, 1, 2, 3, 4, 5, 6, 7, 8, 9, 10, 11, 12, 13, 14] rfl
    have hD : va_D A (WS_X12_feed cI cJ cZ cY a0 a0_a a0_image a0_texts a0_board a0_taken a0_fars a0_before a0_tape a0_pile a0_rows a0_told a0_values a0_truth a0_keeps r_4) := hD.sub [0, 1, 2, 3, 4, 5, 6, 7, 8, 9, 10, 11, 12, 13, 14] (by decide) rfl
    refine lv_aload_n hx hb dX12_feed_30 rfl (lv_at hl 0 rfl) ?_
    refine lv_iload hx hb dX12_feed_31 (lv_at hl 4 rfl) ?_
    obtain ⟨r_5, hr_5, hg⟩ := g_bd hg
    refine cc_v (va_runV (C := RX12) (As := [.int p3]) (rest := []) ⟨hx, hb, hml, hown, htb⟩ (k_X12_four a0 a0_a a0_image a0_texts a0_board a0_taken a0_fars a0_before a0_tape a0_pile a0_rows a0_told a0_values a0_truth a0_keeps r_4 p3 r_5 hr_5) (cw_V 1 htb tg_1188 tg_13 tg_1185 tg_1187 ts_40 rfl rfl (by decide +kernel) ⟨Nat.le_of_ble_eq_true rfl, Nat.le_of_ble_eq_true rfl⟩) ⟨PC.blind, va_recv hK.1 hP (ci := 11) (q0 := 0) rfl rfl, PC.pre hK hT hP hD hS hA [0, 1, 2, 3, 4, 5, 6, 7, 8, 9, 10, 11, 12, 13, 14] rfl (by decide)⟩ rfl rfl hl.1 rfl (lv_room (Nat.le_of_ble_eq_true rfl)) dX12_feed_33 ⟨Nat.le_of_ble_eq_true rfl, Nat.le_of_ble_eq_true rfl⟩) hP hD hS hA [0, 1, 2, 3, 4, 5, 6, 7, 8, 9, 10, 11, 12, 13, 14] [] rfl rfl (by decide) (by decide) (fun u9 H locs hw hP hD hS => ?_)
    have hw := hw.symm
    subst hw
    have hP : va_P D vwCl (WS_X12_feed cI cJ cZ cY a0 a0_a a0_image a0_texts a0_board a0_taken a0_fars a0_before a0_tape a0_pile a0_rows a0_told a0_values a0_truth a0_keeps r_5) H := hP.sub [0, 1, 2, 3, 4, 5, 6, 7, 8, 9, 10, 11, 12, 13, 14] rfl
    have hD : va_D A (WS_X12_feed cI cJ cZ cY a0 a0_a a0_image a0_texts a0_board a0_taken a0_fars a0_before a0_tape a0_pile a0_rows a0_told a0_values a0_truth a0_keeps r_5) := hD.sub [0, 1, 2, 3, 4, 5, 6, 7, 8, 9, 10, 11, 12, 13, 14] (by decide) rfl
    refine lv_aload_n hx hb dX12_feed_36 rfl (lv_at hl 0 rfl) ?_
    refine lv_iload hx hb dX12_feed_37 (lv_at hl 5 rfl) ?_
    obtain ⟨r_6, hr_6, hg⟩ := g_bd hg
    refine cc_v (va_runV (C := RX12) (As := [.int p4]) (rest := []) ⟨hx, hb, hml, hown, htb⟩ (k_X12_four a0 a0_a a0_image a0_texts a0_board a0_taken a0_fars a0_before a0_tape a0_pile a0_rows a0_told a0_values a0_truth a0_keeps r_5 p4 r_6 hr_6) (cw_V 1 htb tg_1188 tg_13 tg_1185 tg_1187 ts_40 rfl rfl (by decide +kernel) ⟨Nat.le_of_ble_eq_true rfl, Nat.le_of_ble_eq_true rfl⟩) ⟨PC.blind, va_recv hK.1 hP (ci := 11) (q0 := 0) rfl rfl, PC.pre hK hT hP hD hS hA [0, 1, 2, 3, 4, 5, 6, 7, 8, 9, 10, 11, 12, 13, 14] rfl (by decide)⟩ rfl rfl hl.1 rfl (lv_room (Nat.le_of_ble_eq_true rfl)) dX12_feed_39 ⟨Nat.le_of_ble_eq_true rfl, Nat.le_of_ble_eq_true rfl⟩) hP hD hS hA [0, 1, 2, 3, 4, 5, 6, 7, 8, 9, 10, 11, 12, 13, 14] [] rfl rfl (by decide) (by decide) (fun u9 H locs hw hP hD hS => ?_)
    have hw := hw.symm
    subst hw
    have hP : va_P D vwCl (WS_X12_feed cI cJ cZ cY a0 a0_a a0_image a0_texts a0_board a0_taken a0_fars a0_before a0_tape a0_pile a0_rows a0_told a0_values a0_truth a0_keeps r_6) H := hP.sub [0, 1, 2, 3, 4, 5, 6, 7, 8, 9, 10, 11, 12, 13, 14] rfl
    have hD : va_D A (WS_X12_feed cI cJ cZ cY a0 a0_a a0_image a0_texts a0_board a0_taken a0_fars a0_before a0_tape a0_pile a0_rows a0_told a0_values a0_truth a0_keeps r_6) := hD.sub [0, 1, 2, 3, 4, 5, 6, 7, 8, 9, 10, 11, 12, 13, 14] (by decide) rfl
    refine lv_aload_n hx hb dX12_feed_42 rfl (lv_at hl 0 rfl) ?_
    refine va_get (ci := 11) (v := .int (pX12_taped r_6)) (C := RX12) (T := TX12) (N := 43) hx hb htb uX12 hown hK.1 hP 0 rfl rfl 10 (by decide) (htb _ tg_946) (fun _ h9 => h9) rfl dX12_feed_43 ?_
    have hg := Option.some.inj hg
    rw [hQ]
    exact W.iret (v := (pX12_taped r_6)) hx hb hr (fun t ht hW => ⟨⟨(pX12_taped r_6), (r_6), rfl, ⟨by rw [← hg], by rw [← hg]⟩, by rw [ht]; exact hP, hD⟩, hS.F ht⟩) hS.2.2 dX12_feed_46
  · have hg := g_if hg c_1
    refine lv_iconst (v := (-1)) hx hb dX12_feed_13 (by decide) ?_
    have hg := Option.some.inj hg
    rw [hQ]
    exact W.iret (v := (-1)) hx hb hr (fun t ht hW => ⟨⟨(-1), (v0), rfl, ⟨by rw [← hg], by rw [← hg]⟩, by rw [ht]; exact hP, hD⟩, hS.F ht⟩) hS.2.2 dX12_feed_14

/-! ManyEyesModel.end(I)I -/
def WS_X12_end (cI cJ cZ cY : ClassId) (a0 a0_a a0_image a0_texts a0_board a0_taken a0_fars a0_before a0_tape a0_pile a0_rows a0_told a0_values a0_truth a0_keeps : Nat) (v0 : BX12) : va_W := (GX12 cI cJ cZ cY a0 a0_a a0_image a0_texts a0_board a0_taken a0_fars a0_before a0_tape a0_pile a0_rows a0_told a0_values a0_truth a0_keeps v0)
def f_X12_end (v0 : BX12) (p0 : Int32) : Option (Int32 × BX12) := (f_X12_isIn p0 0 (pX12_taped v0)).bind (fun r_1 => if (r_1 : Int32) = 0 then (some ((-1), v0)) else (g_lt (sX12_taped v0 p0) (fun v0_3 => some (p0, v0_3))))
abbrev rm_X12_end : Room := { frames := 1, cells := 0, slots := 0, locals := 22 }
set_option maxHeartbeats 4000000 in
set_option maxRecDepth 100000 in
theorem k_X12_end {l : Launch} {D : va_G} {cI cJ cZ cY : ClassId} {tX tY : Nat} {sz : Nat} (a0 a0_a a0_image a0_texts a0_board a0_taken a0_fars a0_before a0_tape a0_pile a0_rows a0_told a0_values a0_truth a0_keeps : Nat) (v0 : BX12) (p0 : Int32) (res : Int32 × BX12) (hg : f_X12_end v0 p0 = some res) : Met l yX12_end (Cond.code yX12_end cX12_end 2 (some .int) :: TB) rm_X12_end (PC D cI cJ cZ cY tX tY [.ref a0, .int p0] (WS_X12_end cI cJ cZ cY a0 a0_a a0_image a0_texts a0_board a0_taken a0_fars a0_before a0_tape a0_pile a0_rows a0_told a0_values a0_truth a0_keeps v0) sz) (va_Qi (fun (r : Int32) (u : BX12) => r = res.1 ∧ u = res.2) (BC D (fun u : BX12 => WS_X12_end cI cJ cZ cY a0 a0_a a0_image a0_texts a0_board a0_taken a0_fars a0_before a0_tape a0_pile a0_rows a0_told a0_values a0_truth a0_keeps u) (va_A (WS_X12_end cI cJ cZ cY a0 a0_a a0_image a0_texts a0_board a0_taken a0_fars a0_before a0_tape a0_pile a0_rows a0_told a0_values a0_truth a0_keeps v0) sz)) (va_A (WS_X12_end cI cJ cZ cY a0 a0_a a0_image a0_texts a0_board a0_taken a0_fars a0_before a0_tape a0_pile a0_rows a0_told a0_values a0_truth a0_keeps v0) sz)) 0 0 (va_A (WS_X12_end cI cJ cZ cY a0 a0_a a0_image a0_texts a0_board a0_taken a0_fars a0_before a0_tape a0_pile a0_rows a0_told a0_values a0_truth a0_keeps v0) sz) := by
  refine Met.ofW (cc := cX12_end) (maxL := 2) (ret := (some .int)) (by decide) rfl ?_
  intro p e s m args below meth c s₁ B hml hv
  obtain ⟨hargs, hsz, hP, hK, hD0, hT⟩ := hv
  have hx := B.exec
  have hb := B.bytes
  have hr := B.returns
  have htb : ∀ w ∈ TB, w.before args s = true := fun w h => atoms_spec (ws := Cond.code yX12_end cX12_end 2 (some .int) :: TB) B.pre w (List.mem_cons_of_mem _ h)
  have hown : s.vm.findClass "ManyEyesModel" = some m.cls := findClass_of_methodNamed B.named
  have hlocks := B.notSynchronized
  subst hsz
  have hD := hD0.self (sz := s.heap.size)
  generalize hAe : va_A (WS_X12_end cI cJ cZ cY a0 a0_a a0_image a0_texts a0_board a0_taken a0_fars a0_before a0_tape a0_pile a0_rows a0_told a0_values a0_truth a0_keeps v0) s.heap.size = A at hD hT ⊢
  have hA : ∀ q : Nat, s.heap.size ≤ q → A q := fun q h => by rw [← hAe]; exact Or.inr h
  have hS : va_S A s.heap s.heap [] := va_S.rf
  have hl := lv_entry ([.ref a0, .int p0]) (n := 2) (Nat.le_of_ble_eq_true rfl)
  have he : entryFrame m args 2 = F0 m 0 (lg_sl ([.ref a0, .int p0]) ++ List.replicate (2 - (lg_sl ([.ref a0, .int p0])).length) Slot.unset).toArray [] := by rw [hargs, lg_entry_eq]
  rw [he]
  generalize (lg_sl ([.ref a0, .int p0]) ++ List.replicate (2 - (lg_sl ([.ref a0, .int p0])).length) Slot.unset).toArray = ls at hl ⊢
  have hl : lv_has ls 2 [(0, .ref a0), (1, .int p0)] := hl
  show W p l e rm_X12_end s m args below meth c s.heap [] 0 0 _ _
  refine W.genQ (fun Q hQ => ?_)
  generalize hHe : s.heap = H at hP ⊢
  have hS : va_S A s.heap H [] := by rw [← hHe]; exact va_S.rf
  generalize ([] : List Loc) = locs at hS ⊢
  unfold f_X12_end at hg
  refine lv_iload_n hx hb dX12_end_0 rfl (lv_at hl 1 rfl) ?_
  refine lv_iconst (v := 0) hx hb dX12_end_1 (by decide) ?_
  refine lv_aload_n hx hb dX12_end_2 rfl (lv_at hl 0 rfl) ?_
  refine va_get (ci := 11) (v := .int (pX12_taped v0)) (C := RX12) (T := TX12) (N := 43) hx hb htb uX12 hown hK.1 hP 0 rfl rfl 10 (by decide) (htb _ tg_946) (fun _ h9 => h9) rfl dX12_end_3 ?_
  obtain ⟨r_1, hr_1, hg⟩ := g_bd hg
  refine cc_i (va_runS (As := [.int p0, .int 0, .int (pX12_taped v0)]) (rest := []) ⟨hx, hb, hml, hown, htb⟩ (k_X12_isIn p0 0 (pX12_taped v0) r_1 hr_1) (cw_S 3 htb tg_1078 tg_13 tg_1076 tg_1077 rfl rfl (by decide +kernel) ⟨Nat.le_of_ble_eq_true rfl, Nat.le_of_ble_eq_true rfl⟩) ⟨PC.blind, PC.pre hK hT hP hD hS hA [] rfl (by decide)⟩ rfl rfl hl.1 rfl (lv_room (Nat.le_of_ble_eq_true rfl)) dX12_end_6 ⟨Nat.le_of_ble_eq_true rfl, Nat.le_of_ble_eq_true rfl⟩) hP hD hS hA [] [0, 1, 2, 3, 4, 5, 6, 7, 8, 9, 10, 11, 12, 13, 14] rfl rfl (by decide) (by decide) (fun r9 u9 H locs hw hP hD hS => ?_)
  have hw := hw.symm
  subst hw
  have hP : va_P D vwCl (WS_X12_end cI cJ cZ cY a0 a0_a a0_image a0_texts a0_board a0_taken a0_fars a0_before a0_tape a0_pile a0_rows a0_told a0_values a0_truth a0_keeps v0) H := hP.sub [0, 1, 2, 3, 4, 5, 6, 7, 8, 9, 10, 11, 12, 13, 14] rfl
  have hD : va_D A (WS_X12_end cI cJ cZ cY a0 a0_a a0_image a0_texts a0_board a0_taken a0_fars a0_before a0_tape a0_pile a0_rows a0_told a0_values a0_truth a0_keeps v0) := hD.sub [0, 1, 2, 3, 4, 5, 6, 7, 8, 9, 10, 11, 12, 13, 14] (by decide) rfl
  refine lv_if_ne (tgt := 14) hx hb dX12_end_9 (by decide) (fun c_2 => ?_) (fun c_2 => ?_)
  · have hg := g_if hg c_2
    refine lv_aload_n hx hb dX12_end_14 rfl (lv_at hl 0 rfl) ?_
    refine lv_iload_n hx hb dX12_end_15 rfl (lv_at hl 1 rfl) ?_
    refine va_put (ci := 11) (v := .int p0) (ty := .int) (C := RX12) (T := TX12) (N := 43) hx hb htb uX12 tyX12 tyX12_ok nmX12 hown hK.1 hP hD hS 0 rfl rfl 10 (by decide) (htb _ tg_946) (fun _ h9 => h9) rfl (by decide +kernel) rfl rfl (Nat.le_of_ble_eq_true rfl) dX12_end_16 (fun H locs hP hD hS => ?_)
    obtain ⟨v0_3, ev0_3⟩ : ∃ z, z = sX12_taped v0 p0 := ⟨_, rfl⟩
    have hP : va_P D vwCl (WS_X12_end cI cJ cZ cY a0 a0_a a0_image a0_texts a0_board a0_taken a0_fars a0_before a0_tape a0_pile a0_rows a0_told a0_values a0_truth a0_keeps v0_3) H := by rw [ev0_3]; exact hP
    have hD : va_D A (WS_X12_end cI cJ cZ cY a0 a0_a a0_image a0_texts a0_board a0_taken a0_fars a0_before a0_tape a0_pile a0_rows a0_told a0_values a0_truth a0_keeps v0_3) := by rw [ev0_3]; exact hD
    have hg := g_lte hg v0_3 ev0_3
    refine lv_iload_n hx hb dX12_end_19 rfl (lv_at hl 1 rfl) ?_
    have hg := Option.some.inj hg
    rw [hQ]
    exact W.iret (v := p0) hx hb hr (fun t ht hW => ⟨⟨p0, (v0_3), rfl, ⟨by rw [← hg], by rw [← hg]⟩, by rw [ht]; exact hP, hD⟩, hS.F ht⟩) hS.2.2 dX12_end_20
  · have hg := g_it hg c_2
    refine lv_iconst (v := (-1)) hx hb dX12_end_12 (by decide) ?_
    have hg := Option.some.inj hg
    rw [hQ]
    exact W.iret (v := (-1)) hx hb hr (fun t ht hW => ⟨⟨(-1), (v0), rfl, ⟨by rw [← hg], by rw [← hg]⟩, by rw [ht]; exact hP, hD⟩, hS.F ht⟩) hS.2.2 dX12_end_13

/-! ManyEyesModel.see(I)I -/
def WS_X12_see (cI cJ cZ cY : ClassId) (a0 a0_a a0_image a0_texts a0_board a0_taken a0_fars a0_before a0_tape a0_pile a0_rows a0_told a0_values a0_truth a0_keeps : Nat) (v0 : BX12) : va_W := (GX12 cI cJ cZ cY a0 a0_a a0_image a0_texts a0_board a0_taken a0_fars a0_before a0_tape a0_pile a0_rows a0_told a0_values a0_truth a0_keeps v0)
def f_X12_see (v0 : BX12) (p0 : Int32) : Option (Int32) := if ((pX12_taped v0) : Int32) ≤ p0 then (some (-1)) else (g_gd (inB p0 300) (some ((pX12_tape v0) (p0 : Int32).toNatClampNeg)))
abbrev rm_X12_see : Room := { frames := 0, cells := 0, slots := 0, locals := 0 }
set_option maxHeartbeats 4000000 in
set_option maxRecDepth 100000 in
theorem k_X12_see {l : Launch} {D : va_G} {cI cJ cZ cY : ClassId} {tX tY : Nat} {sz : Nat} (a0 a0_a a0_image a0_texts a0_board a0_taken a0_fars a0_before a0_tape a0_pile a0_rows a0_told a0_values a0_truth a0_keeps : Nat) (v0 : BX12) (p0 : Int32) (res : Int32) (hg : f_X12_see v0 p0 = some res) : Met l yX12_see (Cond.code yX12_see cX12_see 2 (some .int) :: TB) rm_X12_see (PC D cI cJ cZ cY tX tY [.ref a0, .int p0] (WS_X12_see cI cJ cZ cY a0 a0_a a0_image a0_texts a0_board a0_taken a0_fars a0_before a0_tape a0_pile a0_rows a0_told a0_values a0_truth a0_keeps v0) sz) (va_Qi (fun (r : Int32) (_ : Unit) => r = res) (BC D (fun _ : Unit => WS_X12_see cI cJ cZ cY a0 a0_a a0_image a0_texts a0_board a0_taken a0_fars a0_before a0_tape a0_pile a0_rows a0_told a0_values a0_truth a0_keeps v0) (va_A (WS_X12_see cI cJ cZ cY a0 a0_a a0_image a0_texts a0_board a0_taken a0_fars a0_before a0_tape a0_pile a0_rows a0_told a0_values a0_truth a0_keeps v0) sz)) (va_A (WS_X12_see cI cJ cZ cY a0 a0_a a0_image a0_texts a0_board a0_taken a0_fars a0_before a0_tape a0_pile a0_rows a0_told a0_values a0_truth a0_keeps v0) sz)) 0 0 (va_A (WS_X12_see cI cJ cZ cY a0 a0_a a0_image a0_texts a0_board a0_taken a0_fars a0_before a0_tape a0_pile a0_rows a0_told a0_values a0_truth a0_keeps v0) sz) := by
  refine Met.ofW (cc := cX12_see) (maxL := 2) (ret := (some .int)) (by decide) rfl ?_
  intro p e s m args below meth c s₁ B hml hv
  obtain ⟨hargs, hsz, hP, hK, hD0, hT⟩ := hv
  have hx := B.exec
  have hb := B.bytes
  have hr := B.returns
  have htb : ∀ w ∈ TB, w.before args s = true := fun w h => atoms_spec (ws := Cond.code yX12_see cX12_see 2 (some .int) :: TB) B.pre w (List.mem_cons_of_mem _ h)
  have hown : s.vm.findClass "ManyEyesModel" = some m.cls := findClass_of_methodNamed B.named
  have hlocks := B.notSynchronized
  subst hsz
  have hD := hD0.self (sz := s.heap.size)
  generalize hAe : va_A (WS_X12_see cI cJ cZ cY a0 a0_a a0_image a0_texts a0_board a0_taken a0_fars a0_before a0_tape a0_pile a0_rows a0_told a0_values a0_truth a0_keeps v0) s.heap.size = A at hD hT ⊢
  have hA : ∀ q : Nat, s.heap.size ≤ q → A q := fun q h => by rw [← hAe]; exact Or.inr h
  have hS : va_S A s.heap s.heap [] := va_S.rf
  have hl := lv_entry ([.ref a0, .int p0]) (n := 2) (Nat.le_of_ble_eq_true rfl)
  have he : entryFrame m args 2 = F0 m 0 (lg_sl ([.ref a0, .int p0]) ++ List.replicate (2 - (lg_sl ([.ref a0, .int p0])).length) Slot.unset).toArray [] := by rw [hargs, lg_entry_eq]
  rw [he]
  generalize (lg_sl ([.ref a0, .int p0]) ++ List.replicate (2 - (lg_sl ([.ref a0, .int p0])).length) Slot.unset).toArray = ls at hl ⊢
  have hl : lv_has ls 2 [(0, .ref a0), (1, .int p0)] := hl
  show W p l e rm_X12_see s m args below meth c s.heap [] 0 0 _ _
  refine W.genQ (fun Q hQ => ?_)
  generalize hHe : s.heap = H at hP ⊢
  have hS : va_S A s.heap H [] := by rw [← hHe]; exact va_S.rf
  generalize ([] : List Loc) = locs at hS ⊢
  unfold f_X12_see at hg
  refine lv_iload_n hx hb dX12_see_0 rfl (lv_at hl 1 rfl) ?_
  refine lv_aload_n hx hb dX12_see_1 rfl (lv_at hl 0 rfl) ?_
  refine va_get (ci := 11) (v := .int (pX12_taped v0)) (C := RX12) (T := TX12) (N := 43) hx hb htb uX12 hown hK.1 hP 0 rfl rfl 10 (by decide) (htb _ tg_946) (fun _ h9 => h9) rfl dX12_see_2 ?_
  refine lv_icmp_ge (tgt := 17) hx hb dX12_see_5 (by decide) (fun c_1 => ?_) (fun c_1 => ?_)
  · have hg := g_it hg c_1
    refine lv_iconst (v := (-1)) hx hb dX12_see_17 (by decide) ?_
    have hg := Option.some.inj hg
    rw [hQ]
    exact W.iret (v := (-1)) hx hb hr (fun t ht hW => ⟨⟨(-1), (), rfl, hg, by rw [ht]; exact hP, hD⟩, hS.F ht⟩) hS.2.2 dX12_see_18
  · have hg := g_if hg c_1
    refine lv_aload_n hx hb dX12_see_8 rfl (lv_at hl 0 rfl) ?_
    refine va_get (ci := 11) (v := .ref a0_tape) (C := RX12) (T := TX12) (N := 43) hx hb htb uX12 hown hK.1 hP 0 rfl rfl 9 (by decide) (htb _ tg_945) (fun _ h9 => h9) rfl dX12_see_9 ?_
    refine lv_iload_n hx hb dX12_see_12 rfl (lv_at hl 1 rfl) ?_
    obtain ⟨h_2, hg⟩ := g_gde hg
    refine va_iald hx hb hK.1 hP 8 0 rfl rfl (inB_vp h_2) dX12_see_13 ?_
    refine lv_goto (tgt := 18) hx hb dX12_see_14 (by decide) ?_
    have hg := Option.some.inj hg
    rw [hQ]
    exact W.iret (v := ((pX12_tape v0) (p0 : Int32).toNatClampNeg)) hx hb hr (fun t ht hW => ⟨⟨((pX12_tape v0) (p0 : Int32).toNatClampNeg), (), rfl, hg, by rw [ht]; exact hP, hD⟩, hS.F ht⟩) hS.2.2 dX12_see_18

/-! ManyEyesModel.isLetter(I)Z -/
def WS_X12_isLetter (cI cJ cZ cY : ClassId) : va_W := []
def f_X12_isLetter (p0 : Int32) : Option (Int32) := (f_X12_isIn p0 97 122).bind (fun r_1 => if (r_1 : Int32) = 0 then ((f_X12_isIn p0 65 90).bind (fun r_3 => if (r_3 : Int32) = 0 then (some 0) else (some 1))) else (some 1))
abbrev rm_X12_isLetter : Room := { frames := 1, cells := 0, slots := 0, locals := 22 }
set_option maxHeartbeats 4000000 in
set_option maxRecDepth 100000 in
theorem k_X12_isLetter {l : Launch} {D : va_G} {cI cJ cZ cY : ClassId} {tX tY : Nat} {sz : Nat} (p0 : Int32) (res : Int32) (hg : f_X12_isLetter p0 = some res) : Met l yX12_isLetter (Cond.code yX12_isLetter cX12_isLetter 1 (some .boolean) :: TB) rm_X12_isLetter (PC D cI cJ cZ cY tX tY [.int p0] (WS_X12_isLetter cI cJ cZ cY) sz) (va_Qi (fun (r : Int32) (_ : Unit) => r = res) (BC D (fun _ : Unit => WS_X12_isLetter cI cJ cZ cY) (va_A (WS_X12_isLetter cI cJ cZ cY) sz)) (va_A (WS_X12_isLetter cI cJ cZ cY) sz)) 0 0 (va_A (WS_X12_isLetter cI cJ cZ cY) sz) := by
  refine Met.ofW (cc := cX12_isLetter) (maxL := 1) (ret := (some .boolean)) (by decide) rfl ?_
  intro p e s m args below meth c s₁ B hml hv
  obtain ⟨hargs, hsz, hP, hK, hD0, hT⟩ := hv
  have hx := B.exec
  have hb := B.bytes
  have hr := B.returns
  have htb : ∀ w ∈ TB, w.before args s = true := fun w h => atoms_spec (ws := Cond.code yX12_isLetter cX12_isLetter 1 (some .boolean) :: TB) B.pre w (List.mem_cons_of_mem _ h)
  have hown : s.vm.findClass "ManyEyesModel" = some m.cls := findClass_of_methodNamed B.named
  have hlocks := B.notSynchronized
  subst hsz
  have hD := hD0.self (sz := s.heap.size)
  generalize hAe : va_A (WS_X12_isLetter cI cJ cZ cY) s.heap.size = A at hD hT ⊢
  have hA : ∀ q : Nat, s.heap.size ≤ q → A q := fun q h => by rw [← hAe]; exact Or.inr h
  have hS : va_S A s.heap s.heap [] := va_S.rf
  have hl := lv_entry ([.int p0]) (n := 1) (Nat.le_of_ble_eq_true rfl)
  have he : entryFrame m args 1 = F0 m 0 (lg_sl ([.int p0]) ++ List.replicate (1 - (lg_sl ([.int p0])).length) Slot.unset).toArray [] := by rw [hargs, lg_entry_eq]
  rw [he]
  generalize (lg_sl ([.int p0]) ++ List.replicate (1 - (lg_sl ([.int p0])).length) Slot.unset).toArray = ls at hl ⊢
  have hl : lv_has ls 1 [(0, .int p0)] := hl
  show W p l e rm_X12_isLetter s m args below meth c s.heap [] 0 0 _ _
  refine W.genQ (fun Q hQ => ?_)
  generalize hHe : s.heap = H at hP ⊢
  have hS : va_S A s.heap H [] := by rw [← hHe]; exact va_S.rf
  generalize ([] : List Loc) = locs at hS ⊢
  unfold f_X12_isLetter at hg
  refine lv_iload_n hx hb dX12_isLetter_0 rfl (lv_at hl 0 rfl) ?_
  refine lv_bipush (v := 97) hx hb dX12_isLetter_1 (by decide) ?_
  refine lv_bipush (v := 122) hx hb dX12_isLetter_3 (by decide) ?_
  obtain ⟨r_1, hr_1, hg⟩ := g_bd hg
  refine cc_i (va_runS (As := [.int p0, .int 97, .int 122]) (rest := []) ⟨hx, hb, hml, hown, htb⟩ (k_X12_isIn p0 97 122 r_1 hr_1) (cw_S 3 htb tg_1078 tg_13 tg_1076 tg_1077 rfl rfl (by decide +kernel) ⟨Nat.le_of_ble_eq_true rfl, Nat.le_of_ble_eq_true rfl⟩) ⟨PC.blind, PC.pre hK hT hP hD hS hA [] rfl (by decide)⟩ rfl rfl hl.1 rfl (lv_room (Nat.le_of_ble_eq_true rfl)) dX12_isLetter_5 ⟨Nat.le_of_ble_eq_true rfl, Nat.le_of_ble_eq_true rfl⟩) hP hD hS hA [] [] rfl rfl (by decide) (by decide) (fun r9 u9 H locs hw hP hD hS => ?_)
  have hw := hw.symm
  subst hw
  have hP : va_P D vwCl (WS_X12_isLetter cI cJ cZ cY) H := hP.sub [] rfl
  have hD : va_D A (WS_X12_isLetter cI cJ cZ cY) := hD.sub [] (by decide) rfl
  refine lv_if_ne (tgt := 22) hx hb dX12_isLetter_8 (by decide) (fun c_2 => ?_) (fun c_2 => ?_)
  · have hg := g_if hg c_2
    refine lv_iconst (v := 1) hx hb dX12_isLetter_22 (by decide) ?_
    refine lv_goto (tgt := 27) hx hb dX12_isLetter_23 (by decide) ?_
    have hg := Option.some.inj hg
    rw [hQ]
    exact W.zret (v := 1) (ty := .boolean) hx hb hr rfl (fun t ht hW => ⟨⟨1, (), rfl, hg, by rw [ht]; exact hP, hD⟩, hS.F ht⟩) hS.2.2 dX12_isLetter_27
  · have hg := g_it hg c_2
    refine lv_iload_n hx hb dX12_isLetter_11 rfl (lv_at hl 0 rfl) ?_
    refine lv_bipush (v := 65) hx hb dX12_isLetter_12 (by decide) ?_
    refine lv_bipush (v := 90) hx hb dX12_isLetter_14 (by decide) ?_
    obtain ⟨r_3, hr_3, hg⟩ := g_bd hg
    refine cc_i (va_runS (As := [.int p0, .int 65, .int 90]) (rest := []) ⟨hx, hb, hml, hown, htb⟩ (k_X12_isIn p0 65 90 r_3 hr_3) (cw_S 3 htb tg_1078 tg_13 tg_1076 tg_1077 rfl rfl (by decide +kernel) ⟨Nat.le_of_ble_eq_true rfl, Nat.le_of_ble_eq_true rfl⟩) ⟨PC.blind, PC.pre hK hT hP hD hS hA [] rfl (by decide)⟩ rfl rfl hl.1 rfl (lv_room (Nat.le_of_ble_eq_true rfl)) dX12_isLetter_16 ⟨Nat.le_of_ble_eq_true rfl, Nat.le_of_ble_eq_true rfl⟩) hP hD hS hA [] [] rfl rfl (by decide) (by decide) (fun r9 u9 H locs hw hP hD hS => ?_)
    have hw := hw.symm
    subst hw
    have hP : va_P D vwCl (WS_X12_isLetter cI cJ cZ cY) H := hP.sub [] rfl
    have hD : va_D A (WS_X12_isLetter cI cJ cZ cY) := hD.sub [] (by decide) rfl
    refine lv_if_eq (tgt := 26) hx hb dX12_isLetter_19 (by decide) (fun c_4 => ?_) (fun c_4 => ?_)
    · have hg := g_it hg c_4
      refine lv_iconst (v := 0) hx hb dX12_isLetter_26 (by decide) ?_
      have hg := Option.some.inj hg
      rw [hQ]
      exact W.zret (v := 0) (ty := .boolean) hx hb hr rfl (fun t ht hW => ⟨⟨0, (), rfl, hg, by rw [ht]; exact hP, hD⟩, hS.F ht⟩) hS.2.2 dX12_isLetter_27
    · have hg := g_if hg c_4
      refine lv_iconst (v := 1) hx hb dX12_isLetter_22 (by decide) ?_
      refine lv_goto (tgt := 27) hx hb dX12_isLetter_23 (by decide) ?_
      have hg := Option.some.inj hg
      rw [hQ]
      exact W.zret (v := 1) (ty := .boolean) hx hb hr rfl (fun t ht hW => ⟨⟨1, (), rfl, hg, by rw [ht]; exact hP, hD⟩, hS.F ht⟩) hS.2.2 dX12_isLetter_27

/-! ManyEyesModel.isDigit(I)Z -/
def WS_X12_isDigit (cI cJ cZ cY : ClassId) : va_W := []
def f_X12_isDigit (p0 : Int32) : Option (Int32) := (f_X12_isIn p0 48 57).bind (fun r_1 => g_gd (r_1 = 0 ∨ r_1 = 1) (some r_1))
abbrev rm_X12_isDigit : Room := { frames := 1, cells := 0, slots := 0, locals := 22 }
set_option maxHeartbeats 4000000 in
set_option maxRecDepth 100000 in
theorem k_X12_isDigit {l : Launch} {D : va_G} {cI cJ cZ cY : ClassId} {tX tY : Nat} {sz : Nat} (p0 : Int32) (res : Int32) (hg : f_X12_isDigit p0 = some res) : Met l yX12_isDigit (Cond.code yX12_isDigit cX12_isDigit 1 (some .boolean) :: TB) rm_X12_isDigit (PC D cI cJ cZ cY tX tY [.int p0] (WS_X12_isDigit cI cJ cZ cY) sz) (va_Qi (fun (r : Int32) (_ : Unit) => r = res) (BC D (fun _ : Unit => WS_X12_isDigit cI cJ cZ cY) (va_A (WS_X12_isDigit cI cJ cZ cY) sz)) (va_A (WS_X12_isDigit cI cJ cZ cY) sz)) 0 0 (va_A (WS_X12_isDigit cI cJ cZ cY) sz) := by
  refine Met.ofW (cc := cX12_isDigit) (maxL := 1) (ret := (some .boolean)) (by decide) rfl ?_
  intro p e s m args below meth c s₁ B hml hv
  obtain ⟨hargs, hsz, hP, hK, hD0, hT⟩ := hv
  have hx := B.exec
  have hb := B.bytes
  have hr := B.returns
  have htb : ∀ w ∈ TB, w.before args s = true := fun w h => atoms_spec (ws := Cond.code yX12_isDigit cX12_isDigit 1 (some .boolean) :: TB) B.pre w (List.mem_cons_of_mem _ h)
  have hown : s.vm.findClass "ManyEyesModel" = some m.cls := findClass_of_methodNamed B.named
  have hlocks := B.notSynchronized
  subst hsz
  have hD := hD0.self (sz := s.heap.size)
  generalize hAe : va_A (WS_X12_isDigit cI cJ cZ cY) s.heap.size = A at hD hT ⊢
  have hA : ∀ q : Nat, s.heap.size ≤ q → A q := fun q h => by rw [← hAe]; exact Or.inr h
  have hS : va_S A s.heap s.heap [] := va_S.rf
  have hl := lv_entry ([.int p0]) (n := 1) (Nat.le_of_ble_eq_true rfl)
  have he : entryFrame m args 1 = F0 m 0 (lg_sl ([.int p0]) ++ List.replicate (1 - (lg_sl ([.int p0])).length) Slot.unset).toArray [] := by rw [hargs, lg_entry_eq]
  rw [he]
  generalize (lg_sl ([.int p0]) ++ List.replicate (1 - (lg_sl ([.int p0])).length) Slot.unset).toArray = ls at hl ⊢
  have hl : lv_has ls 1 [(0, .int p0)] := hl
  show W p l e rm_X12_isDigit s m args below meth c s.heap [] 0 0 _ _
  refine W.genQ (fun Q hQ => ?_)
  generalize hHe : s.heap = H at hP ⊢
  have hS : va_S A s.heap H [] := by rw [← hHe]; exact va_S.rf
  generalize ([] : List Loc) = locs at hS ⊢
  unfold f_X12_isDigit at hg
  refine lv_iload_n hx hb dX12_isDigit_0 rfl (lv_at hl 0 rfl) ?_
  refine lv_bipush (v := 48) hx hb dX12_isDigit_1 (by decide) ?_
  refine lv_bipush (v := 57) hx hb dX12_isDigit_3 (by decide) ?_
  obtain ⟨r_1, hr_1, hg⟩ := g_bd hg
  refine cc_i (va_runS (As := [.int p0, .int 48, .int 57]) (rest := []) ⟨hx, hb, hml, hown, htb⟩ (k_X12_isIn p0 48 57 r_1 hr_1) (cw_S 3 htb tg_1078 tg_13 tg_1076 tg_1077 rfl rfl (by decide +kernel) ⟨Nat.le_of_ble_eq_true rfl, Nat.le_of_ble_eq_true rfl⟩) ⟨PC.blind, PC.pre hK hT hP hD hS hA [] rfl (by decide)⟩ rfl rfl hl.1 rfl (lv_room (Nat.le_of_ble_eq_true rfl)) dX12_isDigit_5 ⟨Nat.le_of_ble_eq_true rfl, Nat.le_of_ble_eq_true rfl⟩) hP hD hS hA [] [] rfl rfl (by decide) (by decide) (fun r9 u9 H locs hw hP hD hS => ?_)
  have hw := hw.symm
  subst hw
  have hP : va_P D vwCl (WS_X12_isDigit cI cJ cZ cY) H := hP.sub [] rfl
  have hD : va_D A (WS_X12_isDigit cI cJ cZ cY) := hD.sub [] (by decide) rfl
  obtain ⟨h_2, hg⟩ := g_gde hg
  have hg := Option.some.inj hg
  rw [hQ]
  exact W.zret (v := r_1) (ty := .boolean) hx hb hr (bool_nar h_2) (fun t ht hW => ⟨⟨r_1, (), rfl, hg, by rw [ht]; exact hP, hD⟩, hS.F ht⟩) hS.2.2 dX12_isDigit_8
