/-! ManyEyesModel.safe(IIIIIIII)I -/
def WS_X12_safe (cI cJ cZ cY : ClassId) (a0 a0_a a0_image a0_texts a0_board a0_taken a0_fars a0_before a0_tape a0_pile a0_rows a0_told a0_values a0_truth a0_keeps : Nat) (v0 : BX12) : va_W := (GX12 cI cJ cZ cY a0 a0_a a0_image a0_texts a0_board a0_taken a0_fars a0_before a0_tape a0_pile a0_rows a0_told a0_values a0_truth a0_keeps v0)
def f_X12_safe_b179 (J112 : (Int32 × Int32 × Int32 × Int32 × Int32 × Int32 × Int32 × Int32 × BX12) → Option (Int32 × BX12)) (x1 : Int32) (x3 : Int32) (x4 : Int32) (x5 : Int32) (x6 : Int32) (x7 : Int32) (x8 : Int32) (x9 : Int32) (v0 : BX12) : Option (Int32 × BX12) := g_lt (x9 + 16 : Int32) (fun x9_1 => J112 (x1, x3, x4, x5, x6, x7, x8, x9_1, v0))
def f_X12_safe_b122B (J112 : (Int32 × Int32 × Int32 × Int32 × Int32 × Int32 × Int32 × Int32 × BX12) → Option (Int32 × BX12)) (J122 : Int32 × Int32 × Int32 × Int32 × Int32 × Int32 × Int32 × Int32 × Int32 × BX12 → Option (Int32 × BX12)) (x1 : Int32) (x3 : Int32) (x4 : Int32) (x5 : Int32) (x6 : Int32) (x7 : Int32) (x8 : Int32) (x9 : Int32) (x10 : Int32) (v0 : BX12) : Option (Int32 × BX12) := if (x6 : Int32) < x10 then (f_X12_safe_b179 J112 x1 x3 x4 x5 x6 x7 x8 x9 v0) else ((f_X12_isStart v0 x9 x4).bind (fun r_3 => if (r_3 : Int32) = 0 then (f_X12_safe_b179 J112 x1 x3 x4 x5 x6 x7 x8 x9 v0) else ((f_X12_run v0 x1 x9 x4 x10 x7).bind (fun r_5 => if ((pX12_hit r_5) : Int32) = 0 then (g_lt (x10 + 1 : Int32) (fun x10_7 => J122 (x1, x3, x4, x5, x6, x7, x8, x9, x10_7, r_5))) else (if (x8 : Int32) = 0 then (some (x9, r_5)) else (some (x10, r_5)))))))
def f_X12_safe_b122 (J112 : (Int32 × Int32 × Int32 × Int32 × Int32 × Int32 × Int32 × Int32 × BX12) → Option (Int32 × BX12)) : Nat → (Int32 × Int32 × Int32 × Int32 × Int32 × Int32 × Int32 × Int32 × Int32 × BX12) → Option (Int32 × BX12) := g_lp (fun J z => f_X12_safe_b122B J112 J z.1 z.2.1 z.2.2.1 z.2.2.2.1 z.2.2.2.2.1 z.2.2.2.2.2.1 z.2.2.2.2.2.2.1 z.2.2.2.2.2.2.2.1 z.2.2.2.2.2.2.2.2.1 z.2.2.2.2.2.2.2.2.2)
def f_X12_safe_b112B (J112 : Int32 × Int32 × Int32 × Int32 × Int32 × Int32 × Int32 × Int32 × BX12 → Option (Int32 × BX12)) (x1 : Int32) (x3 : Int32) (x4 : Int32) (x5 : Int32) (x6 : Int32) (x7 : Int32) (x8 : Int32) (x9 : Int32) (v0 : BX12) : Option (Int32 × BX12) := if (x3 : Int32) < x9 then (some ((-1), v0)) else (f_X12_safe_b122 J112 fU (x1, x3, x4, x5, x6, x7, x8, x9, x5, v0))
def f_X12_safe_b112 : Nat → (Int32 × Int32 × Int32 × Int32 × Int32 × Int32 × Int32 × Int32 × BX12) → Option (Int32 × BX12) := g_lp (fun J z => f_X12_safe_b112B J z.1 z.2.1 z.2.2.1 z.2.2.2.1 z.2.2.2.2.1 z.2.2.2.2.2.1 z.2.2.2.2.2.2.1 z.2.2.2.2.2.2.2.1 z.2.2.2.2.2.2.2.2)
def f_X12_safe (v0 : BX12) (p0 : Int32) (p1 : Int32) (p2 : Int32) (p3 : Int32) (p4 : Int32) (p5 : Int32) (p6 : Int32) (p7 : Int32) : Option (Int32 × BX12) := (f_X12_isRule v0 p0).bind (fun r_10 => if (r_10 : Int32) = 0 then (some ((-1), v0)) else ((f_X12_isPlace v0 p1 p3).bind (fun r_12 => if (r_12 : Int32) = 0 then (some ((-1), v0)) else ((f_X12_isPlace v0 p2 p3).bind (fun r_14 => if (r_14 : Int32) = 0 then (some ((-1), v0)) else (if (p2 : Int32) < p1 then (some ((-1), v0)) else ((f_X12_isSide p4).bind (fun r_17 => if (r_17 : Int32) = 0 then (some ((-1), v0)) else ((f_X12_isSide p5).bind (fun r_19 => if (r_19 : Int32) = 0 then (some ((-1), v0)) else (if (p5 : Int32) < p4 then (some ((-1), v0)) else ((f_X12_isIn p6 1 60).bind (fun r_22 => if (r_22 : Int32) = 0 then (some ((-1), v0)) else ((f_X12_isIn p7 0 1).bind (fun r_24 => if (r_24 : Int32) = 0 then (some ((-1), v0)) else (if (((((p2 - p1) / 16) + 1) * ((p5 - p4) + 1)) : Int32) ≤ 64 then (g_lt (sX12_bound v0 1000000) (fun v0_28 => f_X12_safe_b112 fU (p0, p2, p3, p4, p5, p6, p7, p1, v0_28))) else (some ((-1), v0))))))))))))))))))
abbrev rm_X12_safe : Room := { frames := 6, cells := 0, slots := 0, locals := 142 }
set_option maxHeartbeats 4000000 in
set_option maxRecDepth 100000 in
theorem k_X12_safe {l : Launch} {D : va_G} {cI cJ cZ cY : ClassId} {tX tY : Nat} {sz : Nat} (a0 a0_a a0_image a0_texts a0_board a0_taken a0_fars a0_before a0_tape a0_pile a0_rows a0_told a0_values a0_truth a0_keeps : Nat) (v0 : BX12) (p0 : Int32) (p1 : Int32) (p2 : Int32) (p3 : Int32) (p4 : Int32) (p5 : Int32) (p6 : Int32) (p7 : Int32) (res : Int32 × BX12) (hg : f_X12_safe v0 p0 p1 p2 p3 p4 p5 p6 p7 = some res) : Met l yX12_safe (Cond.code yX12_safe cX12_safe 11 (some .int) :: TB) rm_X12_safe (PC D cI cJ cZ cY tX tY [.ref a0, .int p0, .int p1, .int p2, .int p3, .int p4, .int p5, .int p6, .int p7] (WS_X12_safe cI cJ cZ cY a0 a0_a a0_image a0_texts a0_board a0_taken a0_fars a0_before a0_tape a0_pile a0_rows a0_told a0_values a0_truth a0_keeps v0) sz) (va_Qi (fun (r : Int32) (u : BX12) => r = res.1 ∧ u = res.2) (BC D (fun u : BX12 => WS_X12_safe cI cJ cZ cY a0 a0_a a0_image a0_texts a0_board a0_taken a0_fars a0_before a0_tape a0_pile a0_rows a0_told a0_values a0_truth a0_keeps u) (va_A (WS_X12_safe cI cJ cZ cY a0 a0_a a0_image a0_texts a0_board a0_taken a0_fars a0_before a0_tape a0_pile a0_rows a0_told a0_values a0_truth a0_keeps v0) sz)) (va_A (WS_X12_safe cI cJ cZ cY a0 a0_a a0_image a0_texts a0_board a0_taken a0_fars a0_before a0_tape a0_pile a0_rows a0_told a0_values a0_truth a0_keeps v0) sz)) 0 0 (va_A (WS_X12_safe cI cJ cZ cY a0 a0_a a0_image a0_texts a0_board a0_taken a0_fars a0_before a0_tape a0_pile a0_rows a0_told a0_values a0_truth a0_keeps v0) sz) := by
  refine Met.ofW (cc := cX12_safe) (maxL := 11) (ret := (some .int)) (by decide) rfl ?_
  intro p e s m args below meth c s₁ B hml hv
  obtain ⟨hargs, hsz, hP, hK, hD0, hT⟩ := hv
  have hx := B.exec
  have hb := B.bytes
  have hr := B.returns
  have htb : ∀ w ∈ TB, w.before args s = true := fun w h => atoms_spec (ws := Cond.code yX12_safe cX12_safe 11 (some .int) :: TB) B.pre w (List.mem_cons_of_mem _ h)
  have hown : s.vm.findClass "ManyEyesModel" = some m.cls := findClass_of_methodNamed B.named
  have hlocks := B.notSynchronized
  subst hsz
  have hD := hD0.self (sz := s.heap.size)
  generalize hAe : va_A (WS_X12_safe cI cJ cZ cY a0 a0_a a0_image a0_texts a0_board a0_taken a0_fars a0_before a0_tape a0_pile a0_rows a0_told a0_values a0_truth a0_keeps v0) s.heap.size = A at hD hT ⊢
  have hA : ∀ q : Nat, s.heap.size ≤ q → A q := fun q h => by rw [← hAe]; exact Or.inr h
  have hS : va_S A s.heap s.heap [] := va_S.rf
  have hl := lv_entry ([.ref a0, .int p0, .int p1, .int p2, .int p3, .int p4, .int p5, .int p6, .int p7]) (n := 11) (Nat.le_of_ble_eq_true rfl)
  have he : entryFrame m args 11 = F0 m 0 (lg_sl ([.ref a0, .int p0, .int p1, .int p2, .int p3, .int p4, .int p5, .int p6, .int p7]) ++ List.replicate (11 - (lg_sl ([.ref a0, .int p0, .int p1, .int p2, .int p3, .int p4, .int p5, .int p6, .int p7])).length) Slot.unset).toArray [] := by rw [hargs, lg_entry_eq]
  rw [he]
  generalize (lg_sl ([.ref a0, .int p0, .int p1, .int p2, .int p3, .int p4, .int p5, .int p6, .int p7]) ++ List.replicate (11 - (lg_sl ([.ref a0, .int p0, .int p1, .int p2, .int p3, .int p4, .int p5, .int p6, .int p7])).length) Slot.unset).toArray = ls at hl ⊢
  have hl : lv_has ls 11 [(0, .ref a0), (1, .int p0), (2, .int p1), (3, .int p2), (4, .int p3), (5, .int p4), (6, .int p5), (7, .int p6), (8, .int p7)] := hl
  show W p l e rm_X12_safe s m args below meth c s.heap [] 0 0 _ _
  refine W.genQ (fun Q hQ => ?_)
  have b_179 : ∀ (J112 : (Int32 × Int32 × Int32 × Int32 × Int32 × Int32 × Int32 × Int32 × BX12) → Option (Int32 × BX12)) (hJ112 : ∀ (x1 : Int32) (x3 : Int32) (x4 : Int32) (x5 : Int32) (x6 : Int32) (x7 : Int32) (x8 : Int32) (x9 : Int32) (v0 : BX12) (H : Heap) (locs : List Loc) (ls : Array Slot), va_P D vwCl (WS_X12_safe cI cJ cZ cY a0 a0_a a0_image a0_texts a0_board a0_taken a0_fars a0_before a0_tape a0_pile a0_rows a0_told a0_values a0_truth a0_keeps v0) H → va_D A (WS_X12_safe cI cJ cZ cY a0 a0_a a0_image a0_texts a0_board a0_taken a0_fars a0_before a0_tape a0_pile a0_rows a0_told a0_values a0_truth a0_keeps v0) → va_S A s.heap H locs → lv_has ls 11 [(0, .ref a0), (1, .int x1), (3, .int x3), (4, .int x4), (5, .int x5), (6, .int x6), (7, .int x7), (8, .int x8), (9, .int x9)] → J112 (x1, x3, x4, x5, x6, x7, x8, x9, v0) = some res → W p l e rm_X12_safe s m args below meth c H locs 0 0 Q (F0 m 112 ls [])), ∀ (x1 : Int32) (x3 : Int32) (x4 : Int32) (x5 : Int32) (x6 : Int32) (x7 : Int32) (x8 : Int32) (x9 : Int32) (v0 : BX12) (H : Heap) (locs : List Loc) (ls : Array Slot), va_P D vwCl (WS_X12_safe cI cJ cZ cY a0 a0_a a0_image a0_texts a0_board a0_taken a0_fars a0_before a0_tape a0_pile a0_rows a0_told a0_values a0_truth a0_keeps v0) H → va_D A (WS_X12_safe cI cJ cZ cY a0 a0_a a0_image a0_texts a0_board a0_taken a0_fars a0_before a0_tape a0_pile a0_rows a0_told a0_values a0_truth a0_keeps v0) → va_S A s.heap H locs → lv_has ls 11 [(0, .ref a0), (1, .int x1), (3, .int x3), (4, .int x4), (5, .int x5), (6, .int x6), (7, .int x7), (8, .int x8), (9, .int x9)] → f_X12_safe_b179 J112 x1 x3 x4 x5 x6 x7 x8 x9 v0 = some res → W p l e rm_X12_safe s m args below meth c H locs 0 0 Q (F0 m 179 ls []) := by
    intro J112 hJ112 x1 x3 x4 x5 x6 x7 x8 x9 v0 H locs ls hP hD hS hl hg
    unfold f_X12_safe_b179 at hg
    obtain ⟨x9_1, ex9_1⟩ : ∃ z : Int32, z = x9 + 16 := ⟨_, rfl⟩
    have hg := g_lte hg x9_1 ex9_1
    refine lv_iinc (v := x9_1) (lv' := [(9, .int x9_1), (0, .ref a0), (1, .int x1), (3, .int x3), (4, .int x4), (5, .int x5), (6, .int x6), (7, .int x7), (8, .int x8)]) hx hb dX12_safe_179 hl (k := 8) rfl (by rw [ex9_1]; rfl) (by decide) rfl (fun ls hl => ?_)
    refine lv_goto (tgt := 112) hx hb dX12_safe_182 (by decide) ?_
    exact hJ112 x1 x3 x4 x5 x6 x7 x8 x9_1 v0 H locs ls hP hD hS (lv_sub hl [1, 2, 3, 4, 5, 6, 7, 8, 0] rfl) hg
  have b_122 : ∀ (J112 : (Int32 × Int32 × Int32 × Int32 × Int32 × Int32 × Int32 × Int32 × BX12) → Option (Int32 × BX12)) (hJ112 : ∀ (x1 : Int32) (x3 : Int32) (x4 : Int32) (x5 : Int32) (x6 : Int32) (x7 : Int32) (x8 : Int32) (x9 : Int32) (v0 : BX12) (H : Heap) (locs : List Loc) (ls : Array Slot), va_P D vwCl (WS_X12_safe cI cJ cZ cY a0 a0_a a0_image a0_texts a0_board a0_taken a0_fars a0_before a0_tape a0_pile a0_rows a0_told a0_values a0_truth a0_keeps v0) H → va_D A (WS_X12_safe cI cJ cZ cY a0 a0_a a0_image a0_texts a0_board a0_taken a0_fars a0_before a0_tape a0_pile a0_rows a0_told a0_values a0_truth a0_keeps v0) → va_S A s.heap H locs → lv_has ls 11 [(0, .ref a0), (1, .int x1), (3, .int x3), (4, .int x4), (5, .int x5), (6, .int x6), (7, .int x7), (8, .int x8), (9, .int x9)] → J112 (x1, x3, x4, x5, x6, x7, x8, x9, v0) = some res → W p l e rm_X12_safe s m args below meth c H locs 0 0 Q (F0 m 112 ls [])) (n : Nat), ∀ (x1 : Int32) (x3 : Int32) (x4 : Int32) (x5 : Int32) (x6 : Int32) (x7 : Int32) (x8 : Int32) (x9 : Int32) (x10 : Int32) (v0 : BX12) (H : Heap) (locs : List Loc) (ls : Array Slot), va_P D vwCl (WS_X12_safe cI cJ cZ cY a0 a0_a a0_image a0_texts a0_board a0_taken a0_fars a0_before a0_tape a0_pile a0_rows a0_told a0_values a0_truth a0_keeps v0) H → va_D A (WS_X12_safe cI cJ cZ cY a0 a0_a a0_image a0_texts a0_board a0_taken a0_fars a0_before a0_tape a0_pile a0_rows a0_told a0_values a0_truth a0_keeps v0) → va_S A s.heap H locs → lv_has ls 11 [(0, .ref a0), (1, .int x1), (3, .int x3), (4, .int x4), (5, .int x5), (6, .int x6), (7, .int x7), (8, .int x8), (9, .int x9), (10, .int x10)] → f_X12_safe_b122 J112 n (x1, x3, x4, x5, x6, x7, x8, x9, x10, v0) = some res → W p l e rm_X12_safe s m args below meth c H locs 0 0 Q (F0 m 122 ls []) := by
    intro J112 hJ112 n
    induction n with
    | zero =>
      intro x1 x3 x4 x5 x6 x7 x8 x9 x10 v0 H locs ls hP hD hS hl hg
      exact (g_lp0 hg).elim
    | succ n ih =>
      intro x1 x3 x4 x5 x6 x7 x8 x9 x10 v0 H locs ls hP hD hS hl hg
      have hg : f_X12_safe_b122B J112 (f_X12_safe_b122 J112 n) x1 x3 x4 x5 x6 x7 x8 x9 x10 v0 = some res := hg
      unfold f_X12_safe_b122B at hg
      refine lv_iload hx hb dX12_safe_122 (lv_at hl 9 rfl) ?_
      refine lv_iload hx hb dX12_safe_124 (lv_at hl 5 rfl) ?_
      refine lv_icmp_gt (tgt := 179) hx hb dX12_safe_126 (by decide) (fun c_2 => ?_) (fun c_2 => ?_)
      · have hg := g_it hg c_2
        exact b_179 J112 hJ112 x1 x3 x4 x5 x6 x7 x8 x9 v0 H locs ls hP hD hS (lv_sub hl [0, 1, 2, 3, 4, 5, 6, 7, 8] rfl) hg
      · have hg := g_if hg c_2
        refine lv_aload_n hx hb dX12_safe_129 rfl (lv_at hl 0 rfl) ?_
        refine lv_iload hx hb dX12_safe_130 (lv_at hl 8 rfl) ?_
        refine lv_iload hx hb dX12_safe_132 (lv_at hl 3 rfl) ?_
        obtain ⟨r_3, hr_3, hg⟩ := g_bd hg
        refine cc_i (va_runV (C := RX12) (As := [.int x9, .int x4]) (rest := []) ⟨hx, hb, hml, hown, htb⟩ (k_X12_isStart a0 a0_a a0_image a0_texts a0_board a0_taken a0_fars a0_before a0_tape a0_pile a0_rows a0_told a0_values a0_truth a0_keeps v0 x9 x4 r_3 hr_3) (cw_V 2 htb tg_1309 tg_13 tg_1306 tg_1308 ts_62 rfl rfl (by decide +kernel) ⟨Nat.le_of_ble_eq_true rfl, Nat.le_of_ble_eq_true rfl⟩) ⟨PC.blind, va_recv hK.1 hP (ci := 11) (q0 := 0) rfl rfl, PC.pre hK hT hP hD hS hA [0, 1, 2, 3, 4, 5, 6, 7, 8, 9, 10, 11, 12, 13, 14] rfl (by decide)⟩ rfl rfl hl.1 rfl (lv_room (Nat.le_of_ble_eq_true rfl)) dX12_safe_134 ⟨Nat.le_of_ble_eq_true rfl, Nat.le_of_ble_eq_true rfl⟩) hP hD hS hA [0, 1, 2, 3, 4, 5, 6, 7, 8, 9, 10, 11, 12, 13, 14] [] rfl rfl (by decide) (by decide) (fun r9 u9 H locs hw hP hD hS => ?_)
        have hw := hw.symm
        subst hw
        have hP : va_P D vwCl (WS_X12_safe cI cJ cZ cY a0 a0_a a0_image a0_texts a0_board a0_taken a0_fars a0_before a0_tape a0_pile a0_rows a0_told a0_values a0_truth a0_keeps v0) H := hP.sub [0, 1, 2, 3, 4, 5, 6, 7, 8, 9, 10, 11, 12, 13, 14] rfl
        have hD : va_D A (WS_X12_safe cI cJ cZ cY a0 a0_a a0_image a0_texts a0_board a0_taken a0_fars a0_before a0_tape a0_pile a0_rows a0_told a0_values a0_truth a0_keeps v0) := hD.sub [0, 1, 2, 3, 4, 5, 6, 7, 8, 9, 10, 11, 12, 13, 14] (by decide) rfl
        refine lv_if_eq (tgt := 179) hx hb dX12_safe_137 (by decide) (fun c_4 => ?_) (fun c_4 => ?_)
        · have hg := g_it hg c_4
          exact b_179 J112 hJ112 x1 x3 x4 x5 x6 x7 x8 x9 v0 H locs ls hP hD hS (lv_sub hl [0, 1, 2, 3, 4, 5, 6, 7, 8] rfl) hg
        · have hg := g_if hg c_4
          refine lv_aload_n hx hb dX12_safe_140 rfl (lv_at hl 0 rfl) ?_
          refine lv_iload_n hx hb dX12_safe_141 rfl (lv_at hl 1 rfl) ?_
          refine lv_iload hx hb dX12_safe_142 (lv_at hl 8 rfl) ?_
          refine lv_iload hx hb dX12_safe_144 (lv_at hl 3 rfl) ?_
          refine lv_iload hx hb dX12_safe_146 (lv_at hl 9 rfl) ?_
          refine lv_iload hx hb dX12_safe_148 (lv_at hl 6 rfl) ?_
          obtain ⟨r_5, hr_5, hg⟩ := g_bd hg
          refine cc_v (va_runV (C := RX12) (As := [.int x1, .int x9, .int x4, .int x10, .int x7]) (rest := []) ⟨hx, hb, hml, hown, htb⟩ (k_X12_run a0 a0_a a0_image a0_texts a0_board a0_taken a0_fars a0_before a0_tape a0_pile a0_rows a0_told a0_values a0_truth a0_keeps v0 x1 x9 x4 x10 x7 r_5 hr_5) (cw_V 5 htb tg_1314 tg_13 tg_1311 tg_1313 ts_63 rfl rfl (by decide +kernel) ⟨Nat.le_of_ble_eq_true rfl, Nat.le_of_ble_eq_true rfl⟩) ⟨PC.blind, va_recv hK.1 hP (ci := 11) (q0 := 0) rfl rfl, PC.pre hK hT hP hD hS hA [0, 1, 2, 3, 4, 5, 6, 7, 8, 9, 10, 11, 12, 13, 14] rfl (by decide)⟩ rfl rfl hl.1 rfl (lv_room (Nat.le_of_ble_eq_true rfl)) dX12_safe_150 ⟨Nat.le_of_ble_eq_true rfl, Nat.le_of_ble_eq_true rfl⟩) hP hD hS hA [0, 1, 2, 3, 4, 5, 6, 7, 8, 9, 10, 11, 12, 13, 14] [] rfl rfl (by decide) (by decide) (fun u9 H locs hw hP hD hS => ?_)
          have hw := hw.symm
          subst hw
          have hP : va_P D vwCl (WS_X12_safe cI cJ cZ cY a0 a0_a a0_image a0_texts a0_board a0_taken a0_fars a0_before a0_tape a0_pile a0_rows a0_told a0_values a0_truth a0_keeps r_5) H := hP.sub [0, 1, 2, 3, 4, 5, 6, 7, 8, 9, 10, 11, 12, 13, 14] rfl
          have hD : va_D A (WS_X12_safe cI cJ cZ cY a0 a0_a a0_image a0_texts a0_board a0_taken a0_fars a0_before a0_tape a0_pile a0_rows a0_told a0_values a0_truth a0_keeps r_5) := hD.sub [0, 1, 2, 3, 4, 5, 6, 7, 8, 9, 10, 11, 12, 13, 14] (by decide) rfl
          refine lv_aload_n hx hb dX12_safe_153 rfl (lv_at hl 0 rfl) ?_
          refine va_get (ci := 11) (v := .int (pX12_hit r_5)) (C := RX12) (T := TX12) (N := 43) hx hb htb uX12 hown hK.1 hP 0 rfl rfl 33 (by decide) (htb _ tg_969) (fun _ h9 => h9) rfl dX12_safe_154 ?_
          refine lv_if_eq (tgt := 173) hx hb dX12_safe_157 (by decide) (fun c_6 => ?_) (fun c_6 => ?_)
          · have hg := g_it hg c_6
            obtain ⟨x10_7, ex10_7⟩ : ∃ z : Int32, z = x10 + 1 := ⟨_, rfl⟩
            have hg := g_lte hg x10_7 ex10_7
            refine lv_iinc (v := x10_7) (lv' := [(10, .int x10_7), (0, .ref a0), (1, .int x1), (3, .int x3), (4, .int x4), (5, .int x5), (6, .int x6), (7, .int x7), (8, .int x8), (9, .int x9)]) hx hb dX12_safe_173 hl (k := 9) rfl (by rw [ex10_7]; rfl) (by decide) rfl (fun ls hl => ?_)
            refine lv_goto (tgt := 122) hx hb dX12_safe_176 (by decide) ?_
            exact ih x1 x3 x4 x5 x6 x7 x8 x9 x10_7 r_5 H locs ls hP hD hS (lv_sub hl [1, 2, 3, 4, 5, 6, 7, 8, 9, 0] rfl) hg
          · have hg := g_if hg c_6
            refine lv_iload hx hb dX12_safe_160 (lv_at hl 7 rfl) ?_
            refine lv_if_ne (tgt := 170) hx hb dX12_safe_162 (by decide) (fun c_8 => ?_) (fun c_8 => ?_)
            · have hg := g_if hg c_8
              refine lv_iload hx hb dX12_safe_170 (lv_at hl 9 rfl) ?_
              have hg := Option.some.inj hg
              rw [hQ]
              exact W.iret (v := x10) hx hb hr (fun t ht hW => ⟨⟨x10, (r_5), rfl, ⟨by rw [← hg], by rw [← hg]⟩, by rw [ht]; exact hP, hD⟩, hS.F ht⟩) hS.2.2 dX12_safe_172
            · have hg := g_it hg c_8
              refine lv_iload hx hb dX12_safe_165 (lv_at hl 8 rfl) ?_
              refine lv_goto (tgt := 172) hx hb dX12_safe_167 (by decide) ?_
              have hg := Option.some.inj hg
              rw [hQ]
              exact W.iret (v := x9) hx hb hr (fun t ht hW => ⟨⟨x9, (r_5), rfl, ⟨by rw [← hg], by rw [← hg]⟩, by rw [ht]; exact hP, hD⟩, hS.F ht⟩) hS.2.2 dX12_safe_172
  have b_112 : ∀ (n : Nat), ∀ (x1 : Int32) (x3 : Int32) (x4 : Int32) (x5 : Int32) (x6 : Int32) (x7 : Int32) (x8 : Int32) (x9 : Int32) (v0 : BX12) (H : Heap) (locs : List Loc) (ls : Array Slot), va_P D vwCl (WS_X12_safe cI cJ cZ cY a0 a0_a a0_image a0_texts a0_board a0_taken a0_fars a0_before a0_tape a0_pile a0_rows a0_told a0_values a0_truth a0_keeps v0) H → va_D A (WS_X12_safe cI cJ cZ cY a0 a0_a a0_image a0_texts a0_board a0_taken a0_fars a0_before a0_tape a0_pile a0_rows a0_told a0_values a0_truth a0_keeps v0) → va_S A s.heap H locs → lv_has ls 11 [(0, .ref a0), (1, .int x1), (3, .int x3), (4, .int x4), (5, .int x5), (6, .int x6), (7, .int x7), (8, .int x8), (9, .int x9)] → f_X12_safe_b112 n (x1, x3, x4, x5, x6, x7, x8, x9, v0) = some res → W p l e rm_X12_safe s m args below meth c H locs 0 0 Q (F0 m 112 ls []) := by
    intro n
    induction n with
    | zero =>
      intro x1 x3 x4 x5 x6 x7 x8 x9 v0 H locs ls hP hD hS hl hg
      exact (g_lp0 hg).elim
    | succ n ih =>
      intro x1 x3 x4 x5 x6 x7 x8 x9 v0 H locs ls hP hD hS hl hg
      have hg : f_X12_safe_b112B (f_X12_safe_b112 n) x1 x3 x4 x5 x6 x7 x8 x9 v0 = some res := hg
      unfold f_X12_safe_b112B at hg
      refine lv_iload hx hb dX12_safe_112 (lv_at hl 8 rfl) ?_
      refine lv_iload_n hx hb dX12_safe_114 rfl (lv_at hl 2 rfl) ?_
      refine lv_icmp_gt (tgt := 185) hx hb dX12_safe_115 (by decide) (fun c_9 => ?_) (fun c_9 => ?_)
      · have hg := g_it hg c_9
        refine lv_iconst (v := (-1)) hx hb dX12_safe_185 (by decide) ?_
        have hg := Option.some.inj hg
        rw [hQ]
        exact W.iret (v := (-1)) hx hb hr (fun t ht hW => ⟨⟨(-1), (v0), rfl, ⟨by rw [← hg], by rw [← hg]⟩, by rw [ht]; exact hP, hD⟩, hS.F ht⟩) hS.2.2 dX12_safe_186
      · have hg := g_if hg c_9
        refine lv_iload hx hb dX12_safe_118 (lv_at hl 4 rfl) ?_
        refine lv_istore (lv' := [(10, .int x5), (0, .ref a0), (1, .int x1), (3, .int x3), (4, .int x4), (5, .int x5), (6, .int x6), (7, .int x7), (8, .int x8), (9, .int x9)]) hx hb dX12_safe_120 hl (by decide) rfl (fun ls hl => ?_)
        exact b_122 (f_X12_safe_b112 n) ih fU x1 x3 x4 x5 x6 x7 x8 x9 x5 v0 H locs ls hP hD hS (lv_sub hl [1, 2, 3, 4, 5, 6, 7, 8, 9, 0] rfl) hg
  generalize hHe : s.heap = H at hP ⊢
  have hS : va_S A s.heap H [] := by rw [← hHe]; exact va_S.rf
  generalize ([] : List Loc) = locs at hS ⊢
  unfold f_X12_safe at hg
  refine lv_aload_n hx hb dX12_safe_0 rfl (lv_at hl 0 rfl) ?_
  refine lv_iload_n hx hb dX12_safe_1 rfl (lv_at hl 1 rfl) ?_
  obtain ⟨r_10, hr_10, hg⟩ := g_bd hg
  refine cc_i (va_runV (C := RX12) (As := [.int p0]) (rest := []) ⟨hx, hb, hml, hown, htb⟩ (k_X12_isRule a0 a0_a a0_image a0_texts a0_board a0_taken a0_fars a0_before a0_tape a0_pile a0_rows a0_told a0_values a0_truth a0_keeps v0 p0 r_10 hr_10) (cw_V 1 htb tg_1305 tg_13 tg_1302 tg_1304 ts_61 rfl rfl (by decide +kernel) ⟨Nat.le_of_ble_eq_true rfl, Nat.le_of_ble_eq_true rfl⟩) ⟨PC.blind, va_recv hK.1 hP (ci := 11) (q0 := 0) rfl rfl, PC.pre hK hT hP hD hS hA [0, 1, 2, 3, 4, 5, 6, 7, 8, 9, 10, 11, 12, 13, 14] rfl (by decide)⟩ rfl rfl hl.1 rfl (lv_room (Nat.le_of_ble_eq_true rfl)) dX12_safe_2 ⟨Nat.le_of_ble_eq_true rfl, Nat.le_of_ble_eq_true rfl⟩) hP hD hS hA [0, 1, 2, 3, 4, 5, 6, 7, 8, 9, 10, 11, 12, 13, 14] [] rfl rfl (by decide) (by decide) (fun r9 u9 H locs hw hP hD hS => ?_)
  have hw := hw.symm
  subst hw
  have hP : va_P D vwCl (WS_X12_safe cI cJ cZ cY a0 a0_a a0_image a0_texts a0_board a0_taken a0_fars a0_before a0_tape a0_pile a0_rows a0_told a0_values a0_truth a0_keeps v0) H := hP.sub [0, 1, 2, 3, 4, 5, 6, 7, 8, 9, 10, 11, 12, 13, 14] rfl
  have hD : va_D A (WS_X12_safe cI cJ cZ cY a0 a0_a a0_image a0_texts a0_board a0_taken a0_fars a0_before a0_tape a0_pile a0_rows a0_told a0_values a0_truth a0_keeps v0) := hD.sub [0, 1, 2, 3, 4, 5, 6, 7, 8, 9, 10, 11, 12, 13, 14] (by decide) rfl
  refine lv_if_eq (tgt := 77) hx hb dX12_safe_5 (by decide) (fun c_11 => ?_) (fun c_11 => ?_)
  · have hg := g_it hg c_11
    refine lv_iconst (v := (-1)) hx hb dX12_safe_77 (by decide) ?_
    have hg := Option.some.inj hg
    rw [hQ]
    exact W.iret (v := (-1)) hx hb hr (fun t ht hW => ⟨⟨(-1), (v0), rfl, ⟨by rw [← hg], by rw [← hg]⟩, by rw [ht]; exact hP, hD⟩, hS.F ht⟩) hS.2.2 dX12_safe_78
  · have hg := g_if hg c_11
    refine lv_aload_n hx hb dX12_safe_8 rfl (lv_at hl 0 rfl) ?_
    refine lv_iload_n hx hb dX12_safe_9 rfl (lv_at hl 2 rfl) ?_
    refine lv_iload hx hb dX12_safe_10 (lv_at hl 4 rfl) ?_
    obtain ⟨r_12, hr_12, hg⟩ := g_bd hg
    refine cc_i (va_runV (C := RX12) (As := [.int p1, .int p3]) (rest := []) ⟨hx, hb, hml, hown, htb⟩ (k_X12_isPlace a0 a0_a a0_image a0_texts a0_board a0_taken a0_fars a0_before a0_tape a0_pile a0_rows a0_told a0_values a0_truth a0_keeps v0 p1 p3 r_12 hr_12) (cw_V 2 htb tg_1105 tg_13 tg_1102 tg_1104 ts_31 rfl rfl (by decide +kernel) ⟨Nat.le_of_ble_eq_true rfl, Nat.le_of_ble_eq_true rfl⟩) ⟨PC.blind, va_recv hK.1 hP (ci := 11) (q0 := 0) rfl rfl, PC.pre hK hT hP hD hS hA [0, 1, 2, 3, 4, 5, 6, 7, 8, 9, 10, 11, 12, 13, 14] rfl (by decide)⟩ rfl rfl hl.1 rfl (lv_room (Nat.le_of_ble_eq_true rfl)) dX12_safe_12 ⟨Nat.le_of_ble_eq_true rfl, Nat.le_of_ble_eq_true rfl⟩) hP hD hS hA [0, 1, 2, 3, 4, 5, 6, 7, 8, 9, 10, 11, 12, 13, 14] [] rfl rfl (by decide) (by decide) (fun r9 u9 H locs hw hP hD hS => ?_)
    have hw := hw.symm
    subst hw
    have hP : va_P D vwCl (WS_X12_safe cI cJ cZ cY a0 a0_a a0_image a0_texts a0_board a0_taken a0_fars a0_before a0_tape a0_pile a0_rows a0_told a0_values a0_truth a0_keeps v0) H := hP.sub [0, 1, 2, 3, 4, 5, 6, 7, 8, 9, 10, 11, 12, 13, 14] rfl
    have hD : va_D A (WS_X12_safe cI cJ cZ cY a0 a0_a a0_image a0_texts a0_board a0_taken a0_fars a0_before a0_tape a0_pile a0_rows a0_told a0_values a0_truth a0_keeps v0) := hD.sub [0, 1, 2, 3, 4, 5, 6, 7, 8, 9, 10, 11, 12, 13, 14] (by decide) rfl
    refine lv_if_eq (tgt := 77) hx hb dX12_safe_15 (by decide) (fun c_13 => ?_) (fun c_13 => ?_)
    · have hg := g_it hg c_13
      refine lv_iconst (v := (-1)) hx hb dX12_safe_77 (by decide) ?_
      have hg := Option.some.inj hg
      rw [hQ]
      exact W.iret (v := (-1)) hx hb hr (fun t ht hW => ⟨⟨(-1), (v0), rfl, ⟨by rw [← hg], by rw [← hg]⟩, by rw [ht]; exact hP, hD⟩, hS.F ht⟩) hS.2.2 dX12_safe_78
    · have hg := g_if hg c_13
      refine lv_aload_n hx hb dX12_safe_18 rfl (lv_at hl 0 rfl) ?_
      refine lv_iload_n hx hb dX12_safe_19 rfl (lv_at hl 3 rfl) ?_
      refine lv_iload hx hb dX12_safe_20 (lv_at hl 4 rfl) ?_
      obtain ⟨r_14, hr_14, hg⟩ := g_bd hg
      refine cc_i (va_runV (C := RX12) (As := [.int p2, .int p3]) (rest := []) ⟨hx, hb, hml, hown, htb⟩ (k_X12_isPlace a0 a0_a a0_image a0_texts a0_board a0_taken a0_fars a0_before a0_tape a0_pile a0_rows a0_told a0_values a0_truth a0_keeps v0 p2 p3 r_14 hr_14) (cw_V 2 htb tg_1105 tg_13 tg_1102 tg_1104 ts_31 rfl rfl (by decide +kernel) ⟨Nat.le_of_ble_eq_true rfl, Nat.le_of_ble_eq_true rfl⟩) ⟨PC.blind, va_recv hK.1 hP (ci := 11) (q0 := 0) rfl rfl, PC.pre hK hT hP hD hS hA [0, 1, 2, 3, 4, 5, 6, 7, 8, 9, 10, 11, 12, 13, 14] rfl (by decide)⟩ rfl rfl hl.1 rfl (lv_room (Nat.le_of_ble_eq_true rfl)) dX12_safe_22 ⟨Nat.le_of_ble_eq_true rfl, Nat.le_of_ble_eq_true rfl⟩) hP hD hS hA [0, 1, 2, 3, 4, 5, 6, 7, 8, 9, 10, 11, 12, 13, 14] [] rfl rfl (by decide) (by decide) (fun r9 u9 H locs hw hP hD hS => ?_)
      have hw := hw.symm
      subst hw
      have hP : va_P D vwCl (WS_X12_safe cI cJ cZ cY a0 a0_a a0_image a0_texts a0_board a0_taken a0_fars a0_before a0_tape a0_pile a0_rows a0_told a0_values a0_truth a0_keeps v0) H := hP.sub [0, 1, 2, 3, 4, 5, 6, 7, 8, 9, 10, 11, 12, 13, 14] rfl
      have hD : va_D A (WS_X12_safe cI cJ cZ cY a0 a0_a a0_image a0_texts a0_board a0_taken a0_fars a0_before a0_tape a0_pile a0_rows a0_told a0_values a0_truth a0_keeps v0) := hD.sub [0, 1, 2, 3, 4, 5, 6, 7, 8, 9, 10, 11, 12, 13, 14] (by decide) rfl
      refine lv_if_eq (tgt := 77) hx hb dX12_safe_25 (by decide) (fun c_15 => ?_) (fun c_15 => ?_)
      · have hg := g_it hg c_15
        refine lv_iconst (v := (-1)) hx hb dX12_safe_77 (by decide) ?_
        have hg := Option.some.inj hg
        rw [hQ]
        exact W.iret (v := (-1)) hx hb hr (fun t ht hW => ⟨⟨(-1), (v0), rfl, ⟨by rw [← hg], by rw [← hg]⟩, by rw [ht]; exact hP, hD⟩, hS.F ht⟩) hS.2.2 dX12_safe_78
      · have hg := g_if hg c_15
        refine lv_iload_n hx hb dX12_safe_28 rfl (lv_at hl 2 rfl) ?_
        refine lv_iload_n hx hb dX12_safe_29 rfl (lv_at hl 3 rfl) ?_
        refine lv_icmp_gt (tgt := 77) hx hb dX12_safe_30 (by decide) (fun c_16 => ?_) (fun c_16 => ?_)
        · have hg := g_it hg c_16
          refine lv_iconst (v := (-1)) hx hb dX12_safe_77 (by decide) ?_
          have hg := Option.some.inj hg
          rw [hQ]
          exact W.iret (v := (-1)) hx hb hr (fun t ht hW => ⟨⟨(-1), (v0), rfl, ⟨by rw [← hg], by rw [← hg]⟩, by rw [ht]; exact hP, hD⟩, hS.F ht⟩) hS.2.2 dX12_safe_78
        · have hg := g_if hg c_16
          refine lv_iload hx hb dX12_safe_33 (lv_at hl 5 rfl) ?_
          obtain ⟨r_17, hr_17, hg⟩ := g_bd hg
          refine cc_i (va_runS (As := [.int p4]) (rest := []) ⟨hx, hb, hml, hown, htb⟩ (k_X12_isSide p4 r_17 hr_17) (cw_S 1 htb tg_1108 tg_13 tg_1106 tg_1107 rfl rfl (by decide +kernel) ⟨Nat.le_of_ble_eq_true rfl, Nat.le_of_ble_eq_true rfl⟩) ⟨PC.blind, PC.pre hK hT hP hD hS hA [] rfl (by decide)⟩ rfl rfl hl.1 rfl (lv_room (Nat.le_of_ble_eq_true rfl)) dX12_safe_35 ⟨Nat.le_of_ble_eq_true rfl, Nat.le_of_ble_eq_true rfl⟩) hP hD hS hA [] [0, 1, 2, 3, 4, 5, 6, 7, 8, 9, 10, 11, 12, 13, 14] rfl rfl (by decide) (by decide) (fun r9 u9 H locs hw hP hD hS => ?_)
          have hw := hw.symm
          subst hw
          have hP : va_P D vwCl (WS_X12_safe cI cJ cZ cY a0 a0_a a0_image a0_texts a0_board a0_taken a0_fars a0_before a0_tape a0_pile a0_rows a0_told a0_values a0_truth a0_keeps v0) H := hP.sub [0, 1, 2, 3, 4, 5, 6, 7, 8, 9, 10, 11, 12, 13, 14] rfl
          have hD : va_D A (WS_X12_safe cI cJ cZ cY a0 a0_a a0_image a0_texts a0_board a0_taken a0_fars a0_before a0_tape a0_pile a0_rows a0_told a0_values a0_truth a0_keeps v0) := hD.sub [0, 1, 2, 3, 4, 5, 6, 7, 8, 9, 10, 11, 12, 13, 14] (by decide) rfl
          refine lv_if_eq (tgt := 77) hx hb dX12_safe_38 (by decide) (fun c_18 => ?_) (fun c_18 => ?_)
          · have hg := g_it hg c_18
            refine lv_iconst (v := (-1)) hx hb dX12_safe_77 (by decide) ?_
            have hg := Option.some.inj hg
            rw [hQ]
            exact W.iret (v := (-1)) hx hb hr (fun t ht hW => ⟨⟨(-1), (v0), rfl, ⟨by rw [← hg], by rw [← hg]⟩, by rw [ht]; exact hP, hD⟩, hS.F ht⟩) hS.2.2 dX12_safe_78
          · have hg := g_if hg c_18
            refine lv_iload hx hb dX12_safe_41 (lv_at hl 6 rfl) ?_
            obtain ⟨r_19, hr_19, hg⟩ := g_bd hg
            refine cc_i (va_runS (As := [.int p5]) (rest := []) ⟨hx, hb, hml, hown, htb⟩ (k_X12_isSide p5 r_19 hr_19) (cw_S 1 htb tg_1108 tg_13 tg_1106 tg_1107 rfl rfl (by decide +kernel) ⟨Nat.le_of_ble_eq_true rfl, Nat.le_of_ble_eq_true rfl⟩) ⟨PC.blind, PC.pre hK hT hP hD hS hA [] rfl (by decide)⟩ rfl rfl hl.1 rfl (lv_room (Nat.le_of_ble_eq_true rfl)) dX12_safe_43 ⟨Nat.le_of_ble_eq_true rfl, Nat.le_of_ble_eq_true rfl⟩) hP hD hS hA [] [0, 1, 2, 3, 4, 5, 6, 7, 8, 9, 10, 11, 12, 13, 14] rfl rfl (by decide) (by decide) (fun r9 u9 H locs hw hP hD hS => ?_)
            have hw := hw.symm
            subst hw
            have hP : va_P D vwCl (WS_X12_safe cI cJ cZ cY a0 a0_a a0_image a0_texts a0_board a0_taken a0_fars a0_before a0_tape a0_pile a0_rows a0_told a0_values a0_truth a0_keeps v0) H := hP.sub [0, 1, 2, 3, 4, 5, 6, 7, 8, 9, 10, 11, 12, 13, 14] rfl
            have hD : va_D A (WS_X12_safe cI cJ cZ cY a0 a0_a a0_image a0_texts a0_board a0_taken a0_fars a0_before a0_tape a0_pile a0_rows a0_told a0_values a0_truth a0_keeps v0) := hD.sub [0, 1, 2, 3, 4, 5, 6, 7, 8, 9, 10, 11, 12, 13, 14] (by decide) rfl
            refine lv_if_eq (tgt := 77) hx hb dX12_safe_46 (by decide) (fun c_20 => ?_) (fun c_20 => ?_)
            · have hg := g_it hg c_20
              refine lv_iconst (v := (-1)) hx hb dX12_safe_77 (by decide) ?_
              have hg := Option.some.inj hg
              rw [hQ]
              exact W.iret (v := (-1)) hx hb hr (fun t ht hW => ⟨⟨(-1), (v0), rfl, ⟨by rw [← hg], by rw [← hg]⟩, by rw [ht]; exact hP, hD⟩, hS.F ht⟩) hS.2.2 dX12_safe_78
            · have hg := g_if hg c_20
              refine lv_iload hx hb dX12_safe_49 (lv_at hl 5 rfl) ?_
              refine lv_iload hx hb dX12_safe_51 (lv_at hl 6 rfl) ?_
              refine lv_icmp_gt (tgt := 77) hx hb dX12_safe_53 (by decide) (fun c_21 => ?_) (fun c_21 => ?_)
              · have hg := g_it hg c_21
                refine lv_iconst (v := (-1)) hx hb dX12_safe_77 (by decide) ?_
                have hg := Option.some.inj hg
                rw [hQ]
                exact W.iret (v := (-1)) hx hb hr (fun t ht hW => ⟨⟨(-1), (v0), rfl, ⟨by rw [← hg], by rw [← hg]⟩, by rw [ht]; exact hP, hD⟩, hS.F ht⟩) hS.2.2 dX12_safe_78
              · have hg := g_if hg c_21
                refine lv_iload hx hb dX12_safe_56 (lv_at hl 7 rfl) ?_
                refine lv_iconst (v := 1) hx hb dX12_safe_58 (by decide) ?_
                refine lv_bipush (v := 60) hx hb dX12_safe_59 (by decide) ?_
                obtain ⟨r_22, hr_22, hg⟩ := g_bd hg
                refine cc_i (va_runS (As := [.int p6, .int 1, .int 60]) (rest := []) ⟨hx, hb, hml, hown, htb⟩ (k_X12_isIn p6 1 60 r_22 hr_22) (cw_S 3 htb tg_1078 tg_13 tg_1076 tg_1077 rfl rfl (by decide +kernel) ⟨Nat.le_of_ble_eq_true rfl, Nat.le_of_ble_eq_true rfl⟩) ⟨PC.blind, PC.pre hK hT hP hD hS hA [] rfl (by decide)⟩ rfl rfl hl.1 rfl (lv_room (Nat.le_of_ble_eq_true rfl)) dX12_safe_61 ⟨Nat.le_of_ble_eq_true rfl, Nat.le_of_ble_eq_true rfl⟩) hP hD hS hA [] [0, 1, 2, 3, 4, 5, 6, 7, 8, 9, 10, 11, 12, 13, 14] rfl rfl (by decide) (by decide) (fun r9 u9 H locs hw hP hD hS => ?_)
                have hw := hw.symm
                subst hw
                have hP : va_P D vwCl (WS_X12_safe cI cJ cZ cY a0 a0_a a0_image a0_texts a0_board a0_taken a0_fars a0_before a0_tape a0_pile a0_rows a0_told a0_values a0_truth a0_keeps v0) H := hP.sub [0, 1, 2, 3, 4, 5, 6, 7, 8, 9, 10, 11, 12, 13, 14] rfl
                have hD : va_D A (WS_X12_safe cI cJ cZ cY a0 a0_a a0_image a0_texts a0_board a0_taken a0_fars a0_before a0_tape a0_pile a0_rows a0_told a0_values a0_truth a0_keeps v0) := hD.sub [0, 1, 2, 3, 4, 5, 6, 7, 8, 9, 10, 11, 12, 13, 14] (by decide) rfl
                refine lv_if_eq (tgt := 77) hx hb dX12_safe_64 (by decide) (fun c_23 => ?_) (fun c_23 => ?_)
                · have hg := g_it hg c_23
                  refine lv_iconst (v := (-1)) hx hb dX12_safe_77 (by decide) ?_
                  have hg := Option.some.inj hg
                  rw [hQ]
                  exact W.iret (v := (-1)) hx hb hr (fun t ht hW => ⟨⟨(-1), (v0), rfl, ⟨by rw [← hg], by rw [← hg]⟩, by rw [ht]; exact hP, hD⟩, hS.F ht⟩) hS.2.2 dX12_safe_78
                · have hg := g_if hg c_23
                  refine lv_iload hx hb dX12_safe_67 (lv_at hl 8 rfl) ?_
                  refine lv_iconst (v := 0) hx hb dX12_safe_69 (by decide) ?_
                  refine lv_iconst (v := 1) hx hb dX12_safe_70 (by decide) ?_
                  obtain ⟨r_24, hr_24, hg⟩ := g_bd hg
                  refine cc_i (va_runS (As := [.int p7, .int 0, .int 1]) (rest := []) ⟨hx, hb, hml, hown, htb⟩ (k_X12_isIn p7 0 1 r_24 hr_24) (cw_S 3 htb tg_1078 tg_13 tg_1076 tg_1077 rfl rfl (by decide +kernel) ⟨Nat.le_of_ble_eq_true rfl, Nat.le_of_ble_eq_true rfl⟩) ⟨PC.blind, PC.pre hK hT hP hD hS hA [] rfl (by decide)⟩ rfl rfl hl.1 rfl (lv_room (Nat.le_of_ble_eq_true rfl)) dX12_safe_71 ⟨Nat.le_of_ble_eq_true rfl, Nat.le_of_ble_eq_true rfl⟩) hP hD hS hA [] [0, 1, 2, 3, 4, 5, 6, 7, 8, 9, 10, 11, 12, 13, 14] rfl rfl (by decide) (by decide) (fun r9 u9 H locs hw hP hD hS => ?_)
                  have hw := hw.symm
                  subst hw
                  have hP : va_P D vwCl (WS_X12_safe cI cJ cZ cY a0 a0_a a0_image a0_texts a0_board a0_taken a0_fars a0_before a0_tape a0_pile a0_rows a0_told a0_values a0_truth a0_keeps v0) H := hP.sub [0, 1, 2, 3, 4, 5, 6, 7, 8, 9, 10, 11, 12, 13, 14] rfl
                  have hD : va_D A (WS_X12_safe cI cJ cZ cY a0 a0_a a0_image a0_texts a0_board a0_taken a0_fars a0_before a0_tape a0_pile a0_rows a0_told a0_values a0_truth a0_keeps v0) := hD.sub [0, 1, 2, 3, 4, 5, 6, 7, 8, 9, 10, 11, 12, 13, 14] (by decide) rfl
                  refine lv_if_ne (tgt := 79) hx hb dX12_safe_74 (by decide) (fun c_25 => ?_) (fun c_25 => ?_)
                  · have hg := g_if hg c_25
                    refine lv_iload_n hx hb dX12_safe_79 rfl (lv_at hl 3 rfl) ?_
                    refine lv_iload_n hx hb dX12_safe_80 rfl (lv_at hl 2 rfl) ?_
                    refine lv_isub hx hb dX12_safe_81 ?_
                    refine lv_bipush (v := 16) hx hb dX12_safe_82 (by decide) ?_
                    refine lv_idiv hx hb dX12_safe_84 (by decide) ?_
                    refine lv_iconst (v := 1) hx hb dX12_safe_85 (by decide) ?_
                    refine lv_iadd hx hb dX12_safe_86 ?_
                    refine lv_iload hx hb dX12_safe_87 (lv_at hl 6 rfl) ?_
                    refine lv_iload hx hb dX12_safe_89 (lv_at hl 5 rfl) ?_
                    refine lv_isub hx hb dX12_safe_91 ?_
                    refine lv_iconst (v := 1) hx hb dX12_safe_92 (by decide) ?_
                    refine lv_iadd hx hb dX12_safe_93 ?_
                    refine lv_imul hx hb dX12_safe_94 ?_
                    refine lv_bipush (v := 64) hx hb dX12_safe_95 (by decide) ?_
                    refine lv_icmp_le (tgt := 102) hx hb dX12_safe_97 (by decide) (fun c_27 => ?_) (fun c_27 => ?_)
                    · have hg := g_it hg c_27
                      refine lv_aload_n hx hb dX12_safe_102 rfl (lv_at hl 0 rfl) ?_
                      refine lv_ldc2 (v := 1000000) hx hb hown (htb _ tg_1310) dX12_safe_103 ?_
                      refine va_put (ci := 11) (v := .long 1000000) (ty := .long) (C := RX12) (T := TX12) (N := 43) hx hb htb uX12 tyX12 tyX12_ok nmX12 hown hK.1 hP hD hS 0 rfl rfl 27 (by decide) (htb _ tg_963) (fun _ h9 => h9) rfl (by decide +kernel) rfl rfl (Nat.le_of_ble_eq_true rfl) dX12_safe_106 (fun H locs hP hD hS => ?_)
                      obtain ⟨v0_28, ev0_28⟩ : ∃ z, z = sX12_bound v0 1000000 := ⟨_, rfl⟩
                      have hP : va_P D vwCl (WS_X12_safe cI cJ cZ cY a0 a0_a a0_image a0_texts a0_board a0_taken a0_fars a0_before a0_tape a0_pile a0_rows a0_told a0_values a0_truth a0_keeps v0_28) H := by rw [ev0_28]; exact hP
                      have hD : va_D A (WS_X12_safe cI cJ cZ cY a0 a0_a a0_image a0_texts a0_board a0_taken a0_fars a0_before a0_tape a0_pile a0_rows a0_told a0_values a0_truth a0_keeps v0_28) := by rw [ev0_28]; exact hD
                      have hg := g_lte hg v0_28 ev0_28
                      refine lv_iload_n hx hb dX12_safe_109 rfl (lv_at hl 2 rfl) ?_
                      refine lv_istore (lv' := [(9, .int p1), (0, .ref a0), (1, .int p0), (2, .int p1), (3, .int p2), (4, .int p3), (5, .int p4), (6, .int p5), (7, .int p6), (8, .int p7)]) hx hb dX12_safe_110 hl (by decide) rfl (fun ls hl => ?_)
                      exact b_112 fU p0 p2 p3 p4 p5 p6 p7 p1 v0_28 H locs ls hP hD hS (lv_sub hl [1, 2, 4, 5, 6, 7, 8, 9, 0] rfl) hg
                    · have hg := g_if hg c_27
                      refine lv_iconst (v := (-1)) hx hb dX12_safe_100 (by decide) ?_
                      have hg := Option.some.inj hg
                      rw [hQ]
                      exact W.iret (v := (-1)) hx hb hr (fun t ht hW => ⟨⟨(-1), (v0), rfl, ⟨by rw [← hg], by rw [← hg]⟩, by rw [ht]; exact hP, hD⟩, hS.F ht⟩) hS.2.2 dX12_safe_101
                  · have hg := g_it hg c_25
                    refine lv_iconst (v := (-1)) hx hb dX12_safe_77 (by decide) ?_
                    have hg := Option.some.inj hg
                    rw [hQ]
                    exact W.iret (v := (-1)) hx hb hr (fun t ht hW => ⟨⟨(-1), (v0), rfl, ⟨by rw [← hg], by rw [← hg]⟩, by rw [ht]; exact hP, hD⟩, hS.F ht⟩) hS.2.2 dX12_safe_78

/-! ManyEyesModel.read(III)I -/
def WS_X12_read (cI cJ cZ cY : ClassId) (a0 a0_a a0_image a0_texts a0_board a0_taken a0_fars a0_before a0_tape a0_pile a0_rows a0_told a0_values a0_truth a0_keeps : Nat) (v0 : BX12) : va_W := (GX12 cI cJ cZ cY a0 a0_a a0_image a0_texts a0_board a0_taken a0_fars a0_before a0_tape a0_pile a0_rows a0_told a0_values a0_truth a0_keeps v0)
def f_X12_read (v0 : BX12) (p0 : Int32) (p1 : Int32) (p2 : Int32) : Option (Int32 × BX12) := (f_X12_isPlace v0 p0 p1).bind (fun r_1 => if (r_1 : Int32) = 0 then (some ((-1), v0)) else ((f_X12_isSide p2).bind (fun r_3 => if (r_3 : Int32) = 0 then (some ((-1), v0)) else (g_gd (inB 4 3170) (if (((pX12_a v0) (4 : Int32).toNatClampNeg) : Int32) = 6 then (some ((-1), v0)) else (g_gd (inB 4 3170) (g_lt (((720 : Int32) + ((24 : Int32) * ((pX12_a v0) (4 : Int32).toNatClampNeg))) : Int32) (fun x4_8 => g_gd (inB x4_8 3170) (g_lt (sX12_a v0 (upd (pX12_a v0) (x4_8 : Int32).toNatClampNeg p0)) (fun v0_10 => g_gd (inB (x4_8 + 1) 3170) (g_lt (sX12_a v0_10 (upd (pX12_a v0_10) ((x4_8 + 1) : Int32).toNatClampNeg p1)) (fun v0_12 => g_gd (inB (x4_8 + 2) 3170) (g_lt (sX12_a v0_12 (upd (pX12_a v0_12) ((x4_8 + 2) : Int32).toNatClampNeg p2)) (fun v0_14 => g_gd (inB (x4_8 + 3) 3170) (g_lt (sX12_a v0_14 (upd (pX12_a v0_14) ((x4_8 + 3) : Int32).toNatClampNeg 0)) (fun v0_16 => g_gd (inB 4 3170) (g_lt ((((pX12_a v0_16) (4 : Int32).toNatClampNeg) + 1) : Int32) (fun x_18 => g_gd (inB 4 3170) (g_lt (sX12_a v0_16 (upd (pX12_a v0_16) (4 : Int32).toNatClampNeg x_18)) (fun v0_20 => g_gd (inB 4 3170) (some ((((pX12_a v0_20) (4 : Int32).toNatClampNeg) - 1), v0_20))))))))))))))))))))))
abbrev rm_X12_read : Room := { frames := 2, cells := 0, slots := 0, locals := 44 }
set_option maxHeartbeats 4000000 in
set_option maxRecDepth 100000 in
theorem k_X12_read {l : Launch} {D : va_G} {cI cJ cZ cY : ClassId} {tX tY : Nat} {sz : Nat} (a0 a0_a a0_image a0_texts a0_board a0_taken a0_fars a0_before a0_tape a0_pile a0_rows a0_told a0_values a0_truth a0_keeps : Nat) (v0 : BX12) (p0 : Int32) (p1 : Int32) (p2 : Int32) (res : Int32 × BX12) (hg : f_X12_read v0 p0 p1 p2 = some res) : Met l yX12_read (Cond.code yX12_read cX12_read 5 (some .int) :: TB) rm_X12_read (PC D cI cJ cZ cY tX tY [.ref a0, .int p0, .int p1, .int p2] (WS_X12_read cI cJ cZ cY a0 a0_a a0_image a0_texts a0_board a0_taken a0_fars a0_before a0_tape a0_pile a0_rows a0_told a0_values a0_truth a0_keeps v0) sz) (va_Qi (fun (r : Int32) (u : BX12) => r = res.1 ∧ u = res.2) (BC D (fun u : BX12 => WS_X12_read cI cJ cZ cY a0 a0_a a0_image a0_texts a0_board a0_taken a0_fars a0_before a0_tape a0_pile a0_rows a0_told a0_values a0_truth a0_keeps u) (va_A (WS_X12_read cI cJ cZ cY a0 a0_a a0_image a0_texts a0_board a0_taken a0_fars a0_before a0_tape a0_pile a0_rows a0_told a0_values a0_truth a0_keeps v0) sz)) (va_A (WS_X12_read cI cJ cZ cY a0 a0_a a0_image a0_texts a0_board a0_taken a0_fars a0_before a0_tape a0_pile a0_rows a0_told a0_values a0_truth a0_keeps v0) sz)) 0 0 (va_A (WS_X12_read cI cJ cZ cY a0 a0_a a0_image a0_texts a0_board a0_taken a0_fars a0_before a0_tape a0_pile a0_rows a0_told a0_values a0_truth a0_keeps v0) sz) := by
  refine Met.ofW (cc := cX12_read) (maxL := 5) (ret := (some .int)) (by decide) rfl ?_
  intro p e s m args below meth c s₁ B hml hv
  obtain ⟨hargs, hsz, hP, hK, hD0, hT⟩ := hv
  have hx := B.exec
  have hb := B.bytes
  have hr := B.returns
  have htb : ∀ w ∈ TB, w.before args s = true := fun w h => atoms_spec (ws := Cond.code yX12_read cX12_read 5 (some .int) :: TB) B.pre w (List.mem_cons_of_mem _ h)
  have hown : s.vm.findClass "ManyEyesModel" = some m.cls := findClass_of_methodNamed B.named
  have hlocks := B.notSynchronized
  subst hsz
  have hD := hD0.self (sz := s.heap.size)
  generalize hAe : va_A (WS_X12_read cI cJ cZ cY a0 a0_a a0_image a0_texts a0_board a0_taken a0_fars a0_before a0_tape a0_pile a0_rows a0_told a0_values a0_truth a0_keeps v0) s.heap.size = A at hD hT ⊢
  have hA : ∀ q : Nat, s.heap.size ≤ q → A q := fun q h => by rw [← hAe]; exact Or.inr h
  have hS : va_S A s.heap s.heap [] := va_S.rf
  have hl := lv_entry ([.ref a0, .int p0, .int p1, .int p2]) (n := 5) (Nat.le_of_ble_eq_true rfl)
  have he : entryFrame m args 5 = F0 m 0 (lg_sl ([.ref a0, .int p0, .int p1, .int p2]) ++ List.replicate (5 - (lg_sl ([.ref a0, .int p0, .int p1, .int p2])).length) Slot.unset).toArray [] := by rw [hargs, lg_entry_eq]
  rw [he]
  generalize (lg_sl ([.ref a0, .int p0, .int p1, .int p2]) ++ List.replicate (5 - (lg_sl ([.ref a0, .int p0, .int p1, .int p2])).length) Slot.unset).toArray = ls at hl ⊢
  have hl : lv_has ls 5 [(0, .ref a0), (1, .int p0), (2, .int p1), (3, .int p2)] := hl
  show W p l e rm_X12_read s m args below meth c s.heap [] 0 0 _ _
  refine W.genQ (fun Q hQ => ?_)
  generalize hHe : s.heap = H at hP ⊢
  have hS : va_S A s.heap H [] := by rw [← hHe]; exact va_S.rf
  generalize ([] : List Loc) = locs at hS ⊢
  unfold f_X12_read at hg
  refine lv_aload_n hx hb dX12_read_0 rfl (lv_at hl 0 rfl) ?_
  refine lv_iload_n hx hb dX12_read_1 rfl (lv_at hl 1 rfl) ?_
  refine lv_iload_n hx hb dX12_read_2 rfl (lv_at hl 2 rfl) ?_
  obtain ⟨r_1, hr_1, hg⟩ := g_bd hg
  refine cc_i (va_runV (C := RX12) (As := [.int p0, .int p1]) (rest := []) ⟨hx, hb, hml, hown, htb⟩ (k_X12_isPlace a0 a0_a a0_image a0_texts a0_board a0_taken a0_fars a0_before a0_tape a0_pile a0_rows a0_told a0_values a0_truth a0_keeps v0 p0 p1 r_1 hr_1) (cw_V 2 htb tg_1105 tg_13 tg_1102 tg_1104 ts_31 rfl rfl (by decide +kernel) ⟨Nat.le_of_ble_eq_true rfl, Nat.le_of_ble_eq_true rfl⟩) ⟨PC.blind, va_recv hK.1 hP (ci := 11) (q0 := 0) rfl rfl, PC.pre hK hT hP hD hS hA [0, 1, 2, 3, 4, 5, 6, 7, 8, 9, 10, 11, 12, 13, 14] rfl (by decide)⟩ rfl rfl hl.1 rfl (lv_room (Nat.le_of_ble_eq_true rfl)) dX12_read_3 ⟨Nat.le_of_ble_eq_true rfl, Nat.le_of_ble_eq_true rfl⟩) hP hD hS hA [0, 1, 2, 3, 4, 5, 6, 7, 8, 9, 10, 11, 12, 13, 14] [] rfl rfl (by decide) (by decide) (fun r9 u9 H locs hw hP hD hS => ?_)
  have hw := hw.symm
  subst hw
  have hP : va_P D vwCl (WS_X12_read cI cJ cZ cY a0 a0_a a0_image a0_texts a0_board a0_taken a0_fars a0_before a0_tape a0_pile a0_rows a0_told a0_values a0_truth a0_keeps v0) H := hP.sub [0, 1, 2, 3, 4, 5, 6, 7, 8, 9, 10, 11, 12, 13, 14] rfl
  have hD : va_D A (WS_X12_read cI cJ cZ cY a0 a0_a a0_image a0_texts a0_board a0_taken a0_fars a0_before a0_tape a0_pile a0_rows a0_told a0_values a0_truth a0_keeps v0) := hD.sub [0, 1, 2, 3, 4, 5, 6, 7, 8, 9, 10, 11, 12, 13, 14] (by decide) rfl
  refine lv_if_eq (tgt := 27) hx hb dX12_read_6 (by decide) (fun c_2 => ?_) (fun c_2 => ?_)
  · have hg := g_it hg c_2
    refine lv_iconst (v := (-1)) hx hb dX12_read_27 (by decide) ?_
    have hg := Option.some.inj hg
    rw [hQ]
    exact W.iret (v := (-1)) hx hb hr (fun t ht hW => ⟨⟨(-1), (v0), rfl, ⟨by rw [← hg], by rw [← hg]⟩, by rw [ht]; exact hP, hD⟩, hS.F ht⟩) hS.2.2 dX12_read_28
  · have hg := g_if hg c_2
    refine lv_iload_n hx hb dX12_read_9 rfl (lv_at hl 3 rfl) ?_
    obtain ⟨r_3, hr_3, hg⟩ := g_bd hg
    refine cc_i (va_runS (As := [.int p2]) (rest := []) ⟨hx, hb, hml, hown, htb⟩ (k_X12_isSide p2 r_3 hr_3) (cw_S 1 htb tg_1108 tg_13 tg_1106 tg_1107 rfl rfl (by decide +kernel) ⟨Nat.le_of_ble_eq_true rfl, Nat.le_of_ble_eq_true rfl⟩) ⟨PC.blind, PC.pre hK hT hP hD hS hA [] rfl (by decide)⟩ rfl rfl hl.1 rfl (lv_room (Nat.le_of_ble_eq_true rfl)) dX12_read_10 ⟨Nat.le_of_ble_eq_true rfl, Nat.le_of_ble_eq_true rfl⟩) hP hD hS hA [] [0, 1, 2, 3, 4, 5, 6, 7, 8, 9, 10, 11, 12, 13, 14] rfl rfl (by decide) (by decide) (fun r9 u9 H locs hw hP hD hS => ?_)
    have hw := hw.symm
    subst hw
    have hP : va_P D vwCl (WS_X12_read cI cJ cZ cY a0 a0_a a0_image a0_texts a0_board a0_taken a0_fars a0_before a0_tape a0_pile a0_rows a0_told a0_values a0_truth a0_keeps v0) H := hP.sub [0, 1, 2, 3, 4, 5, 6, 7, 8, 9, 10, 11, 12, 13, 14] rfl
    have hD : va_D A (WS_X12_read cI cJ cZ cY a0 a0_a a0_image a0_texts a0_board a0_taken a0_fars a0_before a0_tape a0_pile a0_rows a0_told a0_values a0_truth a0_keeps v0) := hD.sub [0, 1, 2, 3, 4, 5, 6, 7, 8, 9, 10, 11, 12, 13, 14] (by decide) rfl
    refine lv_if_eq (tgt := 27) hx hb dX12_read_13 (by decide) (fun c_4 => ?_) (fun c_4 => ?_)
    · have hg := g_it hg c_4
      refine lv_iconst (v := (-1)) hx hb dX12_read_27 (by decide) ?_
      have hg := Option.some.inj hg
      rw [hQ]
      exact W.iret (v := (-1)) hx hb hr (fun t ht hW => ⟨⟨(-1), (v0), rfl, ⟨by rw [← hg], by rw [← hg]⟩, by rw [ht]; exact hP, hD⟩, hS.F ht⟩) hS.2.2 dX12_read_28
    · have hg := g_if hg c_4
      refine lv_aload_n hx hb dX12_read_16 rfl (lv_at hl 0 rfl) ?_
      refine va_get (ci := 11) (v := .ref a0_a) (C := RX12) (T := TX12) (N := 43) hx hb htb uX12 hown hK.1 hP 0 rfl rfl 2 (by decide) (htb _ tg_938) (fun _ h9 => h9) rfl dX12_read_17 ?_
      refine lv_iconst (v := 4) hx hb dX12_read_20 (by decide) ?_
      obtain ⟨h_5, hg⟩ := g_gde hg
      refine va_iald hx hb hK.1 hP 1 0 rfl rfl (inB_vp h_5) dX12_read_21 ?_
      refine lv_bipush (v := 6) hx hb dX12_read_22 (by decide) ?_
      refine lv_icmp_ne (tgt := 29) hx hb dX12_read_24 (by decide) (fun c_6 => ?_) (fun c_6 => ?_)
      · have hg := g_if hg c_6
        refine lv_sipush (v := 720) hx hb dX12_read_29 (by decide) ?_
        refine lv_bipush (v := 24) hx hb dX12_read_32 (by decide) ?_
        refine lv_aload_n hx hb dX12_read_34 rfl (lv_at hl 0 rfl) ?_
        refine va_get (ci := 11) (v := .ref a0_a) (C := RX12) (T := TX12) (N := 43) hx hb htb uX12 hown hK.1 hP 0 rfl rfl 2 (by decide) (htb _ tg_938) (fun _ h9 => h9) rfl dX12_read_35 ?_
        refine lv_iconst (v := 4) hx hb dX12_read_38 (by decide) ?_
        obtain ⟨h_7, hg⟩ := g_gde hg
        refine va_iald hx hb hK.1 hP 1 0 rfl rfl (inB_vp h_7) dX12_read_39 ?_
        refine lv_imul hx hb dX12_read_40 ?_
        refine lv_iadd hx hb dX12_read_41 ?_
        refine lv_topi (fun x4_8 ex4_8 => ?_)
        have hg := g_lte hg x4_8 ex4_8
        refine lv_istore (lv' := [(4, .int x4_8), (0, .ref a0), (1, .int p0), (2, .int p1), (3, .int p2)]) hx hb dX12_read_42 hl (by decide) rfl (fun ls hl => ?_)
        refine lv_aload_n hx hb dX12_read_44 rfl (lv_at hl 1 rfl) ?_
        refine va_get (ci := 11) (v := .ref a0_a) (C := RX12) (T := TX12) (N := 43) hx hb htb uX12 hown hK.1 hP 0 rfl rfl 2 (by decide) (htb _ tg_938) (fun _ h9 => h9) rfl dX12_read_45 ?_
        refine lv_iload hx hb dX12_read_48 (lv_at hl 0 rfl) ?_
        refine lv_iload_n hx hb dX12_read_50 rfl (lv_at hl 2 rfl) ?_
        obtain ⟨h_9, hg⟩ := g_gde hg
        refine va_iast hx hb hK.1 hP hD hS 1 0 rfl rfl (inB_vp h_9) dX12_read_51 (fun H locs hP hD hS => ?_)
        obtain ⟨v0_10, ev0_10⟩ : ∃ z, z = sX12_a v0 (upd (pX12_a v0) (x4_8 : Int32).toNatClampNeg p0) := ⟨_, rfl⟩
        have hP : va_P D vwCl (WS_X12_read cI cJ cZ cY a0 a0_a a0_image a0_texts a0_board a0_taken a0_fars a0_before a0_tape a0_pile a0_rows a0_told a0_values a0_truth a0_keeps v0_10) H := by rw [ev0_10]; exact hP
        have hD : va_D A (WS_X12_read cI cJ cZ cY a0 a0_a a0_image a0_texts a0_board a0_taken a0_fars a0_before a0_tape a0_pile a0_rows a0_told a0_values a0_truth a0_keeps v0_10) := by rw [ev0_10]; exact hD
        have hg := g_lte hg v0_10 ev0_10
        refine lv_aload_n hx hb dX12_read_52 rfl (lv_at hl 1 rfl) ?_
        refine va_get (ci := 11) (v := .ref a0_a) (C := RX12) (T := TX12) (N := 43) hx hb htb uX12 hown hK.1 hP 0 rfl rfl 2 (by decide) (htb _ tg_938) (fun _ h9 => h9) rfl dX12_read_53 ?_
        refine lv_iload hx hb dX12_read_56 (lv_at hl 0 rfl) ?_
        refine lv_iconst (v := 1) hx hb dX12_read_58 (by decide) ?_
        refine lv_iadd hx hb dX12_read_59 ?_
        refine lv_iload_n hx hb dX12_read_60 rfl (lv_at hl 3 rfl) ?_
        obtain ⟨h_11, hg⟩ := g_gde hg
        refine va_iast hx hb hK.1 hP hD hS 1 0 rfl rfl (inB_vp h_11) dX12_read_61 (fun H locs hP hD hS => ?_)
        obtain ⟨v0_12, ev0_12⟩ : ∃ z, z = sX12_a v0_10 (upd (pX12_a v0_10) ((x4_8 + 1) : Int32).toNatClampNeg p1) := ⟨_, rfl⟩
        have hP : va_P D vwCl (WS_X12_read cI cJ cZ cY a0 a0_a a0_image a0_texts a0_board a0_taken a0_fars a0_before a0_tape a0_pile a0_rows a0_told a0_values a0_truth a0_keeps v0_12) H := by rw [ev0_12]; exact hP
        have hD : va_D A (WS_X12_read cI cJ cZ cY a0 a0_a a0_image a0_texts a0_board a0_taken a0_fars a0_before a0_tape a0_pile a0_rows a0_told a0_values a0_truth a0_keeps v0_12) := by rw [ev0_12]; exact hD
        have hg := g_lte hg v0_12 ev0_12
        refine lv_aload_n hx hb dX12_read_62 rfl (lv_at hl 1 rfl) ?_
        refine va_get (ci := 11) (v := .ref a0_a) (C := RX12) (T := TX12) (N := 43) hx hb htb uX12 hown hK.1 hP 0 rfl rfl 2 (by decide) (htb _ tg_938) (fun _ h9 => h9) rfl dX12_read_63 ?_
        refine lv_iload hx hb dX12_read_66 (lv_at hl 0 rfl) ?_
        refine lv_iconst (v := 2) hx hb dX12_read_68 (by decide) ?_
        refine lv_iadd hx hb dX12_read_69 ?_
        refine lv_iload_n hx hb dX12_read_70 rfl (lv_at hl 4 rfl) ?_
        obtain ⟨h_13, hg⟩ := g_gde hg
        refine va_iast hx hb hK.1 hP hD hS 1 0 rfl rfl (inB_vp h_13) dX12_read_71 (fun H locs hP hD hS => ?_)
        obtain ⟨v0_14, ev0_14⟩ : ∃ z, z = sX12_a v0_12 (upd (pX12_a v0_12) ((x4_8 + 2) : Int32).toNatClampNeg p2) := ⟨_, rfl⟩
        have hP : va_P D vwCl (WS_X12_read cI cJ cZ cY a0 a0_a a0_image a0_texts a0_board a0_taken a0_fars a0_before a0_tape a0_pile a0_rows a0_told a0_values a0_truth a0_keeps v0_14) H := by rw [ev0_14]; exact hP
        have hD : va_D A (WS_X12_read cI cJ cZ cY a0 a0_a a0_image a0_texts a0_board a0_taken a0_fars a0_before a0_tape a0_pile a0_rows a0_told a0_values a0_truth a0_keeps v0_14) := by rw [ev0_14]; exact hD
        have hg := g_lte hg v0_14 ev0_14
        refine lv_aload_n hx hb dX12_read_72 rfl (lv_at hl 1 rfl) ?_
        refine va_get (ci := 11) (v := .ref a0_a) (C := RX12) (T := TX12) (N := 43) hx hb htb uX12 hown hK.1 hP 0 rfl rfl 2 (by decide) (htb _ tg_938) (fun _ h9 => h9) rfl dX12_read_73 ?_
        refine lv_iload hx hb dX12_read_76 (lv_at hl 0 rfl) ?_
        refine lv_iconst (v := 3) hx hb dX12_read_78 (by decide) ?_
        refine lv_iadd hx hb dX12_read_79 ?_
        refine lv_iconst (v := 0) hx hb dX12_read_80 (by decide) ?_
        obtain ⟨h_15, hg⟩ := g_gde hg
        refine va_iast hx hb hK.1 hP hD hS 1 0 rfl rfl (inB_vp h_15) dX12_read_81 (fun H locs hP hD hS => ?_)
        obtain ⟨v0_16, ev0_16⟩ : ∃ z, z = sX12_a v0_14 (upd (pX12_a v0_14) ((x4_8 + 3) : Int32).toNatClampNeg 0) := ⟨_, rfl⟩
        have hP : va_P D vwCl (WS_X12_read cI cJ cZ cY a0 a0_a a0_image a0_texts a0_board a0_taken a0_fars a0_before a0_tape a0_pile a0_rows a0_told a0_values a0_truth a0_keeps v0_16) H := by rw [ev0_16]; exact hP
        have hD : va_D A (WS_X12_read cI cJ cZ cY a0 a0_a a0_image a0_texts a0_board a0_taken a0_fars a0_before a0_tape a0_pile a0_rows a0_told a0_values a0_truth a0_keeps v0_16) := by rw [ev0_16]; exact hD
        have hg := g_lte hg v0_16 ev0_16
        refine lv_aload_n hx hb dX12_read_82 rfl (lv_at hl 1 rfl) ?_
        refine va_get (ci := 11) (v := .ref a0_a) (C := RX12) (T := TX12) (N := 43) hx hb htb uX12 hown hK.1 hP 0 rfl rfl 2 (by decide) (htb _ tg_938) (fun _ h9 => h9) rfl dX12_read_83 ?_
        refine lv_iconst (v := 4) hx hb dX12_read_86 (by decide) ?_
        refine lv_dup2_11 hx hb dX12_read_87 rfl rfl ?_
        obtain ⟨h_17, hg⟩ := g_gde hg
        refine va_iald hx hb hK.1 hP 1 0 rfl rfl (inB_vp h_17) dX12_read_88 ?_
        refine lv_iconst (v := 1) hx hb dX12_read_89 (by decide) ?_
        refine lv_iadd hx hb dX12_read_90 ?_
        refine lv_topi (fun x_18 ex_18 => ?_)
        have hg := g_lte hg x_18 ex_18
        obtain ⟨h_19, hg⟩ := g_gde hg
        refine va_iast hx hb hK.1 hP hD hS 1 0 rfl rfl (inB_vp h_19) dX12_read_91 (fun H locs hP hD hS => ?_)
        obtain ⟨v0_20, ev0_20⟩ : ∃ z, z = sX12_a v0_16 (upd (pX12_a v0_16) (4 : Int32).toNatClampNeg x_18) := ⟨_, rfl⟩
        have hP : va_P D vwCl (WS_X12_read cI cJ cZ cY a0 a0_a a0_image a0_texts a0_board a0_taken a0_fars a0_before a0_tape a0_pile a0_rows a0_told a0_values a0_truth a0_keeps v0_20) H := by rw [ev0_20]; exact hP
        have hD : va_D A (WS_X12_read cI cJ cZ cY a0 a0_a a0_image a0_texts a0_board a0_taken a0_fars a0_before a0_tape a0_pile a0_rows a0_told a0_values a0_truth a0_keeps v0_20) := by rw [ev0_20]; exact hD
        have hg := g_lte hg v0_20 ev0_20
        refine lv_aload_n hx hb dX12_read_92 rfl (lv_at hl 1 rfl) ?_
        refine va_get (ci := 11) (v := .ref a0_a) (C := RX12) (T := TX12) (N := 43) hx hb htb uX12 hown hK.1 hP 0 rfl rfl 2 (by decide) (htb _ tg_938) (fun _ h9 => h9) rfl dX12_read_93 ?_
        refine lv_iconst (v := 4) hx hb dX12_read_96 (by decide) ?_
        obtain ⟨h_21, hg⟩ := g_gde hg
        refine va_iald hx hb hK.1 hP 1 0 rfl rfl (inB_vp h_21) dX12_read_97 ?_
        refine lv_iconst (v := 1) hx hb dX12_read_98 (by decide) ?_
        refine lv_isub hx hb dX12_read_99 ?_
        have hg := Option.some.inj hg
        rw [hQ]
        exact W.iret (v := (((pX12_a v0_20) (4 : Int32).toNatClampNeg) - 1)) hx hb hr (fun t ht hW => ⟨⟨(((pX12_a v0_20) (4 : Int32).toNatClampNeg) - 1), (v0_20), rfl, ⟨by rw [← hg], by rw [← hg]⟩, by rw [ht]; exact hP, hD⟩, hS.F ht⟩) hS.2.2 dX12_read_100
      · have hg := g_it hg c_6
        refine lv_iconst (v := (-1)) hx hb dX12_read_27 (by decide) ?_
        have hg := Option.some.inj hg
        rw [hQ]
        exact W.iret (v := (-1)) hx hb hr (fun t ht hW => ⟨⟨(-1), (v0), rfl, ⟨by rw [← hg], by rw [← hg]⟩, by rw [ht]; exact hP, hD⟩, hS.F ht⟩) hS.2.2 dX12_read_28

/-! ManyEyesModel.turned(II)I -/
def WS_X12_turned (cI cJ cZ cY : ClassId) (a0 a0_a a0_image a0_texts a0_board a0_taken a0_fars a0_before a0_tape a0_pile a0_rows a0_told a0_values a0_truth a0_keeps : Nat) (v0 : BX12) : va_W := (GX12 cI cJ cZ cY a0 a0_a a0_image a0_texts a0_board a0_taken a0_fars a0_before a0_tape a0_pile a0_rows a0_told a0_values a0_truth a0_keeps v0)
def f_X12_turned (v0 : BX12) (p0 : Int32) (p1 : Int32) : Option (Int32 × BX12) := g_gd (inB 4 3170) ((f_X12_isIn p0 0 (((pX12_a v0) (4 : Int32).toNatClampNeg) - 1)).bind (fun r_2 => if (r_2 : Int32) = 0 then (some ((-1), v0)) else ((f_X12_isIn p1 (-8) 8).bind (fun r_4 => if (r_4 : Int32) = 0 then (some ((-1), v0)) else (g_lt (((720 : Int32) + ((24 : Int32) * p0)) : Int32) (fun x3_6 => g_gd (inB (x3_6 + 3) 3170) (if (((pX12_a v0) ((x3_6 + 3) : Int32).toNatClampNeg) : Int32) = 20 then (some ((-1), v0)) else (g_gd (inB (x3_6 + 3) 3170) (g_gd (inB ((x3_6 + 4) + ((pX12_a v0) ((x3_6 + 3) : Int32).toNatClampNeg)) 3170) (g_lt (sX12_a v0 (upd (pX12_a v0) (((x3_6 + 4) + ((pX12_a v0) ((x3_6 + 3) : Int32).toNatClampNeg)) : Int32).toNatClampNeg p1)) (fun v0_11 => g_gd (inB (x3_6 + 3) 3170) (g_lt ((((pX12_a v0_11) ((x3_6 + 3) : Int32).toNatClampNeg) + 1) : Int32) (fun x_13 => g_gd (inB (x3_6 + 3) 3170) (g_lt (sX12_a v0_11 (upd (pX12_a v0_11) ((x3_6 + 3) : Int32).toNatClampNeg x_13)) (fun v0_15 => g_gd (inB (x3_6 + 3) 3170) (some (((pX12_a v0_15) ((x3_6 + 3) : Int32).toNatClampNeg), v0_15)))))))))))))))))
abbrev rm_X12_turned : Room := { frames := 1, cells := 0, slots := 0, locals := 22 }
set_option maxHeartbeats 4000000 in
set_option maxRecDepth 100000 in
theorem k_X12_turned {l : Launch} {D : va_G} {cI cJ cZ cY : ClassId} {tX tY : Nat} {sz : Nat} (a0 a0_a a0_image a0_texts a0_board a0_taken a0_fars a0_before a0_tape a0_pile a0_rows a0_told a0_values a0_truth a0_keeps : Nat) (v0 : BX12) (p0 : Int32) (p1 : Int32) (res : Int32 × BX12) (hg : f_X12_turned v0 p0 p1 = some res) : Met l yX12_turned (Cond.code yX12_turned cX12_turned 4 (some .int) :: TB) rm_X12_turned (PC D cI cJ cZ cY tX tY [.ref a0, .int p0, .int p1] (WS_X12_turned cI cJ cZ cY a0 a0_a a0_image a0_texts a0_board a0_taken a0_fars a0_before a0_tape a0_pile a0_rows a0_told a0_values a0_truth a0_keeps v0) sz) (va_Qi (fun (r : Int32) (u : BX12) => r = res.1 ∧ u = res.2) (BC D (fun u : BX12 => WS_X12_turned cI cJ cZ cY a0 a0_a a0_image a0_texts a0_board a0_taken a0_fars a0_before a0_tape a0_pile a0_rows a0_told a0_values a0_truth a0_keeps u) (va_A (WS_X12_turned cI cJ cZ cY a0 a0_a a0_image a0_texts a0_board a0_taken a0_fars a0_before a0_tape a0_pile a0_rows a0_told a0_values a0_truth a0_keeps v0) sz)) (va_A (WS_X12_turned cI cJ cZ cY a0 a0_a a0_image a0_texts a0_board a0_taken a0_fars a0_before a0_tape a0_pile a0_rows a0_told a0_values a0_truth a0_keeps v0) sz)) 0 0 (va_A (WS_X12_turned cI cJ cZ cY a0 a0_a a0_image a0_texts a0_board a0_taken a0_fars a0_before a0_tape a0_pile a0_rows a0_told a0_values a0_truth a0_keeps v0) sz) := by
  refine Met.ofW (cc := cX12_turned) (maxL := 4) (ret := (some .int)) (by decide) rfl ?_
  intro p e s m args below meth c s₁ B hml hv
  obtain ⟨hargs, hsz, hP, hK, hD0, hT⟩ := hv
  have hx := B.exec
  have hb := B.bytes
  have hr := B.returns
  have htb : ∀ w ∈ TB, w.before args s = true := fun w h => atoms_spec (ws := Cond.code yX12_turned cX12_turned 4 (some .int) :: TB) B.pre w (List.mem_cons_of_mem _ h)
  have hown : s.vm.findClass "ManyEyesModel" = some m.cls := findClass_of_methodNamed B.named
  have hlocks := B.notSynchronized
  subst hsz
  have hD := hD0.self (sz := s.heap.size)
  generalize hAe : va_A (WS_X12_turned cI cJ cZ cY a0 a0_a a0_image a0_texts a0_board a0_taken a0_fars a0_before a0_tape a0_pile a0_rows a0_told a0_values a0_truth a0_keeps v0) s.heap.size = A at hD hT ⊢
  have hA : ∀ q : Nat, s.heap.size ≤ q → A q := fun q h => by rw [← hAe]; exact Or.inr h
  have hS : va_S A s.heap s.heap [] := va_S.rf
  have hl := lv_entry ([.ref a0, .int p0, .int p1]) (n := 4) (Nat.le_of_ble_eq_true rfl)
  have he : entryFrame m args 4 = F0 m 0 (lg_sl ([.ref a0, .int p0, .int p1]) ++ List.replicate (4 - (lg_sl ([.ref a0, .int p0, .int p1])).length) Slot.unset).toArray [] := by rw [hargs, lg_entry_eq]
  rw [he]
  generalize (lg_sl ([.ref a0, .int p0, .int p1]) ++ List.replicate (4 - (lg_sl ([.ref a0, .int p0, .int p1])).length) Slot.unset).toArray = ls at hl ⊢
  have hl : lv_has ls 4 [(0, .ref a0), (1, .int p0), (2, .int p1)] := hl
  show W p l e rm_X12_turned s m args below meth c s.heap [] 0 0 _ _
  refine W.genQ (fun Q hQ => ?_)
  generalize hHe : s.heap = H at hP ⊢
  have hS : va_S A s.heap H [] := by rw [← hHe]; exact va_S.rf
  generalize ([] : List Loc) = locs at hS ⊢
  unfold f_X12_turned at hg
  refine lv_iload_n hx hb dX12_turned_0 rfl (lv_at hl 1 rfl) ?_
  refine lv_iconst (v := 0) hx hb dX12_turned_1 (by decide) ?_
  refine lv_aload_n hx hb dX12_turned_2 rfl (lv_at hl 0 rfl) ?_
  refine va_get (ci := 11) (v := .ref a0_a) (C := RX12) (T := TX12) (N := 43) hx hb htb uX12 hown hK.1 hP 0 rfl rfl 2 (by decide) (htb _ tg_938) (fun _ h9 => h9) rfl dX12_turned_3 ?_
  refine lv_iconst (v := 4) hx hb dX12_turned_6 (by decide) ?_
  obtain ⟨h_1, hg⟩ := g_gde hg
  refine va_iald hx hb hK.1 hP 1 0 rfl rfl (inB_vp h_1) dX12_turned_7 ?_
  refine lv_iconst (v := 1) hx hb dX12_turned_8 (by decide) ?_
  refine lv_isub hx hb dX12_turned_9 ?_
  obtain ⟨r_2, hr_2, hg⟩ := g_bd hg
  refine cc_i (va_runS (As := [.int p0, .int 0, .int (((pX12_a v0) (4 : Int32).toNatClampNeg) - 1)]) (rest := []) ⟨hx, hb, hml, hown, htb⟩ (k_X12_isIn p0 0 (((pX12_a v0) (4 : Int32).toNatClampNeg) - 1) r_2 hr_2) (cw_S 3 htb tg_1078 tg_13 tg_1076 tg_1077 rfl rfl (by decide +kernel) ⟨Nat.le_of_ble_eq_true rfl, Nat.le_of_ble_eq_true rfl⟩) ⟨PC.blind, PC.pre hK hT hP hD hS hA [] rfl (by decide)⟩ rfl rfl hl.1 rfl (lv_room (Nat.le_of_ble_eq_true rfl)) dX12_turned_10 ⟨Nat.le_of_ble_eq_true rfl, Nat.le_of_ble_eq_true rfl⟩) hP hD hS hA [] [0, 1, 2, 3, 4, 5, 6, 7, 8, 9, 10, 11, 12, 13, 14] rfl rfl (by decide) (by decide) (fun r9 u9 H locs hw hP hD hS => ?_)
  have hw := hw.symm
  subst hw
  have hP : va_P D vwCl (WS_X12_turned cI cJ cZ cY a0 a0_a a0_image a0_texts a0_board a0_taken a0_fars a0_before a0_tape a0_pile a0_rows a0_told a0_values a0_truth a0_keeps v0) H := hP.sub [0, 1, 2, 3, 4, 5, 6, 7, 8, 9, 10, 11, 12, 13, 14] rfl
  have hD : va_D A (WS_X12_turned cI cJ cZ cY a0 a0_a a0_image a0_texts a0_board a0_taken a0_fars a0_before a0_tape a0_pile a0_rows a0_told a0_values a0_truth a0_keeps v0) := hD.sub [0, 1, 2, 3, 4, 5, 6, 7, 8, 9, 10, 11, 12, 13, 14] (by decide) rfl
  refine lv_if_eq (tgt := 27) hx hb dX12_turned_13 (by decide) (fun c_3 => ?_) (fun c_3 => ?_)
  · have hg := g_it hg c_3
    refine lv_iconst (v := (-1)) hx hb dX12_turned_27 (by decide) ?_
    have hg := Option.some.inj hg
    rw [hQ]
    exact W.iret (v := (-1)) hx hb hr (fun t ht hW => ⟨⟨(-1), (v0), rfl, ⟨by rw [← hg], by rw [← hg]⟩, by rw [ht]; exact hP, hD⟩, hS.F ht⟩) hS.2.2 dX12_turned_28
  · have hg := g_if hg c_3
    refine lv_iload_n hx hb dX12_turned_16 rfl (lv_at hl 2 rfl) ?_
    refine lv_bipush (v := (-8)) hx hb dX12_turned_17 (by decide) ?_
    refine lv_bipush (v := 8) hx hb dX12_turned_19 (by decide) ?_
    obtain ⟨r_4, hr_4, hg⟩ := g_bd hg
    refine cc_i (va_runS (As := [.int p1, .int (-8), .int 8]) (rest := []) ⟨hx, hb, hml, hown, htb⟩ (k_X12_isIn p1 (-8) 8 r_4 hr_4) (cw_S 3 htb tg_1078 tg_13 tg_1076 tg_1077 rfl rfl (by decide +kernel) ⟨Nat.le_of_ble_eq_true rfl, Nat.le_of_ble_eq_true rfl⟩) ⟨PC.blind, PC.pre hK hT hP hD hS hA [] rfl (by decide)⟩ rfl rfl hl.1 rfl (lv_room (Nat.le_of_ble_eq_true rfl)) dX12_turned_21 ⟨Nat.le_of_ble_eq_true rfl, Nat.le_of_ble_eq_true rfl⟩) hP hD hS hA [] [0, 1, 2, 3, 4, 5, 6, 7, 8, 9, 10, 11, 12, 13, 14] rfl rfl (by decide) (by decide) (fun r9 u9 H locs hw hP hD hS => ?_)
    have hw := hw.symm
    subst hw
    have hP : va_P D vwCl (WS_X12_turned cI cJ cZ cY a0 a0_a a0_image a0_texts a0_board a0_taken a0_fars a0_before a0_tape a0_pile a0_rows a0_told a0_values a0_truth a0_keeps v0) H := hP.sub [0, 1, 2, 3, 4, 5, 6, 7, 8, 9, 10, 11, 12, 13, 14] rfl
    have hD : va_D A (WS_X12_turned cI cJ cZ cY a0 a0_a a0_image a0_texts a0_board a0_taken a0_fars a0_before a0_tape a0_pile a0_rows a0_told a0_values a0_truth a0_keeps v0) := hD.sub [0, 1, 2, 3, 4, 5, 6, 7, 8, 9, 10, 11, 12, 13, 14] (by decide) rfl
    refine lv_if_ne (tgt := 29) hx hb dX12_turned_24 (by decide) (fun c_5 => ?_) (fun c_5 => ?_)
    · have hg := g_if hg c_5
      refine lv_sipush (v := 720) hx hb dX12_turned_29 (by decide) ?_
      refine lv_bipush (v := 24) hx hb dX12_turned_32 (by decide) ?_
      refine lv_iload_n hx hb dX12_turned_34 rfl (lv_at hl 1 rfl) ?_
      refine lv_imul hx hb dX12_turned_35 ?_
      refine lv_iadd hx hb dX12_turned_36 ?_
      refine lv_topi (fun x3_6 ex3_6 => ?_)
      have hg := g_lte hg x3_6 ex3_6
      refine lv_istore_n (lv' := [(3, .int x3_6), (0, .ref a0), (1, .int p0), (2, .int p1)]) hx hb dX12_turned_37 rfl hl (by decide) rfl (fun ls hl => ?_)
      refine lv_aload_n hx hb dX12_turned_38 rfl (lv_at hl 1 rfl) ?_
      refine va_get (ci := 11) (v := .ref a0_a) (C := RX12) (T := TX12) (N := 43) hx hb htb uX12 hown hK.1 hP 0 rfl rfl 2 (by decide) (htb _ tg_938) (fun _ h9 => h9) rfl dX12_turned_39 ?_
      refine lv_iload_n hx hb dX12_turned_42 rfl (lv_at hl 0 rfl) ?_
      refine lv_iconst (v := 3) hx hb dX12_turned_43 (by decide) ?_
      refine lv_iadd hx hb dX12_turned_44 ?_
      obtain ⟨h_7, hg⟩ := g_gde hg
      refine va_iald hx hb hK.1 hP 1 0 rfl rfl (inB_vp h_7) dX12_turned_45 ?_
      refine lv_bipush (v := 20) hx hb dX12_turned_46 (by decide) ?_
      refine lv_icmp_ne (tgt := 53) hx hb dX12_turned_48 (by decide) (fun c_8 => ?_) (fun c_8 => ?_)
      · have hg := g_if hg c_8
        refine lv_aload_n hx hb dX12_turned_53 rfl (lv_at hl 1 rfl) ?_
        refine va_get (ci := 11) (v := .ref a0_a) (C := RX12) (T := TX12) (N := 43) hx hb htb uX12 hown hK.1 hP 0 rfl rfl 2 (by decide) (htb _ tg_938) (fun _ h9 => h9) rfl dX12_turned_54 ?_
        refine lv_iload_n hx hb dX12_turned_57 rfl (lv_at hl 0 rfl) ?_
        refine lv_iconst (v := 4) hx hb dX12_turned_58 (by decide) ?_
        refine lv_iadd hx hb dX12_turned_59 ?_
        refine lv_aload_n hx hb dX12_turned_60 rfl (lv_at hl 1 rfl) ?_
        refine va_get (ci := 11) (v := .ref a0_a) (C := RX12) (T := TX12) (N := 43) hx hb htb uX12 hown hK.1 hP 0 rfl rfl 2 (by decide) (htb _ tg_938) (fun _ h9 => h9) rfl dX12_turned_61 ?_
        refine lv_iload_n hx hb dX12_turned_64 rfl (lv_at hl 0 rfl) ?_
        refine lv_iconst (v := 3) hx hb dX12_turned_65 (by decide) ?_
        refine lv_iadd hx hb dX12_turned_66 ?_
        obtain ⟨h_9, hg⟩ := g_gde hg
        refine va_iald hx hb hK.1 hP 1 0 rfl rfl (inB_vp h_9) dX12_turned_67 ?_
        refine lv_iadd hx hb dX12_turned_68 ?_
        refine lv_iload_n hx hb dX12_turned_69 rfl (lv_at hl 3 rfl) ?_
        obtain ⟨h_10, hg⟩ := g_gde hg
        refine va_iast hx hb hK.1 hP hD hS 1 0 rfl rfl (inB_vp h_10) dX12_turned_70 (fun H locs hP hD hS => ?_)
        obtain ⟨v0_11, ev0_11⟩ : ∃ z, z = sX12_a v0 (upd (pX12_a v0) (((x3_6 + 4) + ((pX12_a v0) ((x3_6 + 3) : Int32).toNatClampNeg)) : Int32).toNatClampNeg p1) := ⟨_, rfl⟩
        have hP : va_P D vwCl (WS_X12_turned cI cJ cZ cY a0 a0_a a0_image a0_texts a0_board a0_taken a0_fars a0_before a0_tape a0_pile a0_rows a0_told a0_values a0_truth a0_keeps v0_11) H := by rw [ev0_11]; exact hP
        have hD : va_D A (WS_X12_turned cI cJ cZ cY a0 a0_a a0_image a0_texts a0_board a0_taken a0_fars a0_before a0_tape a0_pile a0_rows a0_told a0_values a0_truth a0_keeps v0_11) := by rw [ev0_11]; exact hD
        have hg := g_lte hg v0_11 ev0_11
        refine lv_aload_n hx hb dX12_turned_71 rfl (lv_at hl 1 rfl) ?_
        refine va_get (ci := 11) (v := .ref a0_a) (C := RX12) (T := TX12) (N := 43) hx hb htb uX12 hown hK.1 hP 0 rfl rfl 2 (by decide) (htb _ tg_938) (fun _ h9 => h9) rfl dX12_turned_72 ?_
        refine lv_iload_n hx hb dX12_turned_75 rfl (lv_at hl 0 rfl) ?_
        refine lv_iconst (v := 3) hx hb dX12_turned_76 (by decide) ?_
        refine lv_iadd hx hb dX12_turned_77 ?_
        refine lv_dup2_11 hx hb dX12_turned_78 rfl rfl ?_
        obtain ⟨h_12, hg⟩ := g_gde hg
        refine va_iald hx hb hK.1 hP 1 0 rfl rfl (inB_vp h_12) dX12_turned_79 ?_
        refine lv_iconst (v := 1) hx hb dX12_turned_80 (by decide) ?_
        refine lv_iadd hx hb dX12_turned_81 ?_
        refine lv_topi (fun x_13 ex_13 => ?_)
        have hg := g_lte hg x_13 ex_13
        obtain ⟨h_14, hg⟩ := g_gde hg
        refine va_iast hx hb hK.1 hP hD hS 1 0 rfl rfl (inB_vp h_14) dX12_turned_82 (fun H locs hP hD hS => ?_)
        obtain ⟨v0_15, ev0_15⟩ : ∃ z, z = sX12_a v0_11 (upd (pX12_a v0_11) ((x3_6 + 3) : Int32).toNatClampNeg x_13) := ⟨_, rfl⟩
        have hP : va_P D vwCl (WS_X12_turned cI cJ cZ cY a0 a0_a a0_image a0_texts a0_board a0_taken a0_fars a0_before a0_tape a0_pile a0_rows a0_told a0_values a0_truth a0_keeps v0_15) H := by rw [ev0_15]; exact hP
        have hD : va_D A (WS_X12_turned cI cJ cZ cY a0 a0_a a0_image a0_texts a0_board a0_taken a0_fars a0_before a0_tape a0_pile a0_rows a0_told a0_values a0_truth a0_keeps v0_15) := by rw [ev0_15]; exact hD
        have hg := g_lte hg v0_15 ev0_15
        refine lv_aload_n hx hb dX12_turned_83 rfl (lv_at hl 1 rfl) ?_
        refine va_get (ci := 11) (v := .ref a0_a) (C := RX12) (T := TX12) (N := 43) hx hb htb uX12 hown hK.1 hP 0 rfl rfl 2 (by decide) (htb _ tg_938) (fun _ h9 => h9) rfl dX12_turned_84 ?_
        refine lv_iload_n hx hb dX12_turned_87 rfl (lv_at hl 0 rfl) ?_
        refine lv_iconst (v := 3) hx hb dX12_turned_88 (by decide) ?_
        refine lv_iadd hx hb dX12_turned_89 ?_
        obtain ⟨h_16, hg⟩ := g_gde hg
        refine va_iald hx hb hK.1 hP 1 0 rfl rfl (inB_vp h_16) dX12_turned_90 ?_
        have hg := Option.some.inj hg
        rw [hQ]
        exact W.iret (v := ((pX12_a v0_15) ((x3_6 + 3) : Int32).toNatClampNeg)) hx hb hr (fun t ht hW => ⟨⟨((pX12_a v0_15) ((x3_6 + 3) : Int32).toNatClampNeg), (v0_15), rfl, ⟨by rw [← hg], by rw [← hg]⟩, by rw [ht]; exact hP, hD⟩, hS.F ht⟩) hS.2.2 dX12_turned_91
      · have hg := g_it hg c_8
        refine lv_iconst (v := (-1)) hx hb dX12_turned_51 (by decide) ?_
        have hg := Option.some.inj hg
        rw [hQ]
        exact W.iret (v := (-1)) hx hb hr (fun t ht hW => ⟨⟨(-1), (v0), rfl, ⟨by rw [← hg], by rw [← hg]⟩, by rw [ht]; exact hP, hD⟩, hS.F ht⟩) hS.2.2 dX12_turned_52
    · have hg := g_it hg c_5
      refine lv_iconst (v := (-1)) hx hb dX12_turned_27 (by decide) ?_
      have hg := Option.some.inj hg
      rw [hQ]
      exact W.iret (v := (-1)) hx hb hr (fun t ht hW => ⟨⟨(-1), (v0), rfl, ⟨by rw [← hg], by rw [← hg]⟩, by rw [ht]; exact hP, hD⟩, hS.F ht⟩) hS.2.2 dX12_turned_28

/-! ManyEyesModel.isKept(I)Z -/
def WS_X12_isKept (cI cJ cZ cY : ClassId) (a0 a0_a a0_image a0_texts a0_board a0_taken a0_fars a0_before a0_tape a0_pile a0_rows a0_told a0_values a0_truth a0_keeps : Nat) (v0 : BX12) : va_W := (GX12 cI cJ cZ cY a0 a0_a a0_image a0_texts a0_board a0_taken a0_fars a0_before a0_tape a0_pile a0_rows a0_told a0_values a0_truth a0_keeps v0)
def f_X12_isKept_b106B (J9 : (Int32 × Int32 × BX12) → Option (Int32 × BX12)) (J106 : Int32 × Int32 × Int32 × Int32 × BX12 → Option (Int32 × BX12)) (x1 : Int32) (x2 : Int32) (x3 : Int32) (x4 : Int32) (v0 : BX12) : Option (Int32 × BX12) := if ((pX12_ticks v0) : Int32) ≤ x4 then (g_lt (x2 + 1 : Int32) (fun x2_2 => J9 (x1, x2_2, v0))) else (g_gd (inB ((38 : Int32) * x4) 2280) (g_gd (inB ((x3 + 4) + x4) 3170) (if (((pX12_rows v0) (((38 : Int32) * x4) : Int32).toNatClampNeg) : Int32) = ((pX12_a v0) (((x3 + 4) + x4) : Int32).toNatClampNeg) then (g_lt (x4 + 1 : Int32) (fun x4_6 => J106 (x1, x2, x3, x4_6, v0))) else (some (0, v0)))))
def f_X12_isKept_b106 (J9 : (Int32 × Int32 × BX12) → Option (Int32 × BX12)) : Nat → (Int32 × Int32 × Int32 × Int32 × BX12) → Option (Int32 × BX12) := g_lp (fun J z => f_X12_isKept_b106B J9 J z.1 z.2.1 z.2.2.1 z.2.2.2.1 z.2.2.2.2)
def f_X12_isKept_b9B (J9 : Int32 × Int32 × BX12 → Option (Int32 × BX12)) (x1 : Int32) (x2 : Int32) (v0 : BX12) : Option (Int32 × BX12) := g_gd (inB 4 3170) (if (((pX12_a v0) (4 : Int32).toNatClampNeg) : Int32) ≤ x2 then (some (1, v0)) else (g_lt (((720 : Int32) + ((24 : Int32) * x2)) : Int32) (fun x3_9 => g_gd (inB x3_9 3170) (g_gd (inB (x3_9 + 1) 3170) ((f_X12_isStart v0 ((pX12_a v0) (x3_9 : Int32).toNatClampNeg) ((pX12_a v0) ((x3_9 + 1) : Int32).toNatClampNeg)).bind (fun r_12 => if (r_12 : Int32) = 0 then (some (0, v0)) else (g_gd (inB x3_9 3170) (g_gd (inB (x3_9 + 1) 3170) (g_gd (inB (x3_9 + 2) 3170) (g_gd (inB (x3_9 + 3) 3170) ((f_X12_run v0 x1 ((pX12_a v0) (x3_9 : Int32).toNatClampNeg) ((pX12_a v0) ((x3_9 + 1) : Int32).toNatClampNeg) ((pX12_a v0) ((x3_9 + 2) : Int32).toNatClampNeg) ((pX12_a v0) ((x3_9 + 3) : Int32).toNatClampNeg)).bind (fun r_18 => g_gd (inB (x3_9 + 3) 3170) (if (((pX12_a r_18) ((x3_9 + 3) : Int32).toNatClampNeg) : Int32) ≤ (pX12_ticks r_18) then (f_X12_isKept_b106 J9 fU (x1, x2, x3_9, 0, r_18)) else (some (0, r_18)))))))))))))))
def f_X12_isKept_b9 : Nat → (Int32 × Int32 × BX12) → Option (Int32 × BX12) := g_lp (fun J z => f_X12_isKept_b9B J z.1 z.2.1 z.2.2)
def f_X12_isKept (v0 : BX12) (p0 : Int32) : Option (Int32 × BX12) := g_lt (sX12_bound v0 1000000) (fun v0_21 => f_X12_isKept_b9 fU (p0, 0, v0_21))
abbrev rm_X12_isKept : Room := { frames := 6, cells := 0, slots := 0, locals := 142 }
set_option maxHeartbeats 4000000 in
set_option maxRecDepth 100000 in
theorem k_X12_isKept {l : Launch} {D : va_G} {cI cJ cZ cY : ClassId} {tX tY : Nat} {sz : Nat} (a0 a0_a a0_image a0_texts a0_board a0_taken a0_fars a0_before a0_tape a0_pile a0_rows a0_told a0_values a0_truth a0_keeps : Nat) (v0 : BX12) (p0 : Int32) (res : Int32 × BX12) (hg : f_X12_isKept v0 p0 = some res) : Met l yX12_isKept (Cond.code yX12_isKept cX12_isKept 5 (some .boolean) :: TB) rm_X12_isKept (PC D cI cJ cZ cY tX tY [.ref a0, .int p0] (WS_X12_isKept cI cJ cZ cY a0 a0_a a0_image a0_texts a0_board a0_taken a0_fars a0_before a0_tape a0_pile a0_rows a0_told a0_values a0_truth a0_keeps v0) sz) (va_Qi (fun (r : Int32) (u : BX12) => r = res.1 ∧ u = res.2) (BC D (fun u : BX12 => WS_X12_isKept cI cJ cZ cY a0 a0_a a0_image a0_texts a0_board a0_taken a0_fars a0_before a0_tape a0_pile a0_rows a0_told a0_values a0_truth a0_keeps u) (va_A (WS_X12_isKept cI cJ cZ cY a0 a0_a a0_image a0_texts a0_board a0_taken a0_fars a0_before a0_tape a0_pile a0_rows a0_told a0_values a0_truth a0_keeps v0) sz)) (va_A (WS_X12_isKept cI cJ cZ cY a0 a0_a a0_image a0_texts a0_board a0_taken a0_fars a0_before a0_tape a0_pile a0_rows a0_told a0_values a0_truth a0_keeps v0) sz)) 0 0 (va_A (WS_X12_isKept cI cJ cZ cY a0 a0_a a0_image a0_texts a0_board a0_taken a0_fars a0_before a0_tape a0_pile a0_rows a0_told a0_values a0_truth a0_keeps v0) sz) := by
  refine Met.ofW (cc := cX12_isKept) (maxL := 5) (ret := (some .boolean)) (by decide) rfl ?_
  intro p e s m args below meth c s₁ B hml hv
  obtain ⟨hargs, hsz, hP, hK, hD0, hT⟩ := hv
  have hx := B.exec
  have hb := B.bytes
  have hr := B.returns
  have htb : ∀ w ∈ TB, w.before args s = true := fun w h => atoms_spec (ws := Cond.code yX12_isKept cX12_isKept 5 (some .boolean) :: TB) B.pre w (List.mem_cons_of_mem _ h)
  have hown : s.vm.findClass "ManyEyesModel" = some m.cls := findClass_of_methodNamed B.named
  have hlocks := B.notSynchronized
  subst hsz
  have hD := hD0.self (sz := s.heap.size)
  generalize hAe : va_A (WS_X12_isKept cI cJ cZ cY a0 a0_a a0_image a0_texts a0_board a0_taken a0_fars a0_before a0_tape a0_pile a0_rows a0_told a0_values a0_truth a0_keeps v0) s.heap.size = A at hD hT ⊢
  have hA : ∀ q : Nat, s.heap.size ≤ q → A q := fun q h => by rw [← hAe]; exact Or.inr h
  have hS : va_S A s.heap s.heap [] := va_S.rf
  have hl := lv_entry ([.ref a0, .int p0]) (n := 5) (Nat.le_of_ble_eq_true rfl)
  have he : entryFrame m args 5 = F0 m 0 (lg_sl ([.ref a0, .int p0]) ++ List.replicate (5 - (lg_sl ([.ref a0, .int p0])).length) Slot.unset).toArray [] := by rw [hargs, lg_entry_eq]
  rw [he]
  generalize (lg_sl ([.ref a0, .int p0]) ++ List.replicate (5 - (lg_sl ([.ref a0, .int p0])).length) Slot.unset).toArray = ls at hl ⊢
  have hl : lv_has ls 5 [(0, .ref a0), (1, .int p0)] := hl
  show W p l e rm_X12_isKept s m args below meth c s.heap [] 0 0 _ _
  refine W.genQ (fun Q hQ => ?_)
  have b_106 : ∀ (J9 : (Int32 × Int32 × BX12) → Option (Int32 × BX12)) (hJ9 : ∀ (x1 : Int32) (x2 : Int32) (v0 : BX12) (H : Heap) (locs : List Loc) (ls : Array Slot), va_P D vwCl (WS_X12_isKept cI cJ cZ cY a0 a0_a a0_image a0_texts a0_board a0_taken a0_fars a0_before a0_tape a0_pile a0_rows a0_told a0_values a0_truth a0_keeps v0) H → va_D A (WS_X12_isKept cI cJ cZ cY a0 a0_a a0_image a0_texts a0_board a0_taken a0_fars a0_before a0_tape a0_pile a0_rows a0_told a0_values a0_truth a0_keeps v0) → va_S A s.heap H locs → lv_has ls 5 [(0, .ref a0), (1, .int x1), (2, .int x2)] → J9 (x1, x2, v0) = some res → W p l e rm_X12_isKept s m args below meth c H locs 0 0 Q (F0 m 9 ls [])) (n : Nat), ∀ (x1 : Int32) (x2 : Int32) (x3 : Int32) (x4 : Int32) (v0 : BX12) (H : Heap) (locs : List Loc) (ls : Array Slot), va_P D vwCl (WS_X12_isKept cI cJ cZ cY a0 a0_a a0_image a0_texts a0_board a0_taken a0_fars a0_before a0_tape a0_pile a0_rows a0_told a0_values a0_truth a0_keeps v0) H → va_D A (WS_X12_isKept cI cJ cZ cY a0 a0_a a0_image a0_texts a0_board a0_taken a0_fars a0_before a0_tape a0_pile a0_rows a0_told a0_values a0_truth a0_keeps v0) → va_S A s.heap H locs → lv_has ls 5 [(0, .ref a0), (1, .int x1), (2, .int x2), (3, .int x3), (4, .int x4)] → f_X12_isKept_b106 J9 n (x1, x2, x3, x4, v0) = some res → W p l e rm_X12_isKept s m args below meth c H locs 0 0 Q (F0 m 106 ls []) := by
    intro J9 hJ9 n
    induction n with
    | zero =>
      intro x1 x2 x3 x4 v0 H locs ls hP hD hS hl hg
      exact (g_lp0 hg).elim
    | succ n ih =>
      intro x1 x2 x3 x4 v0 H locs ls hP hD hS hl hg
      have hg : f_X12_isKept_b106B J9 (f_X12_isKept_b106 J9 n) x1 x2 x3 x4 v0 = some res := hg
      unfold f_X12_isKept_b106B at hg
      refine lv_iload hx hb dX12_isKept_106 (lv_at hl 4 rfl) ?_
      refine lv_aload_n hx hb dX12_isKept_108 rfl (lv_at hl 0 rfl) ?_
      refine va_get (ci := 11) (v := .int (pX12_ticks v0)) (C := RX12) (T := TX12) (N := 43) hx hb htb uX12 hown hK.1 hP 0 rfl rfl 29 (by decide) (htb _ tg_965) (fun _ h9 => h9) rfl dX12_isKept_109 ?_
      refine lv_icmp_ge (tgt := 147) hx hb dX12_isKept_112 (by decide) (fun c_1 => ?_) (fun c_1 => ?_)
      · have hg := g_it hg c_1
        obtain ⟨x2_2, ex2_2⟩ : ∃ z : Int32, z = x2 + 1 := ⟨_, rfl⟩
        have hg := g_lte hg x2_2 ex2_2
        refine lv_iinc (v := x2_2) (lv' := [(2, .int x2_2), (0, .ref a0), (1, .int x1), (3, .int x3), (4, .int x4)]) hx hb dX12_isKept_147 hl (k := 2) rfl (by rw [ex2_2]; rfl) (by decide) rfl (fun ls hl => ?_)
        refine lv_goto (tgt := 9) hx hb dX12_isKept_150 (by decide) ?_
        exact hJ9 x1 x2_2 v0 H locs ls hP hD hS (lv_sub hl [1, 2, 0] rfl) hg
      · have hg := g_if hg c_1
        refine lv_aload_n hx hb dX12_isKept_115 rfl (lv_at hl 0 rfl) ?_
        refine va_get (ci := 11) (v := .ref a0_rows) (C := RX12) (T := TX12) (N := 43) hx hb htb uX12 hown hK.1 hP 0 rfl rfl 35 (by decide) (htb _ tg_971) (fun _ h9 => h9) rfl dX12_isKept_116 ?_
        refine lv_bipush (v := 38) hx hb dX12_isKept_119 (by decide) ?_
        refine lv_iload hx hb dX12_isKept_121 (lv_at hl 4 rfl) ?_
        refine lv_imul hx hb dX12_isKept_123 ?_
        obtain ⟨h_3, hg⟩ := g_gde hg
        refine va_iald hx hb hK.1 hP 10 0 rfl rfl (inB_vp h_3) dX12_isKept_124 ?_
        refine lv_aload_n hx hb dX12_isKept_125 rfl (lv_at hl 0 rfl) ?_
        refine va_get (ci := 11) (v := .ref a0_a) (C := RX12) (T := TX12) (N := 43) hx hb htb uX12 hown hK.1 hP 0 rfl rfl 2 (by decide) (htb _ tg_938) (fun _ h9 => h9) rfl dX12_isKept_126 ?_
        refine lv_iload_n hx hb dX12_isKept_129 rfl (lv_at hl 3 rfl) ?_
        refine lv_iconst (v := 4) hx hb dX12_isKept_130 (by decide) ?_
        refine lv_iadd hx hb dX12_isKept_131 ?_
        refine lv_iload hx hb dX12_isKept_132 (lv_at hl 4 rfl) ?_
        refine lv_iadd hx hb dX12_isKept_134 ?_
        obtain ⟨h_4, hg⟩ := g_gde hg
        refine va_iald hx hb hK.1 hP 1 0 rfl rfl (inB_vp h_4) dX12_isKept_135 ?_
        refine lv_icmp_eq (tgt := 141) hx hb dX12_isKept_136 (by decide) (fun c_5 => ?_) (fun c_5 => ?_)
        · have hg := g_it hg c_5
          obtain ⟨x4_6, ex4_6⟩ : ∃ z : Int32, z = x4 + 1 := ⟨_, rfl⟩
          have hg := g_lte hg x4_6 ex4_6
          refine lv_iinc (v := x4_6) (lv' := [(4, .int x4_6), (0, .ref a0), (1, .int x1), (2, .int x2), (3, .int x3)]) hx hb dX12_isKept_141 hl (k := 4) rfl (by rw [ex4_6]; rfl) (by decide) rfl (fun ls hl => ?_)
          refine lv_goto (tgt := 106) hx hb dX12_isKept_144 (by decide) ?_
          exact ih x1 x2 x3 x4_6 v0 H locs ls hP hD hS (lv_sub hl [1, 2, 3, 4, 0] rfl) hg
        · have hg := g_if hg c_5
          refine lv_iconst (v := 0) hx hb dX12_isKept_139 (by decide) ?_
          have hg := Option.some.inj hg
          rw [hQ]
          exact W.zret (v := 0) (ty := .boolean) hx hb hr rfl (fun t ht hW => ⟨⟨0, (v0), rfl, ⟨by rw [← hg], by rw [← hg]⟩, by rw [ht]; exact hP, hD⟩, hS.F ht⟩) hS.2.2 dX12_isKept_140
  have b_9 : ∀ (n : Nat), ∀ (x1 : Int32) (x2 : Int32) (v0 : BX12) (H : Heap) (locs : List Loc) (ls : Array Slot), va_P D vwCl (WS_X12_isKept cI cJ cZ cY a0 a0_a a0_image a0_texts a0_board a0_taken a0_fars a0_before a0_tape a0_pile a0_rows a0_told a0_values a0_truth a0_keeps v0) H → va_D A (WS_X12_isKept cI cJ cZ cY a0 a0_a a0_image a0_texts a0_board a0_taken a0_fars a0_before a0_tape a0_pile a0_rows a0_told a0_values a0_truth a0_keeps v0) → va_S A s.heap H locs → lv_has ls 5 [(0, .ref a0), (1, .int x1), (2, .int x2)] → f_X12_isKept_b9 n (x1, x2, v0) = some res → W p l e rm_X12_isKept s m args below meth c H locs 0 0 Q (F0 m 9 ls []) := by
    intro n
    induction n with
    | zero =>
      intro x1 x2 v0 H locs ls hP hD hS hl hg
      exact (g_lp0 hg).elim
    | succ n ih =>
      intro x1 x2 v0 H locs ls hP hD hS hl hg
      have hg : f_X12_isKept_b9B (f_X12_isKept_b9 n) x1 x2 v0 = some res := hg
      unfold f_X12_isKept_b9B at hg
      refine lv_iload_n hx hb dX12_isKept_9 rfl (lv_at hl 2 rfl) ?_
      refine lv_aload_n hx hb dX12_isKept_10 rfl (lv_at hl 0 rfl) ?_
      refine va_get (ci := 11) (v := .ref a0_a) (C := RX12) (T := TX12) (N := 43) hx hb htb uX12 hown hK.1 hP 0 rfl rfl 2 (by decide) (htb _ tg_938) (fun _ h9 => h9) rfl dX12_isKept_11 ?_
      refine lv_iconst (v := 4) hx hb dX12_isKept_14 (by decide) ?_
      obtain ⟨h_7, hg⟩ := g_gde hg
      refine va_iald hx hb hK.1 hP 1 0 rfl rfl (inB_vp h_7) dX12_isKept_15 ?_
      refine lv_icmp_ge (tgt := 153) hx hb dX12_isKept_16 (by decide) (fun c_8 => ?_) (fun c_8 => ?_)
      · have hg := g_it hg c_8
        refine lv_iconst (v := 1) hx hb dX12_isKept_153 (by decide) ?_
        have hg := Option.some.inj hg
        rw [hQ]
        exact W.zret (v := 1) (ty := .boolean) hx hb hr rfl (fun t ht hW => ⟨⟨1, (v0), rfl, ⟨by rw [← hg], by rw [← hg]⟩, by rw [ht]; exact hP, hD⟩, hS.F ht⟩) hS.2.2 dX12_isKept_154
      · have hg := g_if hg c_8
        refine lv_sipush (v := 720) hx hb dX12_isKept_19 (by decide) ?_
        refine lv_bipush (v := 24) hx hb dX12_isKept_22 (by decide) ?_
        refine lv_iload_n hx hb dX12_isKept_24 rfl (lv_at hl 2 rfl) ?_
        refine lv_imul hx hb dX12_isKept_25 ?_
        refine lv_iadd hx hb dX12_isKept_26 ?_
        refine lv_topi (fun x3_9 ex3_9 => ?_)
        have hg := g_lte hg x3_9 ex3_9
        refine lv_istore_n (lv' := [(3, .int x3_9), (0, .ref a0), (1, .int x1), (2, .int x2)]) hx hb dX12_isKept_27 rfl hl (by decide) rfl (fun ls hl => ?_)
        refine lv_aload_n hx hb dX12_isKept_28 rfl (lv_at hl 1 rfl) ?_
        refine lv_aload_n hx hb dX12_isKept_29 rfl (lv_at hl 1 rfl) ?_
        refine va_get (ci := 11) (v := .ref a0_a) (C := RX12) (T := TX12) (N := 43) hx hb htb uX12 hown hK.1 hP 0 rfl rfl 2 (by decide) (htb _ tg_938) (fun _ h9 => h9) rfl dX12_isKept_30 ?_
        refine lv_iload_n hx hb dX12_isKept_33 rfl (lv_at hl 0 rfl) ?_
        obtain ⟨h_10, hg⟩ := g_gde hg
        refine va_iald hx hb hK.1 hP 1 0 rfl rfl (inB_vp h_10) dX12_isKept_34 ?_
        refine lv_aload_n hx hb dX12_isKept_35 rfl (lv_at hl 1 rfl) ?_
        refine va_get (ci := 11) (v := .ref a0_a) (C := RX12) (T := TX12) (N := 43) hx hb htb uX12 hown hK.1 hP 0 rfl rfl 2 (by decide) (htb _ tg_938) (fun _ h9 => h9) rfl dX12_isKept_36 ?_
        refine lv_iload_n hx hb dX12_isKept_39 rfl (lv_at hl 0 rfl) ?_
        refine lv_iconst (v := 1) hx hb dX12_isKept_40 (by decide) ?_
        refine lv_iadd hx hb dX12_isKept_41 ?_
        obtain ⟨h_11, hg⟩ := g_gde hg
        refine va_iald hx hb hK.1 hP 1 0 rfl rfl (inB_vp h_11) dX12_isKept_42 ?_
        obtain ⟨r_12, hr_12, hg⟩ := g_bd hg
        refine cc_i (va_runV (C := RX12) (As := [.int ((pX12_a v0) (x3_9 : Int32).toNatClampNeg), .int ((pX12_a v0) ((x3_9 + 1) : Int32).toNatClampNeg)]) (rest := []) ⟨hx, hb, hml, hown, htb⟩ (k_X12_isStart a0 a0_a a0_image a0_texts a0_board a0_taken a0_fars a0_before a0_tape a0_pile a0_rows a0_told a0_values a0_truth a0_keeps v0 ((pX12_a v0) (x3_9 : Int32).toNatClampNeg) ((pX12_a v0) ((x3_9 + 1) : Int32).toNatClampNeg) r_12 hr_12) (cw_V 2 htb tg_1309 tg_13 tg_1306 tg_1308 ts_62 rfl rfl (by decide +kernel) ⟨Nat.le_of_ble_eq_true rfl, Nat.le_of_ble_eq_true rfl⟩) ⟨PC.blind, va_recv hK.1 hP (ci := 11) (q0 := 0) rfl rfl, PC.pre hK hT hP hD hS hA [0, 1, 2, 3, 4, 5, 6, 7, 8, 9, 10, 11, 12, 13, 14] rfl (by decide)⟩ rfl rfl hl.1 rfl (lv_room (Nat.le_of_ble_eq_true rfl)) dX12_isKept_43 ⟨Nat.le_of_ble_eq_true rfl, Nat.le_of_ble_eq_true rfl⟩) hP hD hS hA [0, 1, 2, 3, 4, 5, 6, 7, 8, 9, 10, 11, 12, 13, 14] [] rfl rfl (by decide) (by decide) (fun r9 u9 H locs hw hP hD hS => ?_)
        have hw := hw.symm
        subst hw
        have hP : va_P D vwCl (WS_X12_isKept cI cJ cZ cY a0 a0_a a0_image a0_texts a0_board a0_taken a0_fars a0_before a0_tape a0_pile a0_rows a0_told a0_values a0_truth a0_keeps v0) H := hP.sub [0, 1, 2, 3, 4, 5, 6, 7, 8, 9, 10, 11, 12, 13, 14] rfl
        have hD : va_D A (WS_X12_isKept cI cJ cZ cY a0 a0_a a0_image a0_texts a0_board a0_taken a0_fars a0_before a0_tape a0_pile a0_rows a0_told a0_values a0_truth a0_keeps v0) := hD.sub [0, 1, 2, 3, 4, 5, 6, 7, 8, 9, 10, 11, 12, 13, 14] (by decide) rfl
        refine lv_if_ne (tgt := 51) hx hb dX12_isKept_46 (by decide) (fun c_13 => ?_) (fun c_13 => ?_)
        · have hg := g_if hg c_13
          refine lv_aload_n hx hb dX12_isKept_51 rfl (lv_at hl 1 rfl) ?_
          refine lv_iload_n hx hb dX12_isKept_52 rfl (lv_at hl 2 rfl) ?_
          refine lv_aload_n hx hb dX12_isKept_53 rfl (lv_at hl 1 rfl) ?_
          refine va_get (ci := 11) (v := .ref a0_a) (C := RX12) (T := TX12) (N := 43) hx hb htb uX12 hown hK.1 hP 0 rfl rfl 2 (by decide) (htb _ tg_938) (fun _ h9 => h9) rfl dX12_isKept_54 ?_
          refine lv_iload_n hx hb dX12_isKept_57 rfl (lv_at hl 0 rfl) ?_
          obtain ⟨h_14, hg⟩ := g_gde hg
          refine va_iald hx hb hK.1 hP 1 0 rfl rfl (inB_vp h_14) dX12_isKept_58 ?_
          refine lv_aload_n hx hb dX12_isKept_59 rfl (lv_at hl 1 rfl) ?_
          refine va_get (ci := 11) (v := .ref a0_a) (C := RX12) (T := TX12) (N := 43) hx hb htb uX12 hown hK.1 hP 0 rfl rfl 2 (by decide) (htb _ tg_938) (fun _ h9 => h9) rfl dX12_isKept_60 ?_
          refine lv_iload_n hx hb dX12_isKept_63 rfl (lv_at hl 0 rfl) ?_
          refine lv_iconst (v := 1) hx hb dX12_isKept_64 (by decide) ?_
          refine lv_iadd hx hb dX12_isKept_65 ?_
          obtain ⟨h_15, hg⟩ := g_gde hg
          refine va_iald hx hb hK.1 hP 1 0 rfl rfl (inB_vp h_15) dX12_isKept_66 ?_
          refine lv_aload_n hx hb dX12_isKept_67 rfl (lv_at hl 1 rfl) ?_
          refine va_get (ci := 11) (v := .ref a0_a) (C := RX12) (T := TX12) (N := 43) hx hb htb uX12 hown hK.1 hP 0 rfl rfl 2 (by decide) (htb _ tg_938) (fun _ h9 => h9) rfl dX12_isKept_68 ?_
          refine lv_iload_n hx hb dX12_isKept_71 rfl (lv_at hl 0 rfl) ?_
          refine lv_iconst (v := 2) hx hb dX12_isKept_72 (by decide) ?_
          refine lv_iadd hx hb dX12_isKept_73 ?_
          obtain ⟨h_16, hg⟩ := g_gde hg
          refine va_iald hx hb hK.1 hP 1 0 rfl rfl (inB_vp h_16) dX12_isKept_74 ?_
          refine lv_aload_n hx hb dX12_isKept_75 rfl (lv_at hl 1 rfl) ?_
          refine va_get (ci := 11) (v := .ref a0_a) (C := RX12) (T := TX12) (N := 43) hx hb htb uX12 hown hK.1 hP 0 rfl rfl 2 (by decide) (htb _ tg_938) (fun _ h9 => h9) rfl dX12_isKept_76 ?_
          refine lv_iload_n hx hb dX12_isKept_79 rfl (lv_at hl 0 rfl) ?_
          refine lv_iconst (v := 3) hx hb dX12_isKept_80 (by decide) ?_
          refine lv_iadd hx hb dX12_isKept_81 ?_
          obtain ⟨h_17, hg⟩ := g_gde hg
          refine va_iald hx hb hK.1 hP 1 0 rfl rfl (inB_vp h_17) dX12_isKept_82 ?_
          obtain ⟨r_18, hr_18, hg⟩ := g_bd hg
          refine cc_v (va_runV (C := RX12) (As := [.int x1, .int ((pX12_a v0) (x3_9 : Int32).toNatClampNeg), .int ((pX12_a v0) ((x3_9 + 1) : Int32).toNatClampNeg), .int ((pX12_a v0) ((x3_9 + 2) : Int32).toNatClampNeg), .int ((pX12_a v0) ((x3_9 + 3) : Int32).toNatClampNeg)]) (rest := []) ⟨hx, hb, hml, hown, htb⟩ (k_X12_run a0 a0_a a0_image a0_texts a0_board a0_taken a0_fars a0_before a0_tape a0_pile a0_rows a0_told a0_values a0_truth a0_keeps v0 x1 ((pX12_a v0) (x3_9 : Int32).toNatClampNeg) ((pX12_a v0) ((x3_9 + 1) : Int32).toNatClampNeg) ((pX12_a v0) ((x3_9 + 2) : Int32).toNatClampNeg) ((pX12_a v0) ((x3_9 + 3) : Int32).toNatClampNeg) r_18 hr_18) (cw_V 5 htb tg_1314 tg_13 tg_1311 tg_1313 ts_63 rfl rfl (by decide +kernel) ⟨Nat.le_of_ble_eq_true rfl, Nat.le_of_ble_eq_true rfl⟩) ⟨PC.blind, va_recv hK.1 hP (ci := 11) (q0 := 0) rfl rfl, PC.pre hK hT hP hD hS hA [0, 1, 2, 3, 4, 5, 6, 7, 8, 9, 10, 11, 12, 13, 14] rfl (by decide)⟩ rfl rfl hl.1 rfl (lv_room (Nat.le_of_ble_eq_true rfl)) dX12_isKept_83 ⟨Nat.le_of_ble_eq_true rfl, Nat.le_of_ble_eq_true rfl⟩) hP hD hS hA [0, 1, 2, 3, 4, 5, 6, 7, 8, 9, 10, 11, 12, 13, 14] [] rfl rfl (by decide) (by decide) (fun u9 H locs hw hP hD hS => ?_)
          have hw := hw.symm
          subst hw
          have hP : va_P D vwCl (WS_X12_isKept cI cJ cZ cY a0 a0_a a0_image a0_texts a0_board a0_taken a0_fars a0_before a0_tape a0_pile a0_rows a0_told a0_values a0_truth a0_keeps r_18) H := hP.sub [0, 1, 2, 3, 4, 5, 6, 7, 8, 9, 10, 11, 12, 13, 14] rfl
          have hD : va_D A (WS_X12_isKept cI cJ cZ cY a0 a0_a a0_image a0_texts a0_board a0_taken a0_fars a0_before a0_tape a0_pile a0_rows a0_told a0_values a0_truth a0_keeps r_18) := hD.sub [0, 1, 2, 3, 4, 5, 6, 7, 8, 9, 10, 11, 12, 13, 14] (by decide) rfl
          refine lv_aload_n hx hb dX12_isKept_86 rfl (lv_at hl 1 rfl) ?_
          refine va_get (ci := 11) (v := .int (pX12_ticks r_18)) (C := RX12) (T := TX12) (N := 43) hx hb htb uX12 hown hK.1 hP 0 rfl rfl 29 (by decide) (htb _ tg_965) (fun _ h9 => h9) rfl dX12_isKept_87 ?_
          refine lv_aload_n hx hb dX12_isKept_90 rfl (lv_at hl 1 rfl) ?_
          refine va_get (ci := 11) (v := .ref a0_a) (C := RX12) (T := TX12) (N := 43) hx hb htb uX12 hown hK.1 hP 0 rfl rfl 2 (by decide) (htb _ tg_938) (fun _ h9 => h9) rfl dX12_isKept_91 ?_
          refine lv_iload_n hx hb dX12_isKept_94 rfl (lv_at hl 0 rfl) ?_
          refine lv_iconst (v := 3) hx hb dX12_isKept_95 (by decide) ?_
          refine lv_iadd hx hb dX12_isKept_96 ?_
          obtain ⟨h_19, hg⟩ := g_gde hg
          refine va_iald hx hb hK.1 hP 1 0 rfl rfl (inB_vp h_19) dX12_isKept_97 ?_
          refine lv_icmp_ge (tgt := 103) hx hb dX12_isKept_98 (by decide) (fun c_20 => ?_) (fun c_20 => ?_)
          · have hg := g_it hg c_20
            refine lv_iconst (v := 0) hx hb dX12_isKept_103 (by decide) ?_
            refine lv_istore (lv' := [(4, .int 0), (3, .int x3_9), (0, .ref a0), (1, .int x1), (2, .int x2)]) hx hb dX12_isKept_104 hl (by decide) rfl (fun ls hl => ?_)
            exact b_106 (f_X12_isKept_b9 n) ih fU x1 x2 x3_9 0 r_18 H locs ls hP hD hS (lv_sub hl [2, 3, 4, 1, 0] rfl) hg
          · have hg := g_if hg c_20
            refine lv_iconst (v := 0) hx hb dX12_isKept_101 (by decide) ?_
            have hg := Option.some.inj hg
            rw [hQ]
            exact W.zret (v := 0) (ty := .boolean) hx hb hr rfl (fun t ht hW => ⟨⟨0, (r_18), rfl, ⟨by rw [← hg], by rw [← hg]⟩, by rw [ht]; exact hP, hD⟩, hS.F ht⟩) hS.2.2 dX12_isKept_102
        · have hg := g_it hg c_13
          refine lv_iconst (v := 0) hx hb dX12_isKept_49 (by decide) ?_
          have hg := Option.some.inj hg
          rw [hQ]
          exact W.zret (v := 0) (ty := .boolean) hx hb hr rfl (fun t ht hW => ⟨⟨0, (v0), rfl, ⟨by rw [← hg], by rw [← hg]⟩, by rw [ht]; exact hP, hD⟩, hS.F ht⟩) hS.2.2 dX12_isKept_50
  generalize hHe : s.heap = H at hP ⊢
  have hS : va_S A s.heap H [] := by rw [← hHe]; exact va_S.rf
  generalize ([] : List Loc) = locs at hS ⊢
  unfold f_X12_isKept at hg
  refine lv_aload_n hx hb dX12_isKept_0 rfl (lv_at hl 0 rfl) ?_
  refine lv_ldc2 (v := 1000000) hx hb hown (htb _ tg_1310) dX12_isKept_1 ?_
  refine va_put (ci := 11) (v := .long 1000000) (ty := .long) (C := RX12) (T := TX12) (N := 43) hx hb htb uX12 tyX12 tyX12_ok nmX12 hown hK.1 hP hD hS 0 rfl rfl 27 (by decide) (htb _ tg_963) (fun _ h9 => h9) rfl (by decide +kernel) rfl rfl (Nat.le_of_ble_eq_true rfl) dX12_isKept_4 (fun H locs hP hD hS => ?_)
  obtain ⟨v0_21, ev0_21⟩ : ∃ z, z = sX12_bound v0 1000000 := ⟨_, rfl⟩
  have hP : va_P D vwCl (WS_X12_isKept cI cJ cZ cY a0 a0_a a0_image a0_texts a0_board a0_taken a0_fars a0_before a0_tape a0_pile a0_rows a0_told a0_values a0_truth a0_keeps v0_21) H := by rw [ev0_21]; exact hP
  have hD : va_D A (WS_X12_isKept cI cJ cZ cY a0 a0_a a0_image a0_texts a0_board a0_taken a0_fars a0_before a0_tape a0_pile a0_rows a0_told a0_values a0_truth a0_keeps v0_21) := by rw [ev0_21]; exact hD
  have hg := g_lte hg v0_21 ev0_21
  refine lv_iconst (v := 0) hx hb dX12_isKept_7 (by decide) ?_
  refine lv_istore_n (lv' := [(2, .int 0), (0, .ref a0), (1, .int p0)]) hx hb dX12_isKept_8 rfl hl (by decide) rfl (fun ls hl => ?_)
  exact b_9 fU p0 0 v0_21 H locs ls hP hD hS (lv_sub hl [1, 2, 0] rfl) hg

/-! ManyEyesModel.kept(I)I -/
def WS_X12_kept (cI cJ cZ cY : ClassId) (a0 a0_a a0_image a0_texts a0_board a0_taken a0_fars a0_before a0_tape a0_pile a0_rows a0_told a0_values a0_truth a0_keeps : Nat) (v0 : BX12) : va_W := (GX12 cI cJ cZ cY a0 a0_a a0_image a0_texts a0_board a0_taken a0_fars a0_before a0_tape a0_pile a0_rows a0_told a0_values a0_truth a0_keeps v0)
def f_X12_kept_b59 (J35 : (Int32 × Int32 × BX12) → Option (Int32 × BX12)) (x3 : Int32) (t0 : Int32) (t1 : Int32) (v0 : BX12) : Option (Int32 × BX12) := g_lt ((t0 + t1) : Int32) (fun x2_1 => g_lt (x3 + 1 : Int32) (fun x3_2 => J35 (x2_1, x3_2, v0)))
def f_X12_kept_b35B (J35 : Int32 × Int32 × BX12 → Option (Int32 × BX12)) (x2 : Int32) (x3 : Int32) (v0 : BX12) : Option (Int32 × BX12) := g_gd (inB 3 3170) (if (((pX12_a v0) (3 : Int32).toNatClampNeg) : Int32) ≤ x3 then (some (x2, v0)) else ((f_X12_isKept v0 x3).bind (fun r_5 => if (r_5.1 : Int32) = 0 then (f_X12_kept_b59 J35 x3 x2 0 r_5.2) else (f_X12_kept_b59 J35 x3 x2 1 r_5.2))))
def f_X12_kept_b35 : Nat → (Int32 × Int32 × BX12) → Option (Int32 × BX12) := g_lp (fun J z => f_X12_kept_b35B J z.1 z.2.1 z.2.2)
def f_X12_kept (v0 : BX12) (p0 : Int32) : Option (Int32 × BX12) := if (p0 : Int32) = (-1) then (f_X12_kept_b35 fU (0, 0, v0)) else ((f_X12_isRule v0 p0).bind (fun r_8 => if (r_8 : Int32) = 0 then (some ((-1), v0)) else ((f_X12_isKept v0 p0).bind (fun r_10 => if (r_10.1 : Int32) = 0 then (some (0, r_10.2)) else (some (1, r_10.2))))))
abbrev rm_X12_kept : Room := { frames := 7, cells := 0, slots := 0, locals := 166 }
set_option maxHeartbeats 4000000 in
set_option maxRecDepth 100000 in
theorem k_X12_kept {l : Launch} {D : va_G} {cI cJ cZ cY : ClassId} {tX tY : Nat} {sz : Nat} (a0 a0_a a0_image a0_texts a0_board a0_taken a0_fars a0_before a0_tape a0_pile a0_rows a0_told a0_values a0_truth a0_keeps : Nat) (v0 : BX12) (p0 : Int32) (res : Int32 × BX12) (hg : f_X12_kept v0 p0 = some res) : Met l yX12_kept (Cond.code yX12_kept cX12_kept 4 (some .int) :: TB) rm_X12_kept (PC D cI cJ cZ cY tX tY [.ref a0, .int p0] (WS_X12_kept cI cJ cZ cY a0 a0_a a0_image a0_texts a0_board a0_taken a0_fars a0_before a0_tape a0_pile a0_rows a0_told a0_values a0_truth a0_keeps v0) sz) (va_Qi (fun (r : Int32) (u : BX12) => r = res.1 ∧ u = res.2) (BC D (fun u : BX12 => WS_X12_kept cI cJ cZ cY a0 a0_a a0_image a0_texts a0_board a0_taken a0_fars a0_before a0_tape a0_pile a0_rows a0_told a0_values a0_truth a0_keeps u) (va_A (WS_X12_kept cI cJ cZ cY a0 a0_a a0_image a0_texts a0_board a0_taken a0_fars a0_before a0_tape a0_pile a0_rows a0_told a0_values a0_truth a0_keeps v0) sz)) (va_A (WS_X12_kept cI cJ cZ cY a0 a0_a a0_image a0_texts a0_board a0_taken a0_fars a0_before a0_tape a0_pile a0_rows a0_told a0_values a0_truth a0_keeps v0) sz)) 0 0 (va_A (WS_X12_kept cI cJ cZ cY a0 a0_a a0_image a0_texts a0_board a0_taken a0_fars a0_before a0_tape a0_pile a0_rows a0_told a0_values a0_truth a0_keeps v0) sz) := by
  refine Met.ofW (cc := cX12_kept) (maxL := 4) (ret := (some .int)) (by decide) rfl ?_
  intro p e s m args below meth c s₁ B hml hv
  obtain ⟨hargs, hsz, hP, hK, hD0, hT⟩ := hv
  have hx := B.exec
  have hb := B.bytes
  have hr := B.returns
  have htb : ∀ w ∈ TB, w.before args s = true := fun w h => atoms_spec (ws := Cond.code yX12_kept cX12_kept 4 (some .int) :: TB) B.pre w (List.mem_cons_of_mem _ h)
  have hown : s.vm.findClass "ManyEyesModel" = some m.cls := findClass_of_methodNamed B.named
  have hlocks := B.notSynchronized
  subst hsz
  have hD := hD0.self (sz := s.heap.size)
  generalize hAe : va_A (WS_X12_kept cI cJ cZ cY a0 a0_a a0_image a0_texts a0_board a0_taken a0_fars a0_before a0_tape a0_pile a0_rows a0_told a0_values a0_truth a0_keeps v0) s.heap.size = A at hD hT ⊢
  have hA : ∀ q : Nat, s.heap.size ≤ q → A q := fun q h => by rw [← hAe]; exact Or.inr h
  have hS : va_S A s.heap s.heap [] := va_S.rf
  have hl := lv_entry ([.ref a0, .int p0]) (n := 4) (Nat.le_of_ble_eq_true rfl)
  have he : entryFrame m args 4 = F0 m 0 (lg_sl ([.ref a0, .int p0]) ++ List.replicate (4 - (lg_sl ([.ref a0, .int p0])).length) Slot.unset).toArray [] := by rw [hargs, lg_entry_eq]
  rw [he]
  generalize (lg_sl ([.ref a0, .int p0]) ++ List.replicate (4 - (lg_sl ([.ref a0, .int p0])).length) Slot.unset).toArray = ls at hl ⊢
  have hl : lv_has ls 4 [(0, .ref a0), (1, .int p0)] := hl
  show W p l e rm_X12_kept s m args below meth c s.heap [] 0 0 _ _
  refine W.genQ (fun Q hQ => ?_)
  have b_59 : ∀ (J35 : (Int32 × Int32 × BX12) → Option (Int32 × BX12)) (hJ35 : ∀ (x2 : Int32) (x3 : Int32) (v0 : BX12) (H : Heap) (locs : List Loc) (ls : Array Slot), va_P D vwCl (WS_X12_kept cI cJ cZ cY a0 a0_a a0_image a0_texts a0_board a0_taken a0_fars a0_before a0_tape a0_pile a0_rows a0_told a0_values a0_truth a0_keeps v0) H → va_D A (WS_X12_kept cI cJ cZ cY a0 a0_a a0_image a0_texts a0_board a0_taken a0_fars a0_before a0_tape a0_pile a0_rows a0_told a0_values a0_truth a0_keeps v0) → va_S A s.heap H locs → lv_has ls 4 [(0, .ref a0), (2, .int x2), (3, .int x3)] → J35 (x2, x3, v0) = some res → W p l e rm_X12_kept s m args below meth c H locs 0 0 Q (F0 m 35 ls [])), ∀ (x3 : Int32) (t0 : Int32) (t1 : Int32) (v0 : BX12) (H : Heap) (locs : List Loc) (ls : Array Slot), va_P D vwCl (WS_X12_kept cI cJ cZ cY a0 a0_a a0_image a0_texts a0_board a0_taken a0_fars a0_before a0_tape a0_pile a0_rows a0_told a0_values a0_truth a0_keeps v0) H → va_D A (WS_X12_kept cI cJ cZ cY a0 a0_a a0_image a0_texts a0_board a0_taken a0_fars a0_before a0_tape a0_pile a0_rows a0_told a0_values a0_truth a0_keeps v0) → va_S A s.heap H locs → lv_has ls 4 [(0, .ref a0), (3, .int x3)] → f_X12_kept_b59 J35 x3 t0 t1 v0 = some res → W p l e rm_X12_kept s m args below meth c H locs 0 0 Q (F0 m 59 ls [.int t1, .int t0]) := by
    intro J35 hJ35 x3 t0 t1 v0 H locs ls hP hD hS hl hg
    unfold f_X12_kept_b59 at hg
    refine lv_iadd hx hb dX12_kept_59 ?_
    refine lv_topi (fun x2_1 ex2_1 => ?_)
    have hg := g_lte hg x2_1 ex2_1
    refine lv_istore_n (lv' := [(2, .int x2_1), (0, .ref a0), (3, .int x3)]) hx hb dX12_kept_60 rfl hl (by decide) rfl (fun ls hl => ?_)
    obtain ⟨x3_2, ex3_2⟩ : ∃ z : Int32, z = x3 + 1 := ⟨_, rfl⟩
    have hg := g_lte hg x3_2 ex3_2
    refine lv_iinc (v := x3_2) (lv' := [(3, .int x3_2), (2, .int x2_1), (0, .ref a0)]) hx hb dX12_kept_61 hl (k := 2) rfl (by rw [ex3_2]; rfl) (by decide) rfl (fun ls hl => ?_)
    refine lv_goto (tgt := 35) hx hb dX12_kept_64 (by decide) ?_
    exact hJ35 x2_1 x3_2 v0 H locs ls hP hD hS (lv_sub hl [2, 1, 0] rfl) hg
  have b_35 : ∀ (n : Nat), ∀ (x2 : Int32) (x3 : Int32) (v0 : BX12) (H : Heap) (locs : List Loc) (ls : Array Slot), va_P D vwCl (WS_X12_kept cI cJ cZ cY a0 a0_a a0_image a0_texts a0_board a0_taken a0_fars a0_before a0_tape a0_pile a0_rows a0_told a0_values a0_truth a0_keeps v0) H → va_D A (WS_X12_kept cI cJ cZ cY a0 a0_a a0_image a0_texts a0_board a0_taken a0_fars a0_before a0_tape a0_pile a0_rows a0_told a0_values a0_truth a0_keeps v0) → va_S A s.heap H locs → lv_has ls 4 [(0, .ref a0), (2, .int x2), (3, .int x3)] → f_X12_kept_b35 n (x2, x3, v0) = some res → W p l e rm_X12_kept s m args below meth c H locs 0 0 Q (F0 m 35 ls []) := by
    intro n
    induction n with
    | zero =>
      intro x2 x3 v0 H locs ls hP hD hS hl hg
      exact (g_lp0 hg).elim
    | succ n ih =>
      intro x2 x3 v0 H locs ls hP hD hS hl hg
      have hg : f_X12_kept_b35B (f_X12_kept_b35 n) x2 x3 v0 = some res := hg
      unfold f_X12_kept_b35B at hg
      refine lv_iload_n hx hb dX12_kept_35 rfl (lv_at hl 2 rfl) ?_
      refine lv_aload_n hx hb dX12_kept_36 rfl (lv_at hl 0 rfl) ?_
      refine va_get (ci := 11) (v := .ref a0_a) (C := RX12) (T := TX12) (N := 43) hx hb htb uX12 hown hK.1 hP 0 rfl rfl 2 (by decide) (htb _ tg_938) (fun _ h9 => h9) rfl dX12_kept_37 ?_
      refine lv_iconst (v := 3) hx hb dX12_kept_40 (by decide) ?_
      obtain ⟨h_3, hg⟩ := g_gde hg
      refine va_iald hx hb hK.1 hP 1 0 rfl rfl (inB_vp h_3) dX12_kept_41 ?_
      refine lv_icmp_ge (tgt := 67) hx hb dX12_kept_42 (by decide) (fun c_4 => ?_) (fun c_4 => ?_)
      · have hg := g_it hg c_4
        refine lv_iload_n hx hb dX12_kept_67 rfl (lv_at hl 1 rfl) ?_
        have hg := Option.some.inj hg
        rw [hQ]
        exact W.iret (v := x2) hx hb hr (fun t ht hW => ⟨⟨x2, (v0), rfl, ⟨by rw [← hg], by rw [← hg]⟩, by rw [ht]; exact hP, hD⟩, hS.F ht⟩) hS.2.2 dX12_kept_68
      · have hg := g_if hg c_4
        refine lv_iload_n hx hb dX12_kept_45 rfl (lv_at hl 1 rfl) ?_
        refine lv_aload_n hx hb dX12_kept_46 rfl (lv_at hl 0 rfl) ?_
        refine lv_iload_n hx hb dX12_kept_47 rfl (lv_at hl 2 rfl) ?_
        obtain ⟨r_5, hr_5, hg⟩ := g_bd hg
        refine cc_i (va_runV (C := RX12) (As := [.int x3]) (rest := [.int x2]) ⟨hx, hb, hml, hown, htb⟩ (k_X12_isKept a0 a0_a a0_image a0_texts a0_board a0_taken a0_fars a0_before a0_tape a0_pile a0_rows a0_told a0_values a0_truth a0_keeps v0 x3 r_5 hr_5) (cw_V 1 htb tg_1373 tg_13 tg_1370 tg_1372 ts_70 rfl rfl (by decide +kernel) ⟨Nat.le_of_ble_eq_true rfl, Nat.le_of_ble_eq_true rfl⟩) ⟨PC.blind, va_recv hK.1 hP (ci := 11) (q0 := 0) rfl rfl, PC.pre hK hT hP hD hS hA [0, 1, 2, 3, 4, 5, 6, 7, 8, 9, 10, 11, 12, 13, 14] rfl (by decide)⟩ rfl rfl hl.1 rfl (lv_room (Nat.le_of_ble_eq_true rfl)) dX12_kept_48 ⟨Nat.le_of_ble_eq_true rfl, Nat.le_of_ble_eq_true rfl⟩) hP hD hS hA [0, 1, 2, 3, 4, 5, 6, 7, 8, 9, 10, 11, 12, 13, 14] [] rfl rfl (by decide) (by decide) (fun r9 u9 H locs hw hP hD hS => ?_)
        obtain ⟨rfl, rfl⟩ := hw
        have hP : va_P D vwCl (WS_X12_kept cI cJ cZ cY a0 a0_a a0_image a0_texts a0_board a0_taken a0_fars a0_before a0_tape a0_pile a0_rows a0_told a0_values a0_truth a0_keeps r_5.2) H := hP.sub [0, 1, 2, 3, 4, 5, 6, 7, 8, 9, 10, 11, 12, 13, 14] rfl
        have hD : va_D A (WS_X12_kept cI cJ cZ cY a0 a0_a a0_image a0_texts a0_board a0_taken a0_fars a0_before a0_tape a0_pile a0_rows a0_told a0_values a0_truth a0_keeps r_5.2) := hD.sub [0, 1, 2, 3, 4, 5, 6, 7, 8, 9, 10, 11, 12, 13, 14] (by decide) rfl
        refine lv_if_eq (tgt := 58) hx hb dX12_kept_51 (by decide) (fun c_6 => ?_) (fun c_6 => ?_)
        · have hg := g_it hg c_6
          refine lv_iconst (v := 0) hx hb dX12_kept_58 (by decide) ?_
          exact b_59 (f_X12_kept_b35 n) ih x3 x2 0 r_5.2 H locs ls hP hD hS (lv_sub hl [0, 2] rfl) hg
        · have hg := g_if hg c_6
          refine lv_iconst (v := 1) hx hb dX12_kept_54 (by decide) ?_
          refine lv_goto (tgt := 59) hx hb dX12_kept_55 (by decide) ?_
          exact b_59 (f_X12_kept_b35 n) ih x3 x2 1 r_5.2 H locs ls hP hD hS (lv_sub hl [0, 2] rfl) hg
  generalize hHe : s.heap = H at hP ⊢
  have hS : va_S A s.heap H [] := by rw [← hHe]; exact va_S.rf
  generalize ([] : List Loc) = locs at hS ⊢
  unfold f_X12_kept at hg
  refine lv_iload_n hx hb dX12_kept_0 rfl (lv_at hl 1 rfl) ?_
  refine lv_iconst (v := (-1)) hx hb dX12_kept_1 (by decide) ?_
  refine lv_icmp_eq (tgt := 31) hx hb dX12_kept_2 (by decide) (fun c_7 => ?_) (fun c_7 => ?_)
  · have hg := g_it hg c_7
    refine lv_iconst (v := 0) hx hb dX12_kept_31 (by decide) ?_
    refine lv_istore_n (lv' := [(2, .int 0), (0, .ref a0), (1, .int p0)]) hx hb dX12_kept_32 rfl hl (by decide) rfl (fun ls hl => ?_)
    refine lv_iconst (v := 0) hx hb dX12_kept_33 (by decide) ?_
    refine lv_istore_n (lv' := [(3, .int 0), (2, .int 0), (0, .ref a0), (1, .int p0)]) hx hb dX12_kept_34 rfl hl (by decide) rfl (fun ls hl => ?_)
    exact b_35 fU 0 0 v0 H locs ls hP hD hS (lv_sub hl [2, 1, 0] rfl) hg
  · have hg := g_if hg c_7
    refine lv_aload_n hx hb dX12_kept_5 rfl (lv_at hl 0 rfl) ?_
    refine lv_iload_n hx hb dX12_kept_6 rfl (lv_at hl 1 rfl) ?_
    obtain ⟨r_8, hr_8, hg⟩ := g_bd hg
    refine cc_i (va_runV (C := RX12) (As := [.int p0]) (rest := []) ⟨hx, hb, hml, hown, htb⟩ (k_X12_isRule a0 a0_a a0_image a0_texts a0_board a0_taken a0_fars a0_before a0_tape a0_pile a0_rows a0_told a0_values a0_truth a0_keeps v0 p0 r_8 hr_8) (cw_V 1 htb tg_1305 tg_13 tg_1302 tg_1304 ts_61 rfl rfl (by decide +kernel) ⟨Nat.le_of_ble_eq_true rfl, Nat.le_of_ble_eq_true rfl⟩) ⟨PC.blind, va_recv hK.1 hP (ci := 11) (q0 := 0) rfl rfl, PC.pre hK hT hP hD hS hA [0, 1, 2, 3, 4, 5, 6, 7, 8, 9, 10, 11, 12, 13, 14] rfl (by decide)⟩ rfl rfl hl.1 rfl (lv_room (Nat.le_of_ble_eq_true rfl)) dX12_kept_7 ⟨Nat.le_of_ble_eq_true rfl, Nat.le_of_ble_eq_true rfl⟩) hP hD hS hA [0, 1, 2, 3, 4, 5, 6, 7, 8, 9, 10, 11, 12, 13, 14] [] rfl rfl (by decide) (by decide) (fun r9 u9 H locs hw hP hD hS => ?_)
    have hw := hw.symm
    subst hw
    have hP : va_P D vwCl (WS_X12_kept cI cJ cZ cY a0 a0_a a0_image a0_texts a0_board a0_taken a0_fars a0_before a0_tape a0_pile a0_rows a0_told a0_values a0_truth a0_keeps v0) H := hP.sub [0, 1, 2, 3, 4, 5, 6, 7, 8, 9, 10, 11, 12, 13, 14] rfl
    have hD : va_D A (WS_X12_kept cI cJ cZ cY a0 a0_a a0_image a0_texts a0_board a0_taken a0_fars a0_before a0_tape a0_pile a0_rows a0_told a0_values a0_truth a0_keeps v0) := hD.sub [0, 1, 2, 3, 4, 5, 6, 7, 8, 9, 10, 11, 12, 13, 14] (by decide) rfl
    refine lv_if_eq (tgt := 29) hx hb dX12_kept_10 (by decide) (fun c_9 => ?_) (fun c_9 => ?_)
    · have hg := g_it hg c_9
      refine lv_iconst (v := (-1)) hx hb dX12_kept_29 (by decide) ?_
      have hg := Option.some.inj hg
      rw [hQ]
      exact W.iret (v := (-1)) hx hb hr (fun t ht hW => ⟨⟨(-1), (v0), rfl, ⟨by rw [← hg], by rw [← hg]⟩, by rw [ht]; exact hP, hD⟩, hS.F ht⟩) hS.2.2 dX12_kept_30
    · have hg := g_if hg c_9
      refine lv_aload_n hx hb dX12_kept_13 rfl (lv_at hl 0 rfl) ?_
      refine lv_iload_n hx hb dX12_kept_14 rfl (lv_at hl 1 rfl) ?_
      obtain ⟨r_10, hr_10, hg⟩ := g_bd hg
      refine cc_i (va_runV (C := RX12) (As := [.int p0]) (rest := []) ⟨hx, hb, hml, hown, htb⟩ (k_X12_isKept a0 a0_a a0_image a0_texts a0_board a0_taken a0_fars a0_before a0_tape a0_pile a0_rows a0_told a0_values a0_truth a0_keeps v0 p0 r_10 hr_10) (cw_V 1 htb tg_1373 tg_13 tg_1370 tg_1372 ts_70 rfl rfl (by decide +kernel) ⟨Nat.le_of_ble_eq_true rfl, Nat.le_of_ble_eq_true rfl⟩) ⟨PC.blind, va_recv hK.1 hP (ci := 11) (q0 := 0) rfl rfl, PC.pre hK hT hP hD hS hA [0, 1, 2, 3, 4, 5, 6, 7, 8, 9, 10, 11, 12, 13, 14] rfl (by decide)⟩ rfl rfl hl.1 rfl (lv_room (Nat.le_of_ble_eq_true rfl)) dX12_kept_15 ⟨Nat.le_of_ble_eq_true rfl, Nat.le_of_ble_eq_true rfl⟩) hP hD hS hA [0, 1, 2, 3, 4, 5, 6, 7, 8, 9, 10, 11, 12, 13, 14] [] rfl rfl (by decide) (by decide) (fun r9 u9 H locs hw hP hD hS => ?_)
      obtain ⟨rfl, rfl⟩ := hw
      have hP : va_P D vwCl (WS_X12_kept cI cJ cZ cY a0 a0_a a0_image a0_texts a0_board a0_taken a0_fars a0_before a0_tape a0_pile a0_rows a0_told a0_values a0_truth a0_keeps r_10.2) H := hP.sub [0, 1, 2, 3, 4, 5, 6, 7, 8, 9, 10, 11, 12, 13, 14] rfl
      have hD : va_D A (WS_X12_kept cI cJ cZ cY a0 a0_a a0_image a0_texts a0_board a0_taken a0_fars a0_before a0_tape a0_pile a0_rows a0_told a0_values a0_truth a0_keeps r_10.2) := hD.sub [0, 1, 2, 3, 4, 5, 6, 7, 8, 9, 10, 11, 12, 13, 14] (by decide) rfl
      refine lv_if_eq (tgt := 25) hx hb dX12_kept_18 (by decide) (fun c_11 => ?_) (fun c_11 => ?_)
      · have hg := g_it hg c_11
        refine lv_iconst (v := 0) hx hb dX12_kept_25 (by decide) ?_
        refine lv_goto (tgt := 30) hx hb dX12_kept_26 (by decide) ?_
        have hg := Option.some.inj hg
        rw [hQ]
        exact W.iret (v := 0) hx hb hr (fun t ht hW => ⟨⟨0, (r_10.2), rfl, ⟨by rw [← hg], by rw [← hg]⟩, by rw [ht]; exact hP, hD⟩, hS.F ht⟩) hS.2.2 dX12_kept_30
      · have hg := g_if hg c_11
        refine lv_iconst (v := 1) hx hb dX12_kept_21 (by decide) ?_
        refine lv_goto (tgt := 30) hx hb dX12_kept_22 (by decide) ?_
        have hg := Option.some.inj hg
        rw [hQ]
        exact W.iret (v := 1) hx hb hr (fun t ht hW => ⟨⟨1, (r_10.2), rfl, ⟨by rw [← hg], by rw [← hg]⟩, by rw [ht]; exact hP, hD⟩, hS.F ht⟩) hS.2.2 dX12_kept_30
