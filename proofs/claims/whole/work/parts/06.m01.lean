def GX11o (cI cJ cZ cY : ClassId) (a a_tape a_firstTakes r_now r_saved r_sight r_flyer r_parser : Nat) (v : BX11) : va_W := [(a, .inr (10, [.ref r_now, .ref r_saved, .ref r_sight, .ref r_flyer, .ref r_parser, .ref a_tape, .ref a_firstTakes, .int (pX11_tapeSize v), .int (pX11_textRead v)]))]
/-! ManyEyes$Runner.isSo(III)Z -/
def WS_X6_isSo (cI cJ cZ cY : ClassId) : va_W := []
def f_X6_isSo (p0 : Int32) (p1 : Int32) (p2 : Int32) : Option (Int32) := if p0 = 13 then (if (p2 : Int32) ≤ p1 then (some 0) else (some 1)) else (if p0 = 14 then (if (p2 : Int32) < p1 then (some 0) else (some 1)) else (if p0 = 15 then (if (p1 : Int32) ≤ p2 then (some 0) else (some 1)) else (if p0 = 16 then (if (p1 : Int32) < p2 then (some 0) else (some 1)) else (if p0 = 17 then (if (p1 : Int32) = p2 then (some 1) else (some 0)) else (if p0 = 18 then (if (p1 : Int32) = p2 then (some 0) else (some 1)) else (if p0 = 19 then (if (p1 : Int32) = 0 then (some 0) else (if (p2 : Int32) = 0 then (some 0) else (some 1))) else (if (p1 : Int32) = 0 then (if (p2 : Int32) = 0 then (some 0) else (some 1)) else (some 1))))))))
abbrev rm_X6_isSo : Room := { frames := 0, cells := 0, slots := 0, locals := 0 }
set_option maxHeartbeats 4000000 in
set_option maxRecDepth 100000 in
theorem k_X6_isSo {l : Launch} {D : va_G} {cI cJ cZ cY : ClassId} {tX tY : Nat} {sz : Nat} (p0 : Int32) (p1 : Int32) (p2 : Int32) (res : Int32) (hg : f_X6_isSo p0 p1 p2 = some res) : Met l yX6_isSo (Cond.code yX6_isSo cX6_isSo 3 (some .boolean) :: TB) rm_X6_isSo (PC D cI cJ cZ cY tX tY [.int p0, .int p1, .int p2] (WS_X6_isSo cI cJ cZ cY) sz) (va_Qi (fun (r : Int32) (_ : Unit) => r = res) (BC D (fun _ : Unit => WS_X6_isSo cI cJ cZ cY) (va_A (WS_X6_isSo cI cJ cZ cY) sz)) (va_A (WS_X6_isSo cI cJ cZ cY) sz)) 0 0 (va_A (WS_X6_isSo cI cJ cZ cY) sz) := by
  refine Met.ofW (cc := cX6_isSo) (maxL := 3) (ret := (some .boolean)) (by decide) rfl ?_
  intro p e s m args below meth c s₁ B hml hv
  obtain ⟨hargs, hsz, hP, hK, hD0, hT⟩ := hv
  have hx := B.exec
  have hb := B.bytes
  have hr := B.returns
  have htb : ∀ w ∈ TB, w.before args s = true := fun w h => atoms_spec (ws := Cond.code yX6_isSo cX6_isSo 3 (some .boolean) :: TB) B.pre w (List.mem_cons_of_mem _ h)
  have hown : s.vm.findClass "ManyEyes$Runner" = some m.cls := findClass_of_methodNamed B.named
  have hlocks := B.notSynchronized
  subst hsz
  have hD := hD0.self (sz := s.heap.size)
  generalize hAe : va_A (WS_X6_isSo cI cJ cZ cY) s.heap.size = A at hD hT ⊢
  have hA : ∀ q : Nat, s.heap.size ≤ q → A q := fun q h => by rw [← hAe]; exact Or.inr h
  have hS : va_S A s.heap s.heap [] := va_S.rf
  have hl := lv_entry ([.int p0, .int p1, .int p2]) (n := 3) (Nat.le_of_ble_eq_true rfl)
  have he : entryFrame m args 3 = F0 m 0 (lg_sl ([.int p0, .int p1, .int p2]) ++ List.replicate (3 - (lg_sl ([.int p0, .int p1, .int p2])).length) Slot.unset).toArray [] := by rw [hargs, lg_entry_eq]
  rw [he]
  generalize (lg_sl ([.int p0, .int p1, .int p2]) ++ List.replicate (3 - (lg_sl ([.int p0, .int p1, .int p2])).length) Slot.unset).toArray = ls at hl ⊢
  have hl : lv_has ls 3 [(0, .int p0), (1, .int p1), (2, .int p2)] := hl
  show W p l e rm_X6_isSo s m args below meth c s.heap [] 0 0 _ _
  refine W.genQ (fun Q hQ => ?_)
  generalize hHe : s.heap = H at hP ⊢
  have hS : va_S A s.heap H [] := by rw [← hHe]; exact va_S.rf
  generalize ([] : List Loc) = locs at hS ⊢
  unfold f_X6_isSo at hg
  refine lv_iload_n hx hb dX6_isSo_0 rfl (lv_at hl 0 rfl) ?_
  by_cases c_1 : p0 = 13
  · have hg := g_it hg c_1
    refine lv_tableIn (tgt := 44) (off := 43) hx hb dX6_isSo_1 (by rw [c_1]; decide) (by rw [c_1]; decide) (by rw [c_1]; decide +kernel) (by decide) ?_
    refine lv_iload_n hx hb dX6_isSo_44 rfl (lv_at hl 1 rfl) ?_
    refine lv_iload_n hx hb dX6_isSo_45 rfl (lv_at hl 2 rfl) ?_
    refine lv_icmp_ge (tgt := 53) hx hb dX6_isSo_46 (by decide) (fun c_2 => ?_) (fun c_2 => ?_)
    · have hg := g_it hg c_2
      refine lv_iconst (v := 0) hx hb dX6_isSo_53 (by decide) ?_
      have hg := Option.some.inj hg
      rw [hQ]
      exact W.zret (v := 0) (ty := .boolean) hx hb hr rfl (fun t ht hW => ⟨⟨0, (), rfl, hg, by rw [ht]; exact hP, hD⟩, hS.F ht⟩) hS.2.2 dX6_isSo_54
    · have hg := g_if hg c_2
      refine lv_iconst (v := 1) hx hb dX6_isSo_49 (by decide) ?_
      refine lv_goto (tgt := 54) hx hb dX6_isSo_50 (by decide) ?_
      have hg := Option.some.inj hg
      rw [hQ]
      exact W.zret (v := 1) (ty := .boolean) hx hb hr rfl (fun t ht hW => ⟨⟨1, (), rfl, hg, by rw [ht]; exact hP, hD⟩, hS.F ht⟩) hS.2.2 dX6_isSo_54
  have hg := g_if hg c_1
  by_cases c_3 : p0 = 14
  · have hg := g_it hg c_3
    refine lv_tableIn (tgt := 55) (off := 54) hx hb dX6_isSo_1 (by rw [c_3]; decide) (by rw [c_3]; decide) (by rw [c_3]; decide +kernel) (by decide) ?_
    refine lv_iload_n hx hb dX6_isSo_55 rfl (lv_at hl 1 rfl) ?_
    refine lv_iload_n hx hb dX6_isSo_56 rfl (lv_at hl 2 rfl) ?_
    refine lv_icmp_gt (tgt := 64) hx hb dX6_isSo_57 (by decide) (fun c_4 => ?_) (fun c_4 => ?_)
    · have hg := g_it hg c_4
      refine lv_iconst (v := 0) hx hb dX6_isSo_64 (by decide) ?_
      have hg := Option.some.inj hg
      rw [hQ]
      exact W.zret (v := 0) (ty := .boolean) hx hb hr rfl (fun t ht hW => ⟨⟨0, (), rfl, hg, by rw [ht]; exact hP, hD⟩, hS.F ht⟩) hS.2.2 dX6_isSo_65
    · have hg := g_if hg c_4
      refine lv_iconst (v := 1) hx hb dX6_isSo_60 (by decide) ?_
      refine lv_goto (tgt := 65) hx hb dX6_isSo_61 (by decide) ?_
      have hg := Option.some.inj hg
      rw [hQ]
      exact W.zret (v := 1) (ty := .boolean) hx hb hr rfl (fun t ht hW => ⟨⟨1, (), rfl, hg, by rw [ht]; exact hP, hD⟩, hS.F ht⟩) hS.2.2 dX6_isSo_65
  have hg := g_if hg c_3
  by_cases c_5 : p0 = 15
  · have hg := g_it hg c_5
    refine lv_tableIn (tgt := 66) (off := 65) hx hb dX6_isSo_1 (by rw [c_5]; decide) (by rw [c_5]; decide) (by rw [c_5]; decide +kernel) (by decide) ?_
    refine lv_iload_n hx hb dX6_isSo_66 rfl (lv_at hl 1 rfl) ?_
    refine lv_iload_n hx hb dX6_isSo_67 rfl (lv_at hl 2 rfl) ?_
    refine lv_icmp_le (tgt := 75) hx hb dX6_isSo_68 (by decide) (fun c_6 => ?_) (fun c_6 => ?_)
    · have hg := g_it hg c_6
      refine lv_iconst (v := 0) hx hb dX6_isSo_75 (by decide) ?_
      have hg := Option.some.inj hg
      rw [hQ]
      exact W.zret (v := 0) (ty := .boolean) hx hb hr rfl (fun t ht hW => ⟨⟨0, (), rfl, hg, by rw [ht]; exact hP, hD⟩, hS.F ht⟩) hS.2.2 dX6_isSo_76
    · have hg := g_if hg c_6
      refine lv_iconst (v := 1) hx hb dX6_isSo_71 (by decide) ?_
      refine lv_goto (tgt := 76) hx hb dX6_isSo_72 (by decide) ?_
      have hg := Option.some.inj hg
      rw [hQ]
      exact W.zret (v := 1) (ty := .boolean) hx hb hr rfl (fun t ht hW => ⟨⟨1, (), rfl, hg, by rw [ht]; exact hP, hD⟩, hS.F ht⟩) hS.2.2 dX6_isSo_76
  have hg := g_if hg c_5
  by_cases c_7 : p0 = 16
  · have hg := g_it hg c_7
    refine lv_tableIn (tgt := 77) (off := 76) hx hb dX6_isSo_1 (by rw [c_7]; decide) (by rw [c_7]; decide) (by rw [c_7]; decide +kernel) (by decide) ?_
    refine lv_iload_n hx hb dX6_isSo_77 rfl (lv_at hl 1 rfl) ?_
    refine lv_iload_n hx hb dX6_isSo_78 rfl (lv_at hl 2 rfl) ?_
    refine lv_icmp_lt (tgt := 86) hx hb dX6_isSo_79 (by decide) (fun c_8 => ?_) (fun c_8 => ?_)
    · have hg := g_it hg c_8
      refine lv_iconst (v := 0) hx hb dX6_isSo_86 (by decide) ?_
      have hg := Option.some.inj hg
      rw [hQ]
      exact W.zret (v := 0) (ty := .boolean) hx hb hr rfl (fun t ht hW => ⟨⟨0, (), rfl, hg, by rw [ht]; exact hP, hD⟩, hS.F ht⟩) hS.2.2 dX6_isSo_87
    · have hg := g_if hg c_8
      refine lv_iconst (v := 1) hx hb dX6_isSo_82 (by decide) ?_
      refine lv_goto (tgt := 87) hx hb dX6_isSo_83 (by decide) ?_
      have hg := Option.some.inj hg
      rw [hQ]
      exact W.zret (v := 1) (ty := .boolean) hx hb hr rfl (fun t ht hW => ⟨⟨1, (), rfl, hg, by rw [ht]; exact hP, hD⟩, hS.F ht⟩) hS.2.2 dX6_isSo_87
  have hg := g_if hg c_7
  by_cases c_9 : p0 = 17
  · have hg := g_it hg c_9
    refine lv_tableIn (tgt := 88) (off := 87) hx hb dX6_isSo_1 (by rw [c_9]; decide) (by rw [c_9]; decide) (by rw [c_9]; decide +kernel) (by decide) ?_
    refine lv_iload_n hx hb dX6_isSo_88 rfl (lv_at hl 1 rfl) ?_
    refine lv_iload_n hx hb dX6_isSo_89 rfl (lv_at hl 2 rfl) ?_
    refine lv_icmp_ne (tgt := 97) hx hb dX6_isSo_90 (by decide) (fun c_10 => ?_) (fun c_10 => ?_)
    · have hg := g_if hg c_10
      refine lv_iconst (v := 0) hx hb dX6_isSo_97 (by decide) ?_
      have hg := Option.some.inj hg
      rw [hQ]
      exact W.zret (v := 0) (ty := .boolean) hx hb hr rfl (fun t ht hW => ⟨⟨0, (), rfl, hg, by rw [ht]; exact hP, hD⟩, hS.F ht⟩) hS.2.2 dX6_isSo_98
    · have hg := g_it hg c_10
      refine lv_iconst (v := 1) hx hb dX6_isSo_93 (by decide) ?_
      refine lv_goto (tgt := 98) hx hb dX6_isSo_94 (by decide) ?_
      have hg := Option.some.inj hg
      rw [hQ]
      exact W.zret (v := 1) (ty := .boolean) hx hb hr rfl (fun t ht hW => ⟨⟨1, (), rfl, hg, by rw [ht]; exact hP, hD⟩, hS.F ht⟩) hS.2.2 dX6_isSo_98
  have hg := g_if hg c_9
  by_cases c_11 : p0 = 18
  · have hg := g_it hg c_11
    refine lv_tableIn (tgt := 99) (off := 98) hx hb dX6_isSo_1 (by rw [c_11]; decide) (by rw [c_11]; decide) (by rw [c_11]; decide +kernel) (by decide) ?_
    refine lv_iload_n hx hb dX6_isSo_99 rfl (lv_at hl 1 rfl) ?_
    refine lv_iload_n hx hb dX6_isSo_100 rfl (lv_at hl 2 rfl) ?_
    refine lv_icmp_eq (tgt := 108) hx hb dX6_isSo_101 (by decide) (fun c_12 => ?_) (fun c_12 => ?_)
    · have hg := g_it hg c_12
      refine lv_iconst (v := 0) hx hb dX6_isSo_108 (by decide) ?_
      have hg := Option.some.inj hg
      rw [hQ]
      exact W.zret (v := 0) (ty := .boolean) hx hb hr rfl (fun t ht hW => ⟨⟨0, (), rfl, hg, by rw [ht]; exact hP, hD⟩, hS.F ht⟩) hS.2.2 dX6_isSo_109
    · have hg := g_if hg c_12
      refine lv_iconst (v := 1) hx hb dX6_isSo_104 (by decide) ?_
      refine lv_goto (tgt := 109) hx hb dX6_isSo_105 (by decide) ?_
      have hg := Option.some.inj hg
      rw [hQ]
      exact W.zret (v := 1) (ty := .boolean) hx hb hr rfl (fun t ht hW => ⟨⟨1, (), rfl, hg, by rw [ht]; exact hP, hD⟩, hS.F ht⟩) hS.2.2 dX6_isSo_109
  have hg := g_if hg c_11
  by_cases c_13 : p0 = 19
  · have hg := g_it hg c_13
    refine lv_tableIn (tgt := 110) (off := 109) hx hb dX6_isSo_1 (by rw [c_13]; decide) (by rw [c_13]; decide) (by rw [c_13]; decide +kernel) (by decide) ?_
    refine lv_iload_n hx hb dX6_isSo_110 rfl (lv_at hl 1 rfl) ?_
    refine lv_if_eq (tgt := 122) hx hb dX6_isSo_111 (by decide) (fun c_14 => ?_) (fun c_14 => ?_)
    · have hg := g_it hg c_14
      refine lv_iconst (v := 0) hx hb dX6_isSo_122 (by decide) ?_
      have hg := Option.some.inj hg
      rw [hQ]
      exact W.zret (v := 0) (ty := .boolean) hx hb hr rfl (fun t ht hW => ⟨⟨0, (), rfl, hg, by rw [ht]; exact hP, hD⟩, hS.F ht⟩) hS.2.2 dX6_isSo_123
    · have hg := g_if hg c_14
      refine lv_iload_n hx hb dX6_isSo_114 rfl (lv_at hl 2 rfl) ?_
      refine lv_if_eq (tgt := 122) hx hb dX6_isSo_115 (by decide) (fun c_15 => ?_) (fun c_15 => ?_)
      · have hg := g_it hg c_15
        refine lv_iconst (v := 0) hx hb dX6_isSo_122 (by decide) ?_
        have hg := Option.some.inj hg
        rw [hQ]
        exact W.zret (v := 0) (ty := .boolean) hx hb hr rfl (fun t ht hW => ⟨⟨0, (), rfl, hg, by rw [ht]; exact hP, hD⟩, hS.F ht⟩) hS.2.2 dX6_isSo_123
      · have hg := g_if hg c_15
        refine lv_iconst (v := 1) hx hb dX6_isSo_118 (by decide) ?_
        refine lv_goto (tgt := 123) hx hb dX6_isSo_119 (by decide) ?_
        have hg := Option.some.inj hg
        rw [hQ]
        exact W.zret (v := 1) (ty := .boolean) hx hb hr rfl (fun t ht hW => ⟨⟨1, (), rfl, hg, by rw [ht]; exact hP, hD⟩, hS.F ht⟩) hS.2.2 dX6_isSo_123
  have hg := g_if hg c_13
  have zc_1 := lv_neT (a := 13) c_1 (by decide)
  have zc_3 := lv_neT (a := 14) c_3 (by decide)
  have zc_5 := lv_neT (a := 15) c_5 (by decide)
  have zc_7 := lv_neT (a := 16) c_7 (by decide)
  have zc_9 := lv_neT (a := 17) c_9 (by decide)
  have zc_11 := lv_neT (a := 18) c_11 (by decide)
  have zc_13 := lv_neT (a := 19) c_13 (by decide)
  refine lv_tableOut (tgt := 124) hx hb dX6_isSo_1 (by omega) (by decide) ?_
  refine lv_iload_n hx hb dX6_isSo_124 rfl (lv_at hl 1 rfl) ?_
  refine lv_if_ne (tgt := 132) hx hb dX6_isSo_125 (by decide) (fun c_16 => ?_) (fun c_16 => ?_)
  · have hg := g_if hg c_16
    refine lv_iconst (v := 1) hx hb dX6_isSo_132 (by decide) ?_
    refine lv_goto (tgt := 137) hx hb dX6_isSo_133 (by decide) ?_
    have hg := Option.some.inj hg
    rw [hQ]
    exact W.zret (v := 1) (ty := .boolean) hx hb hr rfl (fun t ht hW => ⟨⟨1, (), rfl, hg, by rw [ht]; exact hP, hD⟩, hS.F ht⟩) hS.2.2 dX6_isSo_137
  · have hg := g_it hg c_16
    refine lv_iload_n hx hb dX6_isSo_128 rfl (lv_at hl 2 rfl) ?_
    refine lv_if_eq (tgt := 136) hx hb dX6_isSo_129 (by decide) (fun c_17 => ?_) (fun c_17 => ?_)
    · have hg := g_it hg c_17
      refine lv_iconst (v := 0) hx hb dX6_isSo_136 (by decide) ?_
      have hg := Option.some.inj hg
      rw [hQ]
      exact W.zret (v := 0) (ty := .boolean) hx hb hr rfl (fun t ht hW => ⟨⟨0, (), rfl, hg, by rw [ht]; exact hP, hD⟩, hS.F ht⟩) hS.2.2 dX6_isSo_137
    · have hg := g_if hg c_17
      refine lv_iconst (v := 1) hx hb dX6_isSo_132 (by decide) ?_
      refine lv_goto (tgt := 137) hx hb dX6_isSo_133 (by decide) ?_
      have hg := Option.some.inj hg
      rw [hQ]
      exact W.zret (v := 1) (ty := .boolean) hx hb hr rfl (fun t ht hW => ⟨⟨1, (), rfl, hg, by rw [ht]; exact hP, hD⟩, hS.F ht⟩) hS.2.2 dX6_isSo_137

/-! ManyEyes$Sight.trace(I)I -/
def WS_X7_trace (cI cJ cZ cY : ClassId) (a0 a0_view a0_rays a1 a1_own a1_bodyX a1_bodyY a1_bodyWayX a1_bodyWayY a1_bodyMark : Nat) (v0 : BX7) (v1 : BX10) : va_W := (GX7 cI cJ cZ cY a0 a0_view a0_rays a1 v0) ++ ((GX10 cI cJ cZ cY a1 a1_own a1_bodyX a1_bodyY a1_bodyWayX a1_bodyWayY a1_bodyMark v1))
def f_X7_trace_b51B (v0 : BX7) (v1 : BX10) (J51 : Int32 × Int32 × Int32 × Int32 × Int32 × Int32 → Option (Int32)) (x1 : Int32) (x2 : Int32) (x3 : Int32) (x4 : Int32) (x5 : Int32) (x6 : Int32) : Option (Int32) := if (40 : Int32) < x6 then (some 10496) else (g_gd (inB x1 64) (g_lt ((x4 + (wyX (x1 : Int32).toNatClampNeg)) : Int32) (fun x4_3 => g_gd (inB x1 64) (g_lt ((x5 + (wyY (x1 : Int32).toNatClampNeg)) : Int32) (fun x5_5 => if (x4_3 : Int32) < 0 then (some 10496) else (if (x2 : Int32) ≤ x4_3 then (some 10496) else (if (x5_5 : Int32) < 0 then (some 10496) else (if (x5_5 : Int32) < x3 then (g_gd (inB (((x5_5 / 16) * (pX10_w v1)) + (x4_3 / 16)) (pX7_n v0)) (g_lt (((pX7_view v0) ((((x5_5 / 16) * (pX10_w v1)) + (x4_3 / 16)) : Int32).toNatClampNeg) : Int32) (fun x7_13 => if (x7_13 : Int32) = 0 then (g_lt (x6 + 1 : Int32) (fun x6_15 => J51 (x1, x2, x3, x4_3, x5_5, x6_15))) else (some ((x6 <<< (8 &&& 31)) + x7_13))))) else (some 10496)))))))))
def f_X7_trace_b51 (v0 : BX7) (v1 : BX10) : Nat → (Int32 × Int32 × Int32 × Int32 × Int32 × Int32) → Option (Int32) := g_lp (fun J z => f_X7_trace_b51B v0 v1 J z.1 z.2.1 z.2.2.1 z.2.2.2.1 z.2.2.2.2.1 z.2.2.2.2.2)
def f_X7_trace (v0 : BX7) (v1 : BX10) (p0 : Int32) : Option (Int32) := if (p0 : Int32) < 0 then (some 10496) else (if (p0 : Int32) ≤ 63 then (g_lt (((pX10_w v1) * 16) : Int32) (fun x2_18 => g_lt (((pX10_h v1) * 16) : Int32) (fun x3_19 => g_lt ((pX7_x v0) : Int32) (fun x4_20 => g_lt ((pX7_y v0) : Int32) (fun x5_21 => f_X7_trace_b51 v0 v1 fU (p0, x2_18, x3_19, x4_20, x5_21, 1)))))) else (some 10496))
abbrev rm_X7_trace : Room := { frames := 0, cells := 0, slots := 0, locals := 0 }
set_option maxHeartbeats 4000000 in
set_option maxRecDepth 100000 in
theorem k_X7_trace {l : Launch} {D : va_G} {cI cJ cZ cY : ClassId} {tX tY : Nat} {sz : Nat} (a0 a0_view a0_rays a1 a1_own a1_bodyX a1_bodyY a1_bodyWayX a1_bodyWayY a1_bodyMark : Nat) (v0 : BX7) (v1 : BX10) (p0 : Int32) (res : Int32) (hg : f_X7_trace v0 v1 p0 = some res) : Met l yX7_trace (Cond.code yX7_trace cX7_trace 8 (some .int) :: TB) rm_X7_trace (PC D cI cJ cZ cY tX tY [.ref a0, .int p0] (WS_X7_trace cI cJ cZ cY a0 a0_view a0_rays a1 a1_own a1_bodyX a1_bodyY a1_bodyWayX a1_bodyWayY a1_bodyMark v0 v1) sz) (va_Qi (fun (r : Int32) (_ : Unit) => r = res) (BC D (fun _ : Unit => WS_X7_trace cI cJ cZ cY a0 a0_view a0_rays a1 a1_own a1_bodyX a1_bodyY a1_bodyWayX a1_bodyWayY a1_bodyMark v0 v1) (va_A (WS_X7_trace cI cJ cZ cY a0 a0_view a0_rays a1 a1_own a1_bodyX a1_bodyY a1_bodyWayX a1_bodyWayY a1_bodyMark v0 v1) sz)) (va_A (WS_X7_trace cI cJ cZ cY a0 a0_view a0_rays a1 a1_own a1_bodyX a1_bodyY a1_bodyWayX a1_bodyWayY a1_bodyMark v0 v1) sz)) 0 0 (va_A (WS_X7_trace cI cJ cZ cY a0 a0_view a0_rays a1 a1_own a1_bodyX a1_bodyY a1_bodyWayX a1_bodyWayY a1_bodyMark v0 v1) sz) := by
  refine Met.ofW (cc := cX7_trace) (maxL := 8) (ret := (some .int)) (by decide) rfl ?_
  intro p e s m args below meth c s₁ B hml hv
  obtain ⟨hargs, hsz, hP, hK, hD0, hT⟩ := hv
  have hx := B.exec
  have hb := B.bytes
  have hr := B.returns
  have htb : ∀ w ∈ TB, w.before args s = true := fun w h => atoms_spec (ws := Cond.code yX7_trace cX7_trace 8 (some .int) :: TB) B.pre w (List.mem_cons_of_mem _ h)
  have hown : s.vm.findClass "ManyEyes$Sight" = some m.cls := findClass_of_methodNamed B.named
  have hlocks := B.notSynchronized
  subst hsz
  have hD := hD0.self (sz := s.heap.size)
  generalize hAe : va_A (WS_X7_trace cI cJ cZ cY a0 a0_view a0_rays a1 a1_own a1_bodyX a1_bodyY a1_bodyWayX a1_bodyWayY a1_bodyMark v0 v1) s.heap.size = A at hD hT ⊢
  have hA : ∀ q : Nat, s.heap.size ≤ q → A q := fun q h => by rw [← hAe]; exact Or.inr h
  have hS : va_S A s.heap s.heap [] := va_S.rf
  have hl := lv_entry ([.ref a0, .int p0]) (n := 8) (Nat.le_of_ble_eq_true rfl)
  have he : entryFrame m args 8 = F0 m 0 (lg_sl ([.ref a0, .int p0]) ++ List.replicate (8 - (lg_sl ([.ref a0, .int p0])).length) Slot.unset).toArray [] := by rw [hargs, lg_entry_eq]
  rw [he]
  generalize (lg_sl ([.ref a0, .int p0]) ++ List.replicate (8 - (lg_sl ([.ref a0, .int p0])).length) Slot.unset).toArray = ls at hl ⊢
  have hl : lv_has ls 8 [(0, .ref a0), (1, .int p0)] := hl
  show W p l e rm_X7_trace s m args below meth c s.heap [] 0 0 _ _
  refine W.genQ (fun Q hQ => ?_)
  have b_51 : ∀ (n : Nat), ∀ (x1 : Int32) (x2 : Int32) (x3 : Int32) (x4 : Int32) (x5 : Int32) (x6 : Int32) (H : Heap) (locs : List Loc) (ls : Array Slot), va_P D vwCl (WS_X7_trace cI cJ cZ cY a0 a0_view a0_rays a1 a1_own a1_bodyX a1_bodyY a1_bodyWayX a1_bodyWayY a1_bodyMark v0 v1) H → va_D A (WS_X7_trace cI cJ cZ cY a0 a0_view a0_rays a1 a1_own a1_bodyX a1_bodyY a1_bodyWayX a1_bodyWayY a1_bodyMark v0 v1) → va_S A s.heap H locs → lv_has ls 8 [(0, .ref a0), (1, .int x1), (2, .int x2), (3, .int x3), (4, .int x4), (5, .int x5), (6, .int x6)] → f_X7_trace_b51 v0 v1 n (x1, x2, x3, x4, x5, x6) = some res → W p l e rm_X7_trace s m args below meth c H locs 0 0 Q (F0 m 51 ls []) := by
    intro n
    induction n with
    | zero =>
      intro x1 x2 x3 x4 x5 x6 H locs ls hP hD hS hl hg
      exact (g_lp0 hg).elim
    | succ n ih =>
      intro x1 x2 x3 x4 x5 x6 H locs ls hP hD hS hl hg
      have hg : f_X7_trace_b51B v0 v1 (f_X7_trace_b51 v0 v1 n) x1 x2 x3 x4 x5 x6 = some res := hg
      unfold f_X7_trace_b51B at hg
      refine lv_iload hx hb dX7_trace_51 (lv_at hl 6 rfl) ?_
      refine lv_bipush (v := 40) hx hb dX7_trace_53 (by decide) ?_
      refine lv_icmp_gt (tgt := 150) hx hb dX7_trace_55 (by decide) (fun c_1 => ?_) (fun c_1 => ?_)
      · have hg := g_it hg c_1
        refine lv_sipush (v := 10496) hx hb dX7_trace_150 (by decide) ?_
        have hg := Option.some.inj hg
        rw [hQ]
        exact W.iret (v := 10496) hx hb hr (fun t ht hW => ⟨⟨10496, (), rfl, hg, by rw [ht]; exact hP, hD⟩, hS.F ht⟩) hS.2.2 dX7_trace_153
      · have hg := g_if hg c_1
        refine lv_iload hx hb dX7_trace_58 (lv_at hl 4 rfl) ?_
        refine va_getsN hx hb hT.1 hS hown ((hK.2.1 _ nw_515).use rfl) (fun _ h9 => h9) dX7_trace_60 ?_
        refine lv_iload_n hx hb dX7_trace_63 rfl (lv_at hl 1 rfl) ?_
        obtain ⟨h_2, hg⟩ := g_gde hg
        refine va_ti (v := .int (wyX (x1 : Int32).toNatClampNeg)) hx hb hT.2.1 hS (inB_vp h_2) rfl dX7_trace_64 ?_
        refine lv_iadd hx hb dX7_trace_65 ?_
        refine lv_topi (fun x4_3 ex4_3 => ?_)
        have hg := g_lte hg x4_3 ex4_3
        refine lv_istore (lv' := [(4, .int x4_3), (0, .ref a0), (1, .int x1), (2, .int x2), (3, .int x3), (5, .int x5), (6, .int x6)]) hx hb dX7_trace_66 hl (by decide) rfl (fun ls hl => ?_)
        refine lv_iload hx hb dX7_trace_68 (lv_at hl 5 rfl) ?_
        refine va_getsN hx hb hT.2.2.1 hS hown ((hK.2.1 _ nw_517).use rfl) (fun _ h9 => h9) dX7_trace_70 ?_
        refine lv_iload_n hx hb dX7_trace_73 rfl (lv_at hl 2 rfl) ?_
        obtain ⟨h_4, hg⟩ := g_gde hg
        refine va_ti (v := .int (wyY (x1 : Int32).toNatClampNeg)) hx hb hT.2.2.2 hS (inB_vp h_4) rfl dX7_trace_74 ?_
        refine lv_iadd hx hb dX7_trace_75 ?_
        refine lv_topi (fun x5_5 ex5_5 => ?_)
        have hg := g_lte hg x5_5 ex5_5
        refine lv_istore (lv' := [(5, .int x5_5), (4, .int x4_3), (0, .ref a0), (1, .int x1), (2, .int x2), (3, .int x3), (6, .int x6)]) hx hb dX7_trace_76 hl (by decide) rfl (fun ls hl => ?_)
        refine lv_iload hx hb dX7_trace_78 (lv_at hl 1 rfl) ?_
        refine lv_if_lt (tgt := 100) hx hb dX7_trace_80 (by decide) (fun c_6 => ?_) (fun c_6 => ?_)
        · have hg := g_it hg c_6
          refine lv_sipush (v := 10496) hx hb dX7_trace_100 (by decide) ?_
          have hg := Option.some.inj hg
          rw [hQ]
          exact W.iret (v := 10496) hx hb hr (fun t ht hW => ⟨⟨10496, (), rfl, hg, by rw [ht]; exact hP, hD⟩, hS.F ht⟩) hS.2.2 dX7_trace_103
        · have hg := g_if hg c_6
          refine lv_iload hx hb dX7_trace_83 (lv_at hl 1 rfl) ?_
          refine lv_iload_n hx hb dX7_trace_85 rfl (lv_at hl 4 rfl) ?_
          refine lv_icmp_ge (tgt := 100) hx hb dX7_trace_86 (by decide) (fun c_7 => ?_) (fun c_7 => ?_)
          · have hg := g_it hg c_7
            refine lv_sipush (v := 10496) hx hb dX7_trace_100 (by decide) ?_
            have hg := Option.some.inj hg
            rw [hQ]
            exact W.iret (v := 10496) hx hb hr (fun t ht hW => ⟨⟨10496, (), rfl, hg, by rw [ht]; exact hP, hD⟩, hS.F ht⟩) hS.2.2 dX7_trace_103
          · have hg := g_if hg c_7
            refine lv_iload hx hb dX7_trace_89 (lv_at hl 0 rfl) ?_
            refine lv_if_lt (tgt := 100) hx hb dX7_trace_91 (by decide) (fun c_8 => ?_) (fun c_8 => ?_)
            · have hg := g_it hg c_8
              refine lv_sipush (v := 10496) hx hb dX7_trace_100 (by decide) ?_
              have hg := Option.some.inj hg
              rw [hQ]
              exact W.iret (v := 10496) hx hb hr (fun t ht hW => ⟨⟨10496, (), rfl, hg, by rw [ht]; exact hP, hD⟩, hS.F ht⟩) hS.2.2 dX7_trace_103
            · have hg := g_if hg c_8
              refine lv_iload hx hb dX7_trace_94 (lv_at hl 0 rfl) ?_
              refine lv_iload_n hx hb dX7_trace_96 rfl (lv_at hl 5 rfl) ?_
              refine lv_icmp_lt (tgt := 104) hx hb dX7_trace_97 (by decide) (fun c_9 => ?_) (fun c_9 => ?_)
              · have hg := g_it hg c_9
                refine lv_aload_n hx hb dX7_trace_104 rfl (lv_at hl 2 rfl) ?_
                refine va_get (ci := 6) (v := .ref a0_view) (C := RX7) (T := TX7) (N := 5) hx hb htb uX7 hown hK.1 hP 0 rfl rfl 1 (by decide) (htb _ tg_269) (fun _ h9 => h9) rfl dX7_trace_105 ?_
                refine lv_iload hx hb dX7_trace_108 (lv_at hl 0 rfl) ?_
                refine lv_bipush (v := 16) hx hb dX7_trace_110 (by decide) ?_
                refine lv_idiv hx hb dX7_trace_112 (by decide) ?_
                refine lv_aload_n hx hb dX7_trace_113 rfl (lv_at hl 2 rfl) ?_
                refine va_get (ci := 6) (v := .ref a1) (C := RX7) (T := TX7) (N := 5) hx hb htb uX7 hown hK.1 hP 0 rfl rfl 0 (by decide) (htb _ tg_268) (fun _ h9 => h9) rfl dX7_trace_114 ?_
                refine va_get (ci := 9) (v := .int (pX10_w v1)) (C := RX10) (T := TX10) (N := 9) hx hb htb uX10 hown hK.1 hP 3 rfl rfl 0 (by decide) (htb _ tg_44) (fun _ h9 => h9) rfl dX7_trace_117 ?_
                refine lv_imul hx hb dX7_trace_120 ?_
                refine lv_iload hx hb dX7_trace_121 (lv_at hl 1 rfl) ?_
                refine lv_bipush (v := 16) hx hb dX7_trace_123 (by decide) ?_
                refine lv_idiv hx hb dX7_trace_125 (by decide) ?_
                refine lv_iadd hx hb dX7_trace_126 ?_
                obtain ⟨h_12, hg⟩ := g_gde hg
                refine va_iald hx hb hK.1 hP 1 0 rfl rfl (inB_vp h_12) dX7_trace_127 ?_
                refine lv_topi (fun x7_13 ex7_13 => ?_)
                have hg := g_lte hg x7_13 ex7_13
                refine lv_istore (lv' := [(7, .int x7_13), (5, .int x5_5), (4, .int x4_3), (0, .ref a0), (1, .int x1), (2, .int x2), (3, .int x3), (6, .int x6)]) hx hb dX7_trace_128 hl (by decide) rfl (fun ls hl => ?_)
                refine lv_iload hx hb dX7_trace_130 (lv_at hl 0 rfl) ?_
                refine lv_if_eq (tgt := 144) hx hb dX7_trace_132 (by decide) (fun c_14 => ?_) (fun c_14 => ?_)
                · have hg := g_it hg c_14
                  obtain ⟨x6_15, ex6_15⟩ : ∃ z : Int32, z = x6 + 1 := ⟨_, rfl⟩
                  have hg := g_lte hg x6_15 ex6_15
                  refine lv_iinc (v := x6_15) (lv' := [(6, .int x6_15), (7, .int x7_13), (5, .int x5_5), (4, .int x4_3), (0, .ref a0), (1, .int x1), (2, .int x2), (3, .int x3)]) hx hb dX7_trace_144 hl (k := 7) rfl (by rw [ex6_15]; rfl) (by decide) rfl (fun ls hl => ?_)
                  refine lv_goto (tgt := 51) hx hb dX7_trace_147 (by decide) ?_
                  exact ih x1 x2 x3 x4_3 x5_5 x6_15 H locs ls hP hD hS (lv_sub hl [4, 5, 6, 7, 3, 2, 0] rfl) hg
                · have hg := g_if hg c_14
                  refine lv_iload hx hb dX7_trace_135 (lv_at hl 7 rfl) ?_
                  refine lv_bipush (v := 8) hx hb dX7_trace_137 (by decide) ?_
                  refine lv_ishl hx hb dX7_trace_139 ?_
                  refine lv_iload hx hb dX7_trace_140 (lv_at hl 0 rfl) ?_
                  refine lv_iadd hx hb dX7_trace_142 ?_
                  have hg := Option.some.inj hg
                  rw [hQ]
                  exact W.iret (v := ((x6 <<< (8 &&& 31)) + x7_13)) hx hb hr (fun t ht hW => ⟨⟨((x6 <<< (8 &&& 31)) + x7_13), (), rfl, hg, by rw [ht]; exact hP, hD⟩, hS.F ht⟩) hS.2.2 dX7_trace_143
              · have hg := g_if hg c_9
                refine lv_sipush (v := 10496) hx hb dX7_trace_100 (by decide) ?_
                have hg := Option.some.inj hg
                rw [hQ]
                exact W.iret (v := 10496) hx hb hr (fun t ht hW => ⟨⟨10496, (), rfl, hg, by rw [ht]; exact hP, hD⟩, hS.F ht⟩) hS.2.2 dX7_trace_103
  generalize hHe : s.heap = H at hP ⊢
  have hS : va_S A s.heap H [] := by rw [← hHe]; exact va_S.rf
  generalize ([] : List Loc) = locs at hS ⊢
  unfold f_X7_trace at hg
  refine lv_iload_n hx hb dX7_trace_0 rfl (lv_at hl 1 rfl) ?_
  refine lv_if_lt (tgt := 10) hx hb dX7_trace_1 (by decide) (fun c_16 => ?_) (fun c_16 => ?_)
  · have hg := g_it hg c_16
    refine lv_sipush (v := 10496) hx hb dX7_trace_10 (by decide) ?_
    have hg := Option.some.inj hg
    rw [hQ]
    exact W.iret (v := 10496) hx hb hr (fun t ht hW => ⟨⟨10496, (), rfl, hg, by rw [ht]; exact hP, hD⟩, hS.F ht⟩) hS.2.2 dX7_trace_13
  · have hg := g_if hg c_16
    refine lv_iload_n hx hb dX7_trace_4 rfl (lv_at hl 1 rfl) ?_
    refine lv_bipush (v := 63) hx hb dX7_trace_5 (by decide) ?_
    refine lv_icmp_le (tgt := 14) hx hb dX7_trace_7 (by decide) (fun c_17 => ?_) (fun c_17 => ?_)
    · have hg := g_it hg c_17
      refine lv_aload_n hx hb dX7_trace_14 rfl (lv_at hl 0 rfl) ?_
      refine va_get (ci := 6) (v := .ref a1) (C := RX7) (T := TX7) (N := 5) hx hb htb uX7 hown hK.1 hP 0 rfl rfl 0 (by decide) (htb _ tg_268) (fun _ h9 => h9) rfl dX7_trace_15 ?_
      refine va_get (ci := 9) (v := .int (pX10_w v1)) (C := RX10) (T := TX10) (N := 9) hx hb htb uX10 hown hK.1 hP 3 rfl rfl 0 (by decide) (htb _ tg_44) (fun _ h9 => h9) rfl dX7_trace_18 ?_
      refine lv_bipush (v := 16) hx hb dX7_trace_21 (by decide) ?_
      refine lv_imul hx hb dX7_trace_23 ?_
      refine lv_topi (fun x2_18 ex2_18 => ?_)
      have hg := g_lte hg x2_18 ex2_18
      refine lv_istore_n (lv' := [(2, .int x2_18), (0, .ref a0), (1, .int p0)]) hx hb dX7_trace_24 rfl hl (by decide) rfl (fun ls hl => ?_)
      refine lv_aload_n hx hb dX7_trace_25 rfl (lv_at hl 1 rfl) ?_
      refine va_get (ci := 6) (v := .ref a1) (C := RX7) (T := TX7) (N := 5) hx hb htb uX7 hown hK.1 hP 0 rfl rfl 0 (by decide) (htb _ tg_268) (fun _ h9 => h9) rfl dX7_trace_26 ?_
      refine va_get (ci := 9) (v := .int (pX10_h v1)) (C := RX10) (T := TX10) (N := 9) hx hb htb uX10 hown hK.1 hP 3 rfl rfl 1 (by decide) (htb _ tg_47) (fun _ h9 => h9) rfl dX7_trace_29 ?_
      refine lv_bipush (v := 16) hx hb dX7_trace_32 (by decide) ?_
      refine lv_imul hx hb dX7_trace_34 ?_
      refine lv_topi (fun x3_19 ex3_19 => ?_)
      have hg := g_lte hg x3_19 ex3_19
      refine lv_istore_n (lv' := [(3, .int x3_19), (2, .int x2_18), (0, .ref a0), (1, .int p0)]) hx hb dX7_trace_35 rfl hl (by decide) rfl (fun ls hl => ?_)
      refine lv_aload_n hx hb dX7_trace_36 rfl (lv_at hl 2 rfl) ?_
      refine va_get (ci := 6) (v := .int (pX7_x v0)) (C := RX7) (T := TX7) (N := 5) hx hb htb uX7 hown hK.1 hP 0 rfl rfl 3 (by decide) (htb _ tg_271) (fun _ h9 => h9) rfl dX7_trace_37 ?_
      refine lv_topi (fun x4_20 ex4_20 => ?_)
      have hg := g_lte hg x4_20 ex4_20
      refine lv_istore (lv' := [(4, .int x4_20), (3, .int x3_19), (2, .int x2_18), (0, .ref a0), (1, .int p0)]) hx hb dX7_trace_40 hl (by decide) rfl (fun ls hl => ?_)
      refine lv_aload_n hx hb dX7_trace_42 rfl (lv_at hl 3 rfl) ?_
      refine va_get (ci := 6) (v := .int (pX7_y v0)) (C := RX7) (T := TX7) (N := 5) hx hb htb uX7 hown hK.1 hP 0 rfl rfl 4 (by decide) (htb _ tg_272) (fun _ h9 => h9) rfl dX7_trace_43 ?_
      refine lv_topi (fun x5_21 ex5_21 => ?_)
      have hg := g_lte hg x5_21 ex5_21
      refine lv_istore (lv' := [(5, .int x5_21), (4, .int x4_20), (3, .int x3_19), (2, .int x2_18), (0, .ref a0), (1, .int p0)]) hx hb dX7_trace_46 hl (by decide) rfl (fun ls hl => ?_)
      refine lv_iconst (v := 1) hx hb dX7_trace_48 (by decide) ?_
      refine lv_istore (lv' := [(6, .int 1), (5, .int x5_21), (4, .int x4_20), (3, .int x3_19), (2, .int x2_18), (0, .ref a0), (1, .int p0)]) hx hb dX7_trace_49 hl (by decide) rfl (fun ls hl => ?_)
      exact b_51 fU p0 x2_18 x3_19 x4_20 x5_21 1 H locs ls hP hD hS (lv_sub hl [5, 6, 4, 3, 2, 1, 0] rfl) hg
    · have hg := g_if hg c_17
      refine lv_sipush (v := 10496) hx hb dX7_trace_10 (by decide) ?_
      have hg := Option.some.inj hg
      rw [hQ]
      exact W.iret (v := 10496) hx hb hr (fun t ht hW => ⟨⟨10496, (), rfl, hg, by rw [ht]; exact hP, hD⟩, hS.F ht⟩) hS.2.2 dX7_trace_13

/-! ManyEyes$Sight.weigh(III)I -/
def WS_X7_weigh (cI cJ cZ cY : ClassId) (a0 a0_view a0_rays a1 a1_own a1_bodyX a1_bodyY a1_bodyWayX a1_bodyWayY a1_bodyMark : Nat) (v0 : BX7) (v1 : BX10) : va_W := (GX7 cI cJ cZ cY a0 a0_view a0_rays a1 v0) ++ ((GX10 cI cJ cZ cY a1 a1_own a1_bodyX a1_bodyY a1_bodyWayX a1_bodyWayY a1_bodyMark v1))
def f_X7_weigh_b52 (v1 : BX10) (J7 : (Int32 × Int32 × Int32 × Int32 × Int32 × BX7) → Option (Int32 × BX7)) (x1 : Int32) (x2 : Int32) (x3 : Int32) (x4 : Int32) (x5 : Int32) (x6 : Int32) (v0 : BX7) : Option (Int32 × BX7) := g_gd (inB x6 64) (g_lt ((x4 + (((pX7_rays v0) (x6 : Int32).toNatClampNeg) * ((x2 + 1) - (if (0 : Int32) ≤ x5 then x5 else 0 - x5)))) : Int32) (fun x4_2 => g_lt (x5 + 1 : Int32) (fun x5_3 => J7 (x1, x2, x3, x4_2, x5_3, v0))))
def f_X7_weigh_b7B (v1 : BX10) (J7 : Int32 × Int32 × Int32 × Int32 × Int32 × BX7 → Option (Int32 × BX7)) (x1 : Int32) (x2 : Int32) (x3 : Int32) (x4 : Int32) (x5 : Int32) (v0 : BX7) : Option (Int32 × BX7) := if (x2 : Int32) < x5 then ((f_X1_allWeights x2).bind (fun r_5 => if (r_5 : Int32) ≤ 0 then (some (0, v0)) else (g_gd (¬ (r_5 : Int32) = 0) (some ((x4 / r_5), v0))))) else (g_lt ((((x3 + x1) + x5) &&& 63) : Int32) (fun x6_8 => g_gd (inB x6_8 64) (if (((pX7_rays v0) (x6_8 : Int32).toNatClampNeg) : Int32) = (-1) then ((f_X7_trace v0 v1 x6_8).bind (fun r_11 => g_lt ((r_11 &&& 255) : Int32) (fun x_12 => g_gd (inB x6_8 64) (g_lt (sX7_rays v0 (upd (pX7_rays v0) (x6_8 : Int32).toNatClampNeg x_12)) (fun v0_14 => f_X7_weigh_b52 v1 J7 x1 x2 x3 x4 x5 x6_8 v0_14))))) else (f_X7_weigh_b52 v1 J7 x1 x2 x3 x4 x5 x6_8 v0))))
def f_X7_weigh_b7 (v1 : BX10) : Nat → (Int32 × Int32 × Int32 × Int32 × Int32 × BX7) → Option (Int32 × BX7) := g_lp (fun J z => f_X7_weigh_b7B v1 J z.1 z.2.1 z.2.2.1 z.2.2.2.1 z.2.2.2.2.1 z.2.2.2.2.2)
def f_X7_weigh (v0 : BX7) (v1 : BX10) (p0 : Int32) (p1 : Int32) (p2 : Int32) : Option (Int32 × BX7) := g_lt ((-p1) : Int32) (fun x5_15 => f_X7_weigh_b7 v1 fU (p0, p1, p2, 0, x5_15, v0))
abbrev rm_X7_weigh : Room := { frames := 1, cells := 0, slots := 0, locals := 27 }
set_option maxHeartbeats 4000000 in
set_option maxRecDepth 100000 in
theorem k_X7_weigh {l : Launch} {D : va_G} {cI cJ cZ cY : ClassId} {tX tY : Nat} {sz : Nat} (a0 a0_view a0_rays a1 a1_own a1_bodyX a1_bodyY a1_bodyWayX a1_bodyWayY a1_bodyMark : Nat) (v0 : BX7) (v1 : BX10) (p0 : Int32) (p1 : Int32) (p2 : Int32) (res : Int32 × BX7) (hg : f_X7_weigh v0 v1 p0 p1 p2 = some res) : Met l yX7_weigh (Cond.code yX7_weigh cX7_weigh 7 (some .int) :: TB) rm_X7_weigh (PC D cI cJ cZ cY tX tY [.ref a0, .int p0, .int p1, .int p2] (WS_X7_weigh cI cJ cZ cY a0 a0_view a0_rays a1 a1_own a1_bodyX a1_bodyY a1_bodyWayX a1_bodyWayY a1_bodyMark v0 v1) sz) (va_Qi (fun (r : Int32) (u : BX7) => r = res.1 ∧ u = res.2) (BC D (fun u : BX7 => WS_X7_weigh cI cJ cZ cY a0 a0_view a0_rays a1 a1_own a1_bodyX a1_bodyY a1_bodyWayX a1_bodyWayY a1_bodyMark u v1) (va_A (WS_X7_weigh cI cJ cZ cY a0 a0_view a0_rays a1 a1_own a1_bodyX a1_bodyY a1_bodyWayX a1_bodyWayY a1_bodyMark v0 v1) sz)) (va_A (WS_X7_weigh cI cJ cZ cY a0 a0_view a0_rays a1 a1_own a1_bodyX a1_bodyY a1_bodyWayX a1_bodyWayY a1_bodyMark v0 v1) sz)) 0 0 (va_A (WS_X7_weigh cI cJ cZ cY a0 a0_view a0_rays a1 a1_own a1_bodyX a1_bodyY a1_bodyWayX a1_bodyWayY a1_bodyMark v0 v1) sz) := by
  refine Met.ofW (cc := cX7_weigh) (maxL := 7) (ret := (some .int)) (by decide) rfl ?_
  intro p e s m args below meth c s₁ B hml hv
  obtain ⟨hargs, hsz, hP, hK, hD0, hT⟩ := hv
  have hx := B.exec
  have hb := B.bytes
  have hr := B.returns
  have htb : ∀ w ∈ TB, w.before args s = true := fun w h => atoms_spec (ws := Cond.code yX7_weigh cX7_weigh 7 (some .int) :: TB) B.pre w (List.mem_cons_of_mem _ h)
  have hown : s.vm.findClass "ManyEyes$Sight" = some m.cls := findClass_of_methodNamed B.named
  have hlocks := B.notSynchronized
  subst hsz
  have hD := hD0.self (sz := s.heap.size)
  generalize hAe : va_A (WS_X7_weigh cI cJ cZ cY a0 a0_view a0_rays a1 a1_own a1_bodyX a1_bodyY a1_bodyWayX a1_bodyWayY a1_bodyMark v0 v1) s.heap.size = A at hD hT ⊢
  have hA : ∀ q : Nat, s.heap.size ≤ q → A q := fun q h => by rw [← hAe]; exact Or.inr h
  have hS : va_S A s.heap s.heap [] := va_S.rf
  have hl := lv_entry ([.ref a0, .int p0, .int p1, .int p2]) (n := 7) (Nat.le_of_ble_eq_true rfl)
  have he : entryFrame m args 7 = F0 m 0 (lg_sl ([.ref a0, .int p0, .int p1, .int p2]) ++ List.replicate (7 - (lg_sl ([.ref a0, .int p0, .int p1, .int p2])).length) Slot.unset).toArray [] := by rw [hargs, lg_entry_eq]
  rw [he]
  generalize (lg_sl ([.ref a0, .int p0, .int p1, .int p2]) ++ List.replicate (7 - (lg_sl ([.ref a0, .int p0, .int p1, .int p2])).length) Slot.unset).toArray = ls at hl ⊢
  have hl : lv_has ls 7 [(0, .ref a0), (1, .int p0), (2, .int p1), (3, .int p2)] := hl
  show W p l e rm_X7_weigh s m args below meth c s.heap [] 0 0 _ _
  refine W.genQ (fun Q hQ => ?_)
  have b_52 : ∀ (J7 : (Int32 × Int32 × Int32 × Int32 × Int32 × BX7) → Option (Int32 × BX7)) (hJ7 : ∀ (x1 : Int32) (x2 : Int32) (x3 : Int32) (x4 : Int32) (x5 : Int32) (v0 : BX7) (H : Heap) (locs : List Loc) (ls : Array Slot), va_P D vwCl (WS_X7_weigh cI cJ cZ cY a0 a0_view a0_rays a1 a1_own a1_bodyX a1_bodyY a1_bodyWayX a1_bodyWayY a1_bodyMark v0 v1) H → va_D A (WS_X7_weigh cI cJ cZ cY a0 a0_view a0_rays a1 a1_own a1_bodyX a1_bodyY a1_bodyWayX a1_bodyWayY a1_bodyMark v0 v1) → va_S A s.heap H locs → lv_has ls 7 [(0, .ref a0), (1, .int x1), (2, .int x2), (3, .int x3), (4, .int x4), (5, .int x5)] → J7 (x1, x2, x3, x4, x5, v0) = some res → W p l e rm_X7_weigh s m args below meth c H locs 0 0 Q (F0 m 7 ls [])), ∀ (x1 : Int32) (x2 : Int32) (x3 : Int32) (x4 : Int32) (x5 : Int32) (x6 : Int32) (v0 : BX7) (H : Heap) (locs : List Loc) (ls : Array Slot), va_P D vwCl (WS_X7_weigh cI cJ cZ cY a0 a0_view a0_rays a1 a1_own a1_bodyX a1_bodyY a1_bodyWayX a1_bodyWayY a1_bodyMark v0 v1) H → va_D A (WS_X7_weigh cI cJ cZ cY a0 a0_view a0_rays a1 a1_own a1_bodyX a1_bodyY a1_bodyWayX a1_bodyWayY a1_bodyMark v0 v1) → va_S A s.heap H locs → lv_has ls 7 [(0, .ref a0), (1, .int x1), (2, .int x2), (3, .int x3), (4, .int x4), (5, .int x5), (6, .int x6)] → f_X7_weigh_b52 v1 J7 x1 x2 x3 x4 x5 x6 v0 = some res → W p l e rm_X7_weigh s m args below meth c H locs 0 0 Q (F0 m 52 ls []) := by
    intro J7 hJ7 x1 x2 x3 x4 x5 x6 v0 H locs ls hP hD hS hl hg
    unfold f_X7_weigh_b52 at hg
    refine lv_iload hx hb dX7_weigh_52 (lv_at hl 4 rfl) ?_
    refine lv_aload_n hx hb dX7_weigh_54 rfl (lv_at hl 0 rfl) ?_
    refine va_get (ci := 6) (v := .ref a0_rays) (C := RX7) (T := TX7) (N := 5) hx hb htb uX7 hown hK.1 hP 0 rfl rfl 2 (by decide) (htb _ tg_270) (fun _ h9 => h9) rfl dX7_weigh_55 ?_
    refine lv_iload hx hb dX7_weigh_58 (lv_at hl 6 rfl) ?_
    obtain ⟨h_1, hg⟩ := g_gde hg
    refine va_iald hx hb hK.1 hP 2 0 rfl rfl (inB_vp h_1) dX7_weigh_60 ?_
    refine lv_iload_n hx hb dX7_weigh_61 rfl (lv_at hl 2 rfl) ?_
    refine lv_iconst (v := 1) hx hb dX7_weigh_62 (by decide) ?_
    refine lv_iadd hx hb dX7_weigh_63 ?_
    refine lv_iload hx hb dX7_weigh_64 (lv_at hl 5 rfl) ?_
    refine va_mabs hx hb (hml.trans hl.1.symm) hown (htb _ tg_532) (htb _ tg_533) (htb _ tg_4) (htb _ tg_534) (Nat.le_of_ble_eq_true rfl) (Nat.le_of_ble_eq_true rfl) (Nat.le_of_ble_eq_true rfl) (Nat.le_of_ble_eq_true rfl) dX7_weigh_66 ?_
    refine lv_isub hx hb dX7_weigh_69 ?_
    refine lv_imul hx hb dX7_weigh_70 ?_
    refine lv_iadd hx hb dX7_weigh_71 ?_
    refine lv_topi (fun x4_2 ex4_2 => ?_)
    have hg := g_lte hg x4_2 ex4_2
    refine lv_istore (lv' := [(4, .int x4_2), (0, .ref a0), (1, .int x1), (2, .int x2), (3, .int x3), (5, .int x5), (6, .int x6)]) hx hb dX7_weigh_72 hl (by decide) rfl (fun ls hl => ?_)
    obtain ⟨x5_3, ex5_3⟩ : ∃ z : Int32, z = x5 + 1 := ⟨_, rfl⟩
    have hg := g_lte hg x5_3 ex5_3
    refine lv_iinc (v := x5_3) (lv' := [(5, .int x5_3), (4, .int x4_2), (0, .ref a0), (1, .int x1), (2, .int x2), (3, .int x3), (6, .int x6)]) hx hb dX7_weigh_74 hl (k := 5) rfl (by rw [ex5_3]; rfl) (by decide) rfl (fun ls hl => ?_)
    refine lv_goto (tgt := 7) hx hb dX7_weigh_77 (by decide) ?_
    exact hJ7 x1 x2 x3 x4_2 x5_3 v0 H locs ls hP hD hS (lv_sub hl [2, 3, 4, 5, 1, 0] rfl) hg
  have b_7 : ∀ (n : Nat), ∀ (x1 : Int32) (x2 : Int32) (x3 : Int32) (x4 : Int32) (x5 : Int32) (v0 : BX7) (H : Heap) (locs : List Loc) (ls : Array Slot), va_P D vwCl (WS_X7_weigh cI cJ cZ cY a0 a0_view a0_rays a1 a1_own a1_bodyX a1_bodyY a1_bodyWayX a1_bodyWayY a1_bodyMark v0 v1) H → va_D A (WS_X7_weigh cI cJ cZ cY a0 a0_view a0_rays a1 a1_own a1_bodyX a1_bodyY a1_bodyWayX a1_bodyWayY a1_bodyMark v0 v1) → va_S A s.heap H locs → lv_has ls 7 [(0, .ref a0), (1, .int x1), (2, .int x2), (3, .int x3), (4, .int x4), (5, .int x5)] → f_X7_weigh_b7 v1 n (x1, x2, x3, x4, x5, v0) = some res → W p l e rm_X7_weigh s m args below meth c H locs 0 0 Q (F0 m 7 ls []) := by
    intro n
    induction n with
    | zero =>
      intro x1 x2 x3 x4 x5 v0 H locs ls hP hD hS hl hg
      exact (g_lp0 hg).elim
    | succ n ih =>
      intro x1 x2 x3 x4 x5 v0 H locs ls hP hD hS hl hg
      have hg : f_X7_weigh_b7B v1 (f_X7_weigh_b7 v1 n) x1 x2 x3 x4 x5 v0 = some res := hg
      unfold f_X7_weigh_b7B at hg
      refine lv_iload hx hb dX7_weigh_7 (lv_at hl 5 rfl) ?_
      refine lv_iload_n hx hb dX7_weigh_9 rfl (lv_at hl 2 rfl) ?_
      refine lv_icmp_gt (tgt := 80) hx hb dX7_weigh_10 (by decide) (fun c_4 => ?_) (fun c_4 => ?_)
      · have hg := g_it hg c_4
        refine lv_iload_n hx hb dX7_weigh_80 rfl (lv_at hl 2 rfl) ?_
        obtain ⟨r_5, hr_5, hg⟩ := g_bd hg
        refine cc_i (va_runS (As := [.int x2]) (rest := []) ⟨hx, hb, hml, hown, htb⟩ (k_X1_allWeights x2 r_5 hr_5) (cw_S 1 htb tg_537 tg_5 tg_535 tg_536 rfl rfl (by decide +kernel) ⟨Nat.le_of_ble_eq_true rfl, Nat.le_of_ble_eq_true rfl⟩) ⟨PC.blind, PC.pre hK hT hP hD hS hA [] rfl (by decide)⟩ rfl rfl hl.1 rfl (lv_room (Nat.le_of_ble_eq_true rfl)) dX7_weigh_81 ⟨Nat.le_of_ble_eq_true rfl, Nat.le_of_ble_eq_true rfl⟩) hP hD hS hA [] [0, 1, 2, 3, 4, 5, 6, 7, 8, 9] rfl rfl (by decide) (by decide) (fun r9 u9 H locs hw hP hD hS => ?_)
        have hw := hw.symm
        subst hw
        have hP : va_P D vwCl (WS_X7_weigh cI cJ cZ cY a0 a0_view a0_rays a1 a1_own a1_bodyX a1_bodyY a1_bodyWayX a1_bodyWayY a1_bodyMark v0 v1) H := hP.sub [0, 1, 2, 3, 4, 5, 6, 7, 8, 9] rfl
        have hD : va_D A (WS_X7_weigh cI cJ cZ cY a0 a0_view a0_rays a1 a1_own a1_bodyX a1_bodyY a1_bodyWayX a1_bodyWayY a1_bodyMark v0 v1) := hD.sub [0, 1, 2, 3, 4, 5, 6, 7, 8, 9] (by decide) rfl
        refine lv_istore (lv' := [(5, .int r_5), (0, .ref a0), (1, .int x1), (2, .int x2), (3, .int x3), (4, .int x4)]) hx hb dX7_weigh_84 hl (by decide) rfl (fun ls hl => ?_)
        refine lv_iload hx hb dX7_weigh_86 (lv_at hl 0 rfl) ?_
        refine lv_if_le (tgt := 99) hx hb dX7_weigh_88 (by decide) (fun c_6 => ?_) (fun c_6 => ?_)
        · have hg := g_it hg c_6
          refine lv_iconst (v := 0) hx hb dX7_weigh_99 (by decide) ?_
          have hg := Option.some.inj hg
          rw [hQ]
          exact W.iret (v := 0) hx hb hr (fun t ht hW => ⟨⟨0, (v0), rfl, ⟨by rw [← hg], by rw [← hg]⟩, by rw [ht]; exact hP, hD⟩, hS.F ht⟩) hS.2.2 dX7_weigh_100
        · have hg := g_if hg c_6
          refine lv_iload hx hb dX7_weigh_91 (lv_at hl 5 rfl) ?_
          refine lv_iload hx hb dX7_weigh_93 (lv_at hl 0 rfl) ?_
          obtain ⟨h_7, hg⟩ := g_gde hg
          refine lv_idiv hx hb dX7_weigh_95 h_7 ?_
          refine lv_goto (tgt := 100) hx hb dX7_weigh_96 (by decide) ?_
          have hg := Option.some.inj hg
          rw [hQ]
          exact W.iret (v := (x4 / r_5)) hx hb hr (fun t ht hW => ⟨⟨(x4 / r_5), (v0), rfl, ⟨by rw [← hg], by rw [← hg]⟩, by rw [ht]; exact hP, hD⟩, hS.F ht⟩) hS.2.2 dX7_weigh_100
      · have hg := g_if hg c_4
        refine lv_iload_n hx hb dX7_weigh_13 rfl (lv_at hl 3 rfl) ?_
        refine lv_iload_n hx hb dX7_weigh_14 rfl (lv_at hl 1 rfl) ?_
        refine lv_iadd hx hb dX7_weigh_15 ?_
        refine lv_iload hx hb dX7_weigh_16 (lv_at hl 5 rfl) ?_
        refine lv_iadd hx hb dX7_weigh_18 ?_
        refine lv_bipush (v := 63) hx hb dX7_weigh_19 (by decide) ?_
        refine lv_iand hx hb dX7_weigh_21 ?_
        refine lv_topi (fun x6_8 ex6_8 => ?_)
        have hg := g_lte hg x6_8 ex6_8
        refine lv_istore (lv' := [(6, .int x6_8), (0, .ref a0), (1, .int x1), (2, .int x2), (3, .int x3), (4, .int x4), (5, .int x5)]) hx hb dX7_weigh_22 hl (by decide) rfl (fun ls hl => ?_)
        refine lv_aload_n hx hb dX7_weigh_24 rfl (lv_at hl 1 rfl) ?_
        refine va_get (ci := 6) (v := .ref a0_rays) (C := RX7) (T := TX7) (N := 5) hx hb htb uX7 hown hK.1 hP 0 rfl rfl 2 (by decide) (htb _ tg_270) (fun _ h9 => h9) rfl dX7_weigh_25 ?_
        refine lv_iload hx hb dX7_weigh_28 (lv_at hl 0 rfl) ?_
        obtain ⟨h_9, hg⟩ := g_gde hg
        refine va_iald hx hb hK.1 hP 2 0 rfl rfl (inB_vp h_9) dX7_weigh_30 ?_
        refine lv_iconst (v := (-1)) hx hb dX7_weigh_31 (by decide) ?_
        refine lv_icmp_ne (tgt := 52) hx hb dX7_weigh_32 (by decide) (fun c_10 => ?_) (fun c_10 => ?_)
        · have hg := g_if hg c_10
          exact b_52 (f_X7_weigh_b7 v1 n) ih x1 x2 x3 x4 x5 x6_8 v0 H locs ls hP hD hS (lv_sub hl [1, 2, 3, 4, 5, 6, 0] rfl) hg
        · have hg := g_it hg c_10
          refine lv_aload_n hx hb dX7_weigh_35 rfl (lv_at hl 1 rfl) ?_
          refine va_get (ci := 6) (v := .ref a0_rays) (C := RX7) (T := TX7) (N := 5) hx hb htb uX7 hown hK.1 hP 0 rfl rfl 2 (by decide) (htb _ tg_270) (fun _ h9 => h9) rfl dX7_weigh_36 ?_
          refine lv_iload hx hb dX7_weigh_39 (lv_at hl 0 rfl) ?_
          refine lv_aload_n hx hb dX7_weigh_41 rfl (lv_at hl 1 rfl) ?_
          refine lv_iload hx hb dX7_weigh_42 (lv_at hl 0 rfl) ?_
          obtain ⟨r_11, hr_11, hg⟩ := g_bd hg
          refine cc_i (va_runV (C := RX7) (As := [.int x6_8]) (rest := [.int x6_8, .ref a0_rays]) ⟨hx, hb, hml, hown, htb⟩ (k_X7_trace a0 a0_view a0_rays a1 a1_own a1_bodyX a1_bodyY a1_bodyWayX a1_bodyWayY a1_bodyMark v0 v1 x6_8 r_11 hr_11) (cw_V 1 htb tg_514 tg_8 tg_531 tg_512 tg_513 rfl rfl (by decide +kernel) ⟨Nat.le_of_ble_eq_true rfl, Nat.le_of_ble_eq_true rfl⟩) ⟨PC.blind, va_recv hK.1 hP (ci := 6) (q0 := 0) rfl rfl, PC.pre hK hT hP hD hS hA [0, 1, 2, 3, 4, 5, 6, 7, 8, 9] rfl (by decide)⟩ rfl rfl hl.1 rfl (lv_room (Nat.le_of_ble_eq_true rfl)) dX7_weigh_44 ⟨Nat.le_of_ble_eq_true rfl, Nat.le_of_ble_eq_true rfl⟩) hP hD hS hA [0, 1, 2, 3, 4, 5, 6, 7, 8, 9] [] rfl rfl (by decide) (by decide) (fun r9 u9 H locs hw hP hD hS => ?_)
          have hw := hw.symm
          subst hw
          have hP : va_P D vwCl (WS_X7_weigh cI cJ cZ cY a0 a0_view a0_rays a1 a1_own a1_bodyX a1_bodyY a1_bodyWayX a1_bodyWayY a1_bodyMark v0 v1) H := hP.sub [0, 1, 2, 3, 4, 5, 6, 7, 8, 9] rfl
          have hD : va_D A (WS_X7_weigh cI cJ cZ cY a0 a0_view a0_rays a1 a1_own a1_bodyX a1_bodyY a1_bodyWayX a1_bodyWayY a1_bodyMark v0 v1) := hD.sub [0, 1, 2, 3, 4, 5, 6, 7, 8, 9] (by decide) rfl
          refine lv_sipush (v := 255) hx hb dX7_weigh_47 (by decide) ?_
          refine lv_iand hx hb dX7_weigh_50 ?_
          refine lv_topi (fun x_12 ex_12 => ?_)
          have hg := g_lte hg x_12 ex_12
          obtain ⟨h_13, hg⟩ := g_gde hg
          refine va_iast hx hb hK.1 hP hD hS 2 0 rfl rfl (inB_vp h_13) dX7_weigh_51 (fun H locs hP hD hS => ?_)
          obtain ⟨v0_14, ev0_14⟩ : ∃ z, z = sX7_rays v0 (upd (pX7_rays v0) (x6_8 : Int32).toNatClampNeg x_12) := ⟨_, rfl⟩
          have hP : va_P D vwCl (WS_X7_weigh cI cJ cZ cY a0 a0_view a0_rays a1 a1_own a1_bodyX a1_bodyY a1_bodyWayX a1_bodyWayY a1_bodyMark v0_14 v1) H := by rw [ev0_14]; exact hP
          have hD : va_D A (WS_X7_weigh cI cJ cZ cY a0 a0_view a0_rays a1 a1_own a1_bodyX a1_bodyY a1_bodyWayX a1_bodyWayY a1_bodyMark v0_14 v1) := by rw [ev0_14]; exact hD
          have hg := g_lte hg v0_14 ev0_14
          exact b_52 (f_X7_weigh_b7 v1 n) ih x1 x2 x3 x4 x5 x6_8 v0_14 H locs ls hP hD hS (lv_sub hl [1, 2, 3, 4, 5, 6, 0] rfl) hg
  generalize hHe : s.heap = H at hP ⊢
  have hS : va_S A s.heap H [] := by rw [← hHe]; exact va_S.rf
  generalize ([] : List Loc) = locs at hS ⊢
  unfold f_X7_weigh at hg
  refine lv_iconst (v := 0) hx hb dX7_weigh_0 (by decide) ?_
  refine lv_istore (lv' := [(4, .int 0), (0, .ref a0), (1, .int p0), (2, .int p1), (3, .int p2)]) hx hb dX7_weigh_1 hl (by decide) rfl (fun ls hl => ?_)
  refine lv_iload_n hx hb dX7_weigh_3 rfl (lv_at hl 3 rfl) ?_
  refine lv_ineg hx hb dX7_weigh_4 ?_
  refine lv_topi (fun x5_15 ex5_15 => ?_)
  have hg := g_lte hg x5_15 ex5_15
  refine lv_istore (lv' := [(5, .int x5_15), (4, .int 0), (0, .ref a0), (1, .int p0), (2, .int p1), (3, .int p2)]) hx hb dX7_weigh_5 hl (by decide) rfl (fun ls hl => ?_)
  exact b_7 fU p0 p1 p2 0 x5_15 v0 H locs ls hP hD hS (lv_sub hl [2, 3, 4, 5, 1, 0] rfl) hg

/-! ManyEyes$Tokens.advance()V -/
def WS_X9_advance (cI cJ cZ cY : ClassId) (a0 a0_kinds a0_starts a0_values : Nat) (v0 : BX9) : va_W := (GX9 cI cJ cZ cY a0 a0_kinds a0_starts a0_values v0)
def f_X9_advance (v0 : BX9) : Option (BX9) := g_gd (inB (pX9_next v0) 301) (g_lt (((pX9_kinds v0) ((pX9_next v0) : Int32).toNatClampNeg) : Int32) (fun x_2 => g_lt (sX9_kind v0 x_2) (fun v0_3 => g_gd (inB (pX9_next v0_3) 301) (g_lt (((pX9_starts v0_3) ((pX9_next v0_3) : Int32).toNatClampNeg) : Int32) (fun x_5 => g_lt (sX9_start v0_3 x_5) (fun v0_6 => g_gd (inB (pX9_next v0_6) 301) (g_lt (((pX9_values v0_6) ((pX9_next v0_6) : Int32).toNatClampNeg) : Int32) (fun x_8 => g_lt (sX9_value v0_6 x_8) (fun v0_9 => if ((pX9_count v0_9) : Int32) ≤ (pX9_next v0_9) then (some (v0_9)) else (g_lt (((pX9_next v0_9) + 1) : Int32) (fun x_11 => g_lt (sX9_next v0_9 x_11) (fun v0_12 => some (v0_12)))))))))))))
abbrev rm_X9_advance : Room := { frames := 0, cells := 0, slots := 0, locals := 0 }
set_option maxHeartbeats 4000000 in
set_option maxRecDepth 100000 in
theorem k_X9_advance {l : Launch} {D : va_G} {cI cJ cZ cY : ClassId} {tX tY : Nat} {sz : Nat} (a0 a0_kinds a0_starts a0_values : Nat) (v0 : BX9) (res : BX9) (hg : f_X9_advance v0 = some res) : Met l yX9_advance (Cond.code yX9_advance cX9_advance 1 none :: TB) rm_X9_advance (PC D cI cJ cZ cY tX tY [.ref a0] (WS_X9_advance cI cJ cZ cY a0 a0_kinds a0_starts a0_values v0) sz) (va_Qv (fun (u : BX9) => u = res) (BC D (fun u : BX9 => WS_X9_advance cI cJ cZ cY a0 a0_kinds a0_starts a0_values u) (va_A (WS_X9_advance cI cJ cZ cY a0 a0_kinds a0_starts a0_values v0) sz)) (va_A (WS_X9_advance cI cJ cZ cY a0 a0_kinds a0_starts a0_values v0) sz)) 0 0 (va_A (WS_X9_advance cI cJ cZ cY a0 a0_kinds a0_starts a0_values v0) sz) := by
  refine Met.ofW (cc := cX9_advance) (maxL := 1) (ret := none) (by decide) rfl ?_
  intro p e s m args below meth c s₁ B hml hv
  obtain ⟨hargs, hsz, hP, hK, hD0, hT⟩ := hv
  have hx := B.exec
  have hb := B.bytes
  have hr := B.returns
  have htb : ∀ w ∈ TB, w.before args s = true := fun w h => atoms_spec (ws := Cond.code yX9_advance cX9_advance 1 none :: TB) B.pre w (List.mem_cons_of_mem _ h)
  have hown : s.vm.findClass "ManyEyes$Tokens" = some m.cls := findClass_of_methodNamed B.named
  have hlocks := B.notSynchronized
  subst hsz
  have hD := hD0.self (sz := s.heap.size)
  generalize hAe : va_A (WS_X9_advance cI cJ cZ cY a0 a0_kinds a0_starts a0_values v0) s.heap.size = A at hD hT ⊢
  have hA : ∀ q : Nat, s.heap.size ≤ q → A q := fun q h => by rw [← hAe]; exact Or.inr h
  have hS : va_S A s.heap s.heap [] := va_S.rf
  have hl := lv_entry ([.ref a0]) (n := 1) (Nat.le_of_ble_eq_true rfl)
  have he : entryFrame m args 1 = F0 m 0 (lg_sl ([.ref a0]) ++ List.replicate (1 - (lg_sl ([.ref a0])).length) Slot.unset).toArray [] := by rw [hargs, lg_entry_eq]
  rw [he]
  generalize (lg_sl ([.ref a0]) ++ List.replicate (1 - (lg_sl ([.ref a0])).length) Slot.unset).toArray = ls at hl ⊢
  have hl : lv_has ls 1 [(0, .ref a0)] := hl
  show W p l e rm_X9_advance s m args below meth c s.heap [] 0 0 _ _
  refine W.genQ (fun Q hQ => ?_)
  generalize hHe : s.heap = H at hP ⊢
  have hS : va_S A s.heap H [] := by rw [← hHe]; exact va_S.rf
  generalize ([] : List Loc) = locs at hS ⊢
  unfold f_X9_advance at hg
  refine lv_aload_n hx hb dX9_advance_0 rfl (lv_at hl 0 rfl) ?_
  refine lv_aload_n hx hb dX9_advance_1 rfl (lv_at hl 0 rfl) ?_
  refine va_get (ci := 8) (v := .ref a0_kinds) (C := RX9) (T := TX9) (N := 8) hx hb htb uX9 hown hK.1 hP 0 rfl rfl 0 (by decide) (htb _ tg_357) (fun _ h9 => h9) rfl dX9_advance_2 ?_
  refine lv_aload_n hx hb dX9_advance_5 rfl (lv_at hl 0 rfl) ?_
  refine va_get (ci := 8) (v := .int (pX9_next v0)) (C := RX9) (T := TX9) (N := 8) hx hb htb uX9 hown hK.1 hP 0 rfl rfl 4 (by decide) (htb _ tg_361) (fun _ h9 => h9) rfl dX9_advance_6 ?_
  obtain ⟨h_1, hg⟩ := g_gde hg
  refine va_iald hx hb hK.1 hP 1 0 rfl rfl (inB_vp h_1) dX9_advance_9 ?_
  refine lv_topi (fun x_2 ex_2 => ?_)
  have hg := g_lte hg x_2 ex_2
  refine va_put (ci := 8) (v := .int x_2) (ty := .int) (C := RX9) (T := TX9) (N := 8) hx hb htb uX9 tyX9 tyX9_ok nmX9 hown hK.1 hP hD hS 0 rfl rfl 5 (by decide) (htb _ tg_363) (fun _ h9 => h9) rfl (by decide +kernel) rfl rfl (Nat.le_of_ble_eq_true rfl) dX9_advance_10 (fun H locs hP hD hS => ?_)
  obtain ⟨v0_3, ev0_3⟩ : ∃ z, z = sX9_kind v0 x_2 := ⟨_, rfl⟩
  have hP : va_P D vwCl (WS_X9_advance cI cJ cZ cY a0 a0_kinds a0_starts a0_values v0_3) H := by rw [ev0_3]; exact hP
  have hD : va_D A (WS_X9_advance cI cJ cZ cY a0 a0_kinds a0_starts a0_values v0_3) := by rw [ev0_3]; exact hD
  have hg := g_lte hg v0_3 ev0_3
  refine lv_aload_n hx hb dX9_advance_13 rfl (lv_at hl 0 rfl) ?_
  refine lv_aload_n hx hb dX9_advance_14 rfl (lv_at hl 0 rfl) ?_
  refine va_get (ci := 8) (v := .ref a0_starts) (C := RX9) (T := TX9) (N := 8) hx hb htb uX9 hown hK.1 hP 0 rfl rfl 1 (by decide) (htb _ tg_358) (fun _ h9 => h9) rfl dX9_advance_15 ?_
  refine lv_aload_n hx hb dX9_advance_18 rfl (lv_at hl 0 rfl) ?_
  refine va_get (ci := 8) (v := .int (pX9_next v0_3)) (C := RX9) (T := TX9) (N := 8) hx hb htb uX9 hown hK.1 hP 0 rfl rfl 4 (by decide) (htb _ tg_361) (fun _ h9 => h9) rfl dX9_advance_19 ?_
  obtain ⟨h_4, hg⟩ := g_gde hg
  refine va_iald hx hb hK.1 hP 2 0 rfl rfl (inB_vp h_4) dX9_advance_22 ?_
  refine lv_topi (fun x_5 ex_5 => ?_)
  have hg := g_lte hg x_5 ex_5
  refine va_put (ci := 8) (v := .int x_5) (ty := .int) (C := RX9) (T := TX9) (N := 8) hx hb htb uX9 tyX9 tyX9_ok nmX9 hown hK.1 hP hD hS 0 rfl rfl 6 (by decide) (htb _ tg_364) (fun _ h9 => h9) rfl (by decide +kernel) rfl rfl (Nat.le_of_ble_eq_true rfl) dX9_advance_23 (fun H locs hP hD hS => ?_)
  obtain ⟨v0_6, ev0_6⟩ : ∃ z, z = sX9_start v0_3 x_5 := ⟨_, rfl⟩
  have hP : va_P D vwCl (WS_X9_advance cI cJ cZ cY a0 a0_kinds a0_starts a0_values v0_6) H := by rw [ev0_6]; exact hP
  have hD : va_D A (WS_X9_advance cI cJ cZ cY a0 a0_kinds a0_starts a0_values v0_6) := by rw [ev0_6]; exact hD
  have hg := g_lte hg v0_6 ev0_6
  refine lv_aload_n hx hb dX9_advance_26 rfl (lv_at hl 0 rfl) ?_
  refine lv_aload_n hx hb dX9_advance_27 rfl (lv_at hl 0 rfl) ?_
  refine va_get (ci := 8) (v := .ref a0_values) (C := RX9) (T := TX9) (N := 8) hx hb htb uX9 hown hK.1 hP 0 rfl rfl 2 (by decide) (htb _ tg_359) (fun _ h9 => h9) rfl dX9_advance_28 ?_
  refine lv_aload_n hx hb dX9_advance_31 rfl (lv_at hl 0 rfl) ?_
  refine va_get (ci := 8) (v := .int (pX9_next v0_6)) (C := RX9) (T := TX9) (N := 8) hx hb htb uX9 hown hK.1 hP 0 rfl rfl 4 (by decide) (htb _ tg_361) (fun _ h9 => h9) rfl dX9_advance_32 ?_
  obtain ⟨h_7, hg⟩ := g_gde hg
  refine va_iald hx hb hK.1 hP 3 0 rfl rfl (inB_vp h_7) dX9_advance_35 ?_
  refine lv_topi (fun x_8 ex_8 => ?_)
  have hg := g_lte hg x_8 ex_8
  refine va_put (ci := 8) (v := .int x_8) (ty := .int) (C := RX9) (T := TX9) (N := 8) hx hb htb uX9 tyX9 tyX9_ok nmX9 hown hK.1 hP hD hS 0 rfl rfl 7 (by decide) (htb _ tg_366) (fun _ h9 => h9) rfl (by decide +kernel) rfl rfl (Nat.le_of_ble_eq_true rfl) dX9_advance_36 (fun H locs hP hD hS => ?_)
  obtain ⟨v0_9, ev0_9⟩ : ∃ z, z = sX9_value v0_6 x_8 := ⟨_, rfl⟩
  have hP : va_P D vwCl (WS_X9_advance cI cJ cZ cY a0 a0_kinds a0_starts a0_values v0_9) H := by rw [ev0_9]; exact hP
  have hD : va_D A (WS_X9_advance cI cJ cZ cY a0 a0_kinds a0_starts a0_values v0_9) := by rw [ev0_9]; exact hD
  have hg := g_lte hg v0_9 ev0_9
  refine lv_aload_n hx hb dX9_advance_39 rfl (lv_at hl 0 rfl) ?_
  refine va_get (ci := 8) (v := .int (pX9_next v0_9)) (C := RX9) (T := TX9) (N := 8) hx hb htb uX9 hown hK.1 hP 0 rfl rfl 4 (by decide) (htb _ tg_361) (fun _ h9 => h9) rfl dX9_advance_40 ?_
  refine lv_aload_n hx hb dX9_advance_43 rfl (lv_at hl 0 rfl) ?_
  refine va_get (ci := 8) (v := .int (pX9_count v0_9)) (C := RX9) (T := TX9) (N := 8) hx hb htb uX9 hown hK.1 hP 0 rfl rfl 3 (by decide) (htb _ tg_360) (fun _ h9 => h9) rfl dX9_advance_44 ?_
  refine lv_icmp_ge (tgt := 60) hx hb dX9_advance_47 (by decide) (fun c_10 => ?_) (fun c_10 => ?_)
  · have hg := g_it hg c_10
    have hg := Option.some.inj hg
    rw [hQ]
    exact W.vret hx hb hr (fun t ht hW => ⟨⟨(v0_9), rfl, hg, by rw [ht]; exact hP, hD⟩, hS.F ht⟩) hS.2.2 dX9_advance_60
  · have hg := g_if hg c_10
    refine lv_aload_n hx hb dX9_advance_50 rfl (lv_at hl 0 rfl) ?_
    refine lv_dup hx hb dX9_advance_51 rfl ?_
    refine va_get (ci := 8) (v := .int (pX9_next v0_9)) (C := RX9) (T := TX9) (N := 8) hx hb htb uX9 hown hK.1 hP 0 rfl rfl 4 (by decide) (htb _ tg_361) (fun _ h9 => h9) rfl dX9_advance_52 ?_
    refine lv_iconst (v := 1) hx hb dX9_advance_55 (by decide) ?_
    refine lv_iadd hx hb dX9_advance_56 ?_
    refine lv_topi (fun x_11 ex_11 => ?_)
    have hg := g_lte hg x_11 ex_11
    refine va_put (ci := 8) (v := .int x_11) (ty := .int) (C := RX9) (T := TX9) (N := 8) hx hb htb uX9 tyX9 tyX9_ok nmX9 hown hK.1 hP hD hS 0 rfl rfl 4 (by decide) (htb _ tg_361) (fun _ h9 => h9) rfl (by decide +kernel) rfl rfl (Nat.le_of_ble_eq_true rfl) dX9_advance_57 (fun H locs hP hD hS => ?_)
    obtain ⟨v0_12, ev0_12⟩ : ∃ z, z = sX9_next v0_9 x_11 := ⟨_, rfl⟩
    have hP : va_P D vwCl (WS_X9_advance cI cJ cZ cY a0 a0_kinds a0_starts a0_values v0_12) H := by rw [ev0_12]; exact hP
    have hD : va_D A (WS_X9_advance cI cJ cZ cY a0 a0_kinds a0_starts a0_values v0_12) := by rw [ev0_12]; exact hD
    have hg := g_lte hg v0_12 ev0_12
    have hg := Option.some.inj hg
    rw [hQ]
    exact W.vret hx hb hr (fun t ht hW => ⟨⟨(v0_12), rfl, hg, by rw [ht]; exact hP, hD⟩, hS.F ht⟩) hS.2.2 dX9_advance_60

/-! ManyEyes$Tokens.goesOn(III)Z -/
def WS_X9_goesOn (cI cJ cZ cY : ClassId) (a0 a0_kinds a0_starts a0_values : Nat) (v0 : BX9) : va_W := (GX9 cI cJ cZ cY a0 a0_kinds a0_starts a0_values v0)
def f_X9_goesOn (v0 : BX9) (p0 : Int32) (p1 : Int32) (p2 : Int32) : Option (Int32) := if (p0 : Int32) = p1 then (if ((pX9_count v0) : Int32) = 0 then (some 0) else (g_gd (inB ((pX9_count v0) - 1) 301) (g_lt (((pX9_kinds v0) (((pX9_count v0) - 1) : Int32).toNatClampNeg) : Int32) (fun x4_4 => if (p1 : Int32) = 3 then (if (p2 : Int32) = 61 then (if (x4_4 : Int32) = 60 then (some 1) else (if (x4_4 : Int32) = 62 then (some 1) else (some 0))) else (some 0)) else (some 1))))) else (some 0)
abbrev rm_X9_goesOn : Room := { frames := 0, cells := 0, slots := 0, locals := 0 }
set_option maxHeartbeats 4000000 in
set_option maxRecDepth 100000 in
theorem k_X9_goesOn {l : Launch} {D : va_G} {cI cJ cZ cY : ClassId} {tX tY : Nat} {sz : Nat} (a0 a0_kinds a0_starts a0_values : Nat) (v0 : BX9) (p0 : Int32) (p1 : Int32) (p2 : Int32) (res : Int32) (hg : f_X9_goesOn v0 p0 p1 p2 = some res) : Met l yX9_goesOn (Cond.code yX9_goesOn cX9_goesOn 5 (some .boolean) :: TB) rm_X9_goesOn (PC D cI cJ cZ cY tX tY [.ref a0, .int p0, .int p1, .int p2] (WS_X9_goesOn cI cJ cZ cY a0 a0_kinds a0_starts a0_values v0) sz) (va_Qi (fun (r : Int32) (_ : Unit) => r = res) (BC D (fun _ : Unit => WS_X9_goesOn cI cJ cZ cY a0 a0_kinds a0_starts a0_values v0) (va_A (WS_X9_goesOn cI cJ cZ cY a0 a0_kinds a0_starts a0_values v0) sz)) (va_A (WS_X9_goesOn cI cJ cZ cY a0 a0_kinds a0_starts a0_values v0) sz)) 0 0 (va_A (WS_X9_goesOn cI cJ cZ cY a0 a0_kinds a0_starts a0_values v0) sz) := by
  refine Met.ofW (cc := cX9_goesOn) (maxL := 5) (ret := (some .boolean)) (by decide) rfl ?_
  intro p e s m args below meth c s₁ B hml hv
  obtain ⟨hargs, hsz, hP, hK, hD0, hT⟩ := hv
  have hx := B.exec
  have hb := B.bytes
  have hr := B.returns
  have htb : ∀ w ∈ TB, w.before args s = true := fun w h => atoms_spec (ws := Cond.code yX9_goesOn cX9_goesOn 5 (some .boolean) :: TB) B.pre w (List.mem_cons_of_mem _ h)
  have hown : s.vm.findClass "ManyEyes$Tokens" = some m.cls := findClass_of_methodNamed B.named
  have hlocks := B.notSynchronized
  subst hsz
  have hD := hD0.self (sz := s.heap.size)
  generalize hAe : va_A (WS_X9_goesOn cI cJ cZ cY a0 a0_kinds a0_starts a0_values v0) s.heap.size = A at hD hT ⊢
  have hA : ∀ q : Nat, s.heap.size ≤ q → A q := fun q h => by rw [← hAe]; exact Or.inr h
  have hS : va_S A s.heap s.heap [] := va_S.rf
  have hl := lv_entry ([.ref a0, .int p0, .int p1, .int p2]) (n := 5) (Nat.le_of_ble_eq_true rfl)
  have he : entryFrame m args 5 = F0 m 0 (lg_sl ([.ref a0, .int p0, .int p1, .int p2]) ++ List.replicate (5 - (lg_sl ([.ref a0, .int p0, .int p1, .int p2])).length) Slot.unset).toArray [] := by rw [hargs, lg_entry_eq]
  rw [he]
  generalize (lg_sl ([.ref a0, .int p0, .int p1, .int p2]) ++ List.replicate (5 - (lg_sl ([.ref a0, .int p0, .int p1, .int p2])).length) Slot.unset).toArray = ls at hl ⊢
  have hl : lv_has ls 5 [(0, .ref a0), (1, .int p0), (2, .int p1), (3, .int p2)] := hl
  show W p l e rm_X9_goesOn s m args below meth c s.heap [] 0 0 _ _
  refine W.genQ (fun Q hQ => ?_)
  generalize hHe : s.heap = H at hP ⊢
  have hS : va_S A s.heap H [] := by rw [← hHe]; exact va_S.rf
  generalize ([] : List Loc) = locs at hS ⊢
  unfold f_X9_goesOn at hg
  refine lv_iload_n hx hb dX9_goesOn_0 rfl (lv_at hl 1 rfl) ?_
  refine lv_iload_n hx hb dX9_goesOn_1 rfl (lv_at hl 2 rfl) ?_
  refine lv_icmp_ne (tgt := 12) hx hb dX9_goesOn_2 (by decide) (fun c_1 => ?_) (fun c_1 => ?_)
  · have hg := g_if hg c_1
    refine lv_iconst (v := 0) hx hb dX9_goesOn_12 (by decide) ?_
    have hg := Option.some.inj hg
    rw [hQ]
    exact W.zret (v := 0) (ty := .boolean) hx hb hr rfl (fun t ht hW => ⟨⟨0, (), rfl, hg, by rw [ht]; exact hP, hD⟩, hS.F ht⟩) hS.2.2 dX9_goesOn_13
  · have hg := g_it hg c_1
    refine lv_aload_n hx hb dX9_goesOn_5 rfl (lv_at hl 0 rfl) ?_
    refine va_get (ci := 8) (v := .int (pX9_count v0)) (C := RX9) (T := TX9) (N := 8) hx hb htb uX9 hown hK.1 hP 0 rfl rfl 3 (by decide) (htb _ tg_360) (fun _ h9 => h9) rfl dX9_goesOn_6 ?_
    refine lv_if_ne (tgt := 14) hx hb dX9_goesOn_9 (by decide) (fun c_2 => ?_) (fun c_2 => ?_)
    · have hg := g_if hg c_2
      refine lv_aload_n hx hb dX9_goesOn_14 rfl (lv_at hl 0 rfl) ?_
      refine va_get (ci := 8) (v := .ref a0_kinds) (C := RX9) (T := TX9) (N := 8) hx hb htb uX9 hown hK.1 hP 0 rfl rfl 0 (by decide) (htb _ tg_357) (fun _ h9 => h9) rfl dX9_goesOn_15 ?_
      refine lv_aload_n hx hb dX9_goesOn_18 rfl (lv_at hl 0 rfl) ?_
      refine va_get (ci := 8) (v := .int (pX9_count v0)) (C := RX9) (T := TX9) (N := 8) hx hb htb uX9 hown hK.1 hP 0 rfl rfl 3 (by decide) (htb _ tg_360) (fun _ h9 => h9) rfl dX9_goesOn_19 ?_
      refine lv_iconst (v := 1) hx hb dX9_goesOn_22 (by decide) ?_
      refine lv_isub hx hb dX9_goesOn_23 ?_
      obtain ⟨h_3, hg⟩ := g_gde hg
      refine va_iald hx hb hK.1 hP 1 0 rfl rfl (inB_vp h_3) dX9_goesOn_24 ?_
      refine lv_topi (fun x4_4 ex4_4 => ?_)
      have hg := g_lte hg x4_4 ex4_4
      refine lv_istore (lv' := [(4, .int x4_4), (0, .ref a0), (1, .int p0), (2, .int p1), (3, .int p2)]) hx hb dX9_goesOn_25 hl (by decide) rfl (fun ls hl => ?_)
      refine lv_iload_n hx hb dX9_goesOn_27 rfl (lv_at hl 3 rfl) ?_
      refine lv_iconst (v := 3) hx hb dX9_goesOn_28 (by decide) ?_
      refine lv_icmp_ne (tgt := 52) hx hb dX9_goesOn_29 (by decide) (fun c_5 => ?_) (fun c_5 => ?_)
      · have hg := g_if hg c_5
        refine lv_iconst (v := 1) hx hb dX9_goesOn_52 (by decide) ?_
        refine lv_goto (tgt := 57) hx hb dX9_goesOn_53 (by decide) ?_
        have hg := Option.some.inj hg
        rw [hQ]
        exact W.zret (v := 1) (ty := .boolean) hx hb hr rfl (fun t ht hW => ⟨⟨1, (), rfl, hg, by rw [ht]; exact hP, hD⟩, hS.F ht⟩) hS.2.2 dX9_goesOn_57
      · have hg := g_it hg c_5
        refine lv_iload_n hx hb dX9_goesOn_32 rfl (lv_at hl 4 rfl) ?_
        refine lv_bipush (v := 61) hx hb dX9_goesOn_33 (by decide) ?_
        refine lv_icmp_ne (tgt := 56) hx hb dX9_goesOn_35 (by decide) (fun c_6 => ?_) (fun c_6 => ?_)
        · have hg := g_if hg c_6
          refine lv_iconst (v := 0) hx hb dX9_goesOn_56 (by decide) ?_
          have hg := Option.some.inj hg
          rw [hQ]
          exact W.zret (v := 0) (ty := .boolean) hx hb hr rfl (fun t ht hW => ⟨⟨0, (), rfl, hg, by rw [ht]; exact hP, hD⟩, hS.F ht⟩) hS.2.2 dX9_goesOn_57
        · have hg := g_it hg c_6
          refine lv_iload hx hb dX9_goesOn_38 (lv_at hl 0 rfl) ?_
          refine lv_bipush (v := 60) hx hb dX9_goesOn_40 (by decide) ?_
          refine lv_icmp_eq (tgt := 52) hx hb dX9_goesOn_42 (by decide) (fun c_7 => ?_) (fun c_7 => ?_)
          · have hg := g_it hg c_7
            refine lv_iconst (v := 1) hx hb dX9_goesOn_52 (by decide) ?_
            refine lv_goto (tgt := 57) hx hb dX9_goesOn_53 (by decide) ?_
            have hg := Option.some.inj hg
            rw [hQ]
            exact W.zret (v := 1) (ty := .boolean) hx hb hr rfl (fun t ht hW => ⟨⟨1, (), rfl, hg, by rw [ht]; exact hP, hD⟩, hS.F ht⟩) hS.2.2 dX9_goesOn_57
          · have hg := g_if hg c_7
            refine lv_iload hx hb dX9_goesOn_45 (lv_at hl 0 rfl) ?_
            refine lv_bipush (v := 62) hx hb dX9_goesOn_47 (by decide) ?_
            refine lv_icmp_ne (tgt := 56) hx hb dX9_goesOn_49 (by decide) (fun c_8 => ?_) (fun c_8 => ?_)
            · have hg := g_if hg c_8
              refine lv_iconst (v := 0) hx hb dX9_goesOn_56 (by decide) ?_
              have hg := Option.some.inj hg
              rw [hQ]
              exact W.zret (v := 0) (ty := .boolean) hx hb hr rfl (fun t ht hW => ⟨⟨0, (), rfl, hg, by rw [ht]; exact hP, hD⟩, hS.F ht⟩) hS.2.2 dX9_goesOn_57
            · have hg := g_it hg c_8
              refine lv_iconst (v := 1) hx hb dX9_goesOn_52 (by decide) ?_
              refine lv_goto (tgt := 57) hx hb dX9_goesOn_53 (by decide) ?_
              have hg := Option.some.inj hg
              rw [hQ]
              exact W.zret (v := 1) (ty := .boolean) hx hb hr rfl (fun t ht hW => ⟨⟨1, (), rfl, hg, by rw [ht]; exact hP, hD⟩, hS.F ht⟩) hS.2.2 dX9_goesOn_57
    · have hg := g_it hg c_2
      refine lv_iconst (v := 0) hx hb dX9_goesOn_12 (by decide) ?_
      have hg := Option.some.inj hg
      rw [hQ]
      exact W.zret (v := 0) (ty := .boolean) hx hb hr rfl (fun t ht hW => ⟨⟨0, (), rfl, hg, by rw [ht]; exact hP, hD⟩, hS.F ht⟩) hS.2.2 dX9_goesOn_13

/-! ManyEyes$World.rowOf(I)I -/
def WS_X10_rowOf (cI cJ cZ cY : ClassId) (a0 a0_own a0_bodyX a0_bodyY a0_bodyWayX a0_bodyWayY a0_bodyMark : Nat) (v0 : BX10) : va_W := (GX10 cI cJ cZ cY a0 a0_own a0_bodyX a0_bodyY a0_bodyWayX a0_bodyWayY a0_bodyMark v0)
def f_X10_rowOf (v0 : BX10) (p0 : Int32) : Option (Int32) := if ((pX10_w v0) : Int32) ≤ 0 then (some 0) else (g_gd (¬ ((pX10_w v0) : Int32) = 0) (some (p0 / (pX10_w v0))))
abbrev rm_X10_rowOf : Room := { frames := 0, cells := 0, slots := 0, locals := 0 }
set_option maxHeartbeats 4000000 in
set_option maxRecDepth 100000 in
theorem k_X10_rowOf {l : Launch} {D : va_G} {cI cJ cZ cY : ClassId} {tX tY : Nat} {sz : Nat} (a0 a0_own a0_bodyX a0_bodyY a0_bodyWayX a0_bodyWayY a0_bodyMark : Nat) (v0 : BX10) (p0 : Int32) (res : Int32) (hg : f_X10_rowOf v0 p0 = some res) : Met l yX10_rowOf (Cond.code yX10_rowOf cX10_rowOf 2 (some .int) :: TB) rm_X10_rowOf (PC D cI cJ cZ cY tX tY [.ref a0, .int p0] (WS_X10_rowOf cI cJ cZ cY a0 a0_own a0_bodyX a0_bodyY a0_bodyWayX a0_bodyWayY a0_bodyMark v0) sz) (va_Qi (fun (r : Int32) (_ : Unit) => r = res) (BC D (fun _ : Unit => WS_X10_rowOf cI cJ cZ cY a0 a0_own a0_bodyX a0_bodyY a0_bodyWayX a0_bodyWayY a0_bodyMark v0) (va_A (WS_X10_rowOf cI cJ cZ cY a0 a0_own a0_bodyX a0_bodyY a0_bodyWayX a0_bodyWayY a0_bodyMark v0) sz)) (va_A (WS_X10_rowOf cI cJ cZ cY a0 a0_own a0_bodyX a0_bodyY a0_bodyWayX a0_bodyWayY a0_bodyMark v0) sz)) 0 0 (va_A (WS_X10_rowOf cI cJ cZ cY a0 a0_own a0_bodyX a0_bodyY a0_bodyWayX a0_bodyWayY a0_bodyMark v0) sz) := by
  refine Met.ofW (cc := cX10_rowOf) (maxL := 2) (ret := (some .int)) (by decide) rfl ?_
  intro p e s m args below meth c s₁ B hml hv
  obtain ⟨hargs, hsz, hP, hK, hD0, hT⟩ := hv
  have hx := B.exec
  have hb := B.bytes
  have hr := B.returns
  have htb : ∀ w ∈ TB, w.before args s = true := fun w h => atoms_spec (ws := Cond.code yX10_rowOf cX10_rowOf 2 (some .int) :: TB) B.pre w (List.mem_cons_of_mem _ h)
  have hown : s.vm.findClass "ManyEyes$World" = some m.cls := findClass_of_methodNamed B.named
  have hlocks := B.notSynchronized
  subst hsz
  have hD := hD0.self (sz := s.heap.size)
  generalize hAe : va_A (WS_X10_rowOf cI cJ cZ cY a0 a0_own a0_bodyX a0_bodyY a0_bodyWayX a0_bodyWayY a0_bodyMark v0) s.heap.size = A at hD hT ⊢
  have hA : ∀ q : Nat, s.heap.size ≤ q → A q := fun q h => by rw [← hAe]; exact Or.inr h
  have hS : va_S A s.heap s.heap [] := va_S.rf
  have hl := lv_entry ([.ref a0, .int p0]) (n := 2) (Nat.le_of_ble_eq_true rfl)
  have he : entryFrame m args 2 = F0 m 0 (lg_sl ([.ref a0, .int p0]) ++ List.replicate (2 - (lg_sl ([.ref a0, .int p0])).length) Slot.unset).toArray [] := by rw [hargs, lg_entry_eq]
  rw [he]
  generalize (lg_sl ([.ref a0, .int p0]) ++ List.replicate (2 - (lg_sl ([.ref a0, .int p0])).length) Slot.unset).toArray = ls at hl ⊢
  have hl : lv_has ls 2 [(0, .ref a0), (1, .int p0)] := hl
  show W p l e rm_X10_rowOf s m args below meth c s.heap [] 0 0 _ _
  refine W.genQ (fun Q hQ => ?_)
  generalize hHe : s.heap = H at hP ⊢
  have hS : va_S A s.heap H [] := by rw [← hHe]; exact va_S.rf
  generalize ([] : List Loc) = locs at hS ⊢
  unfold f_X10_rowOf at hg
  refine lv_aload_n hx hb dX10_rowOf_0 rfl (lv_at hl 0 rfl) ?_
  refine va_get (ci := 9) (v := .int (pX10_w v0)) (C := RX10) (T := TX10) (N := 9) hx hb htb uX10 hown hK.1 hP 0 rfl rfl 0 (by decide) (htb _ tg_43) (fun _ h9 => h9) rfl dX10_rowOf_1 ?_
  refine lv_if_le (tgt := 16) hx hb dX10_rowOf_4 (by decide) (fun c_1 => ?_) (fun c_1 => ?_)
  · have hg := g_it hg c_1
    refine lv_iconst (v := 0) hx hb dX10_rowOf_16 (by decide) ?_
    have hg := Option.some.inj hg
    rw [hQ]
    exact W.iret (v := 0) hx hb hr (fun t ht hW => ⟨⟨0, (), rfl, hg, by rw [ht]; exact hP, hD⟩, hS.F ht⟩) hS.2.2 dX10_rowOf_17
  · have hg := g_if hg c_1
    refine lv_iload_n hx hb dX10_rowOf_7 rfl (lv_at hl 1 rfl) ?_
    refine lv_aload_n hx hb dX10_rowOf_8 rfl (lv_at hl 0 rfl) ?_
    refine va_get (ci := 9) (v := .int (pX10_w v0)) (C := RX10) (T := TX10) (N := 9) hx hb htb uX10 hown hK.1 hP 0 rfl rfl 0 (by decide) (htb _ tg_43) (fun _ h9 => h9) rfl dX10_rowOf_9 ?_
    obtain ⟨h_2, hg⟩ := g_gde hg
    refine lv_idiv hx hb dX10_rowOf_12 h_2 ?_
    refine lv_goto (tgt := 17) hx hb dX10_rowOf_13 (by decide) ?_
    have hg := Option.some.inj hg
    rw [hQ]
    exact W.iret (v := (p0 / (pX10_w v0))) hx hb hr (fun t ht hW => ⟨⟨(p0 / (pX10_w v0)), (), rfl, hg, by rw [ht]; exact hP, hD⟩, hS.F ht⟩) hS.2.2 dX10_rowOf_17

/-! ManyEyes$World.bodyCell(II)I -/
def WS_X10_bodyCell (cI cJ cZ cY : ClassId) (a0 a0_own a0_bodyX a0_bodyY a0_bodyWayX a0_bodyWayY a0_bodyMark : Nat) (v0 : BX10) : va_W := (GX10 cI cJ cZ cY a0 a0_own a0_bodyX a0_bodyY a0_bodyWayX a0_bodyWayY a0_bodyMark v0)
def f_X10_bodyCell (v0 : BX10) (p0 : Int32) (p1 : Int32) : Option (Int32) := g_gd (inB p0 6) (g_gd (inB p0 6) (g_lt ((((pX10_bodyX v0) (p0 : Int32).toNatClampNeg) + (p1 * ((pX10_bodyWayX v0) (p0 : Int32).toNatClampNeg))) : Int32) (fun x3_3 => g_gd (inB p0 6) (g_gd (inB p0 6) (g_lt ((((pX10_bodyY v0) (p0 : Int32).toNatClampNeg) + (p1 * ((pX10_bodyWayY v0) (p0 : Int32).toNatClampNeg))) : Int32) (fun x4_6 => if (x3_3 : Int32) < 0 then (some (-1)) else (if ((pX10_w v0) : Int32) ≤ x3_3 then (some (-1)) else (if (x4_6 : Int32) < 0 then (some (-1)) else (if ((pX10_h v0) : Int32) ≤ x4_6 then (some (-1)) else (some ((x4_6 * (pX10_w v0)) + x3_3)))))))))))
abbrev rm_X10_bodyCell : Room := { frames := 0, cells := 0, slots := 0, locals := 0 }
set_option maxHeartbeats 4000000 in
set_option maxRecDepth 100000 in
theorem k_X10_bodyCell {l : Launch} {D : va_G} {cI cJ cZ cY : ClassId} {tX tY : Nat} {sz : Nat} (a0 a0_own a0_bodyX a0_bodyY a0_bodyWayX a0_bodyWayY a0_bodyMark : Nat) (v0 : BX10) (p0 : Int32) (p1 : Int32) (res : Int32) (hg : f_X10_bodyCell v0 p0 p1 = some res) : Met l yX10_bodyCell (Cond.code yX10_bodyCell cX10_bodyCell 5 (some .int) :: TB) rm_X10_bodyCell (PC D cI cJ cZ cY tX tY [.ref a0, .int p0, .int p1] (WS_X10_bodyCell cI cJ cZ cY a0 a0_own a0_bodyX a0_bodyY a0_bodyWayX a0_bodyWayY a0_bodyMark v0) sz) (va_Qi (fun (r : Int32) (_ : Unit) => r = res) (BC D (fun _ : Unit => WS_X10_bodyCell cI cJ cZ cY a0 a0_own a0_bodyX a0_bodyY a0_bodyWayX a0_bodyWayY a0_bodyMark v0) (va_A (WS_X10_bodyCell cI cJ cZ cY a0 a0_own a0_bodyX a0_bodyY a0_bodyWayX a0_bodyWayY a0_bodyMark v0) sz)) (va_A (WS_X10_bodyCell cI cJ cZ cY a0 a0_own a0_bodyX a0_bodyY a0_bodyWayX a0_bodyWayY a0_bodyMark v0) sz)) 0 0 (va_A (WS_X10_bodyCell cI cJ cZ cY a0 a0_own a0_bodyX a0_bodyY a0_bodyWayX a0_bodyWayY a0_bodyMark v0) sz) := by
  refine Met.ofW (cc := cX10_bodyCell) (maxL := 5) (ret := (some .int)) (by decide) rfl ?_
  intro p e s m args below meth c s₁ B hml hv
  obtain ⟨hargs, hsz, hP, hK, hD0, hT⟩ := hv
  have hx := B.exec
  have hb := B.bytes
  have hr := B.returns
  have htb : ∀ w ∈ TB, w.before args s = true := fun w h => atoms_spec (ws := Cond.code yX10_bodyCell cX10_bodyCell 5 (some .int) :: TB) B.pre w (List.mem_cons_of_mem _ h)
  have hown : s.vm.findClass "ManyEyes$World" = some m.cls := findClass_of_methodNamed B.named
  have hlocks := B.notSynchronized
  subst hsz
  have hD := hD0.self (sz := s.heap.size)
  generalize hAe : va_A (WS_X10_bodyCell cI cJ cZ cY a0 a0_own a0_bodyX a0_bodyY a0_bodyWayX a0_bodyWayY a0_bodyMark v0) s.heap.size = A at hD hT ⊢
  have hA : ∀ q : Nat, s.heap.size ≤ q → A q := fun q h => by rw [← hAe]; exact Or.inr h
  have hS : va_S A s.heap s.heap [] := va_S.rf
  have hl := lv_entry ([.ref a0, .int p0, .int p1]) (n := 5) (Nat.le_of_ble_eq_true rfl)
  have he : entryFrame m args 5 = F0 m 0 (lg_sl ([.ref a0, .int p0, .int p1]) ++ List.replicate (5 - (lg_sl ([.ref a0, .int p0, .int p1])).length) Slot.unset).toArray [] := by rw [hargs, lg_entry_eq]
  rw [he]
  generalize (lg_sl ([.ref a0, .int p0, .int p1]) ++ List.replicate (5 - (lg_sl ([.ref a0, .int p0, .int p1])).length) Slot.unset).toArray = ls at hl ⊢
  have hl : lv_has ls 5 [(0, .ref a0), (1, .int p0), (2, .int p1)] := hl
  show W p l e rm_X10_bodyCell s m args below meth c s.heap [] 0 0 _ _
  refine W.genQ (fun Q hQ => ?_)
  generalize hHe : s.heap = H at hP ⊢
  have hS : va_S A s.heap H [] := by rw [← hHe]; exact va_S.rf
  generalize ([] : List Loc) = locs at hS ⊢
  unfold f_X10_bodyCell at hg
  refine lv_aload_n hx hb dX10_bodyCell_0 rfl (lv_at hl 0 rfl) ?_
  refine va_get (ci := 9) (v := .ref a0_bodyX) (C := RX10) (T := TX10) (N := 9) hx hb htb uX10 hown hK.1 hP 0 rfl rfl 3 (by decide) (htb _ tg_52) (fun _ h9 => h9) rfl dX10_bodyCell_1 ?_
  refine lv_iload_n hx hb dX10_bodyCell_4 rfl (lv_at hl 1 rfl) ?_
  obtain ⟨h_1, hg⟩ := g_gde hg
  refine va_iald hx hb hK.1 hP 2 0 rfl rfl (inB_vp h_1) dX10_bodyCell_5 ?_
  refine lv_iload_n hx hb dX10_bodyCell_6 rfl (lv_at hl 2 rfl) ?_
  refine lv_aload_n hx hb dX10_bodyCell_7 rfl (lv_at hl 0 rfl) ?_
  refine va_get (ci := 9) (v := .ref a0_bodyWayX) (C := RX10) (T := TX10) (N := 9) hx hb htb uX10 hown hK.1 hP 0 rfl rfl 5 (by decide) (htb _ tg_56) (fun _ h9 => h9) rfl dX10_bodyCell_8 ?_
  refine lv_iload_n hx hb dX10_bodyCell_11 rfl (lv_at hl 1 rfl) ?_
  obtain ⟨h_2, hg⟩ := g_gde hg
  refine va_iald hx hb hK.1 hP 4 0 rfl rfl (inB_vp h_2) dX10_bodyCell_12 ?_
  refine lv_imul hx hb dX10_bodyCell_13 ?_
  refine lv_iadd hx hb dX10_bodyCell_14 ?_
  refine lv_topi (fun x3_3 ex3_3 => ?_)
  have hg := g_lte hg x3_3 ex3_3
  refine lv_istore_n (lv' := [(3, .int x3_3), (0, .ref a0), (1, .int p0), (2, .int p1)]) hx hb dX10_bodyCell_15 rfl hl (by decide) rfl (fun ls hl => ?_)
  refine lv_aload_n hx hb dX10_bodyCell_16 rfl (lv_at hl 1 rfl) ?_
  refine va_get (ci := 9) (v := .ref a0_bodyY) (C := RX10) (T := TX10) (N := 9) hx hb htb uX10 hown hK.1 hP 0 rfl rfl 4 (by decide) (htb _ tg_54) (fun _ h9 => h9) rfl dX10_bodyCell_17 ?_
  refine lv_iload_n hx hb dX10_bodyCell_20 rfl (lv_at hl 2 rfl) ?_
  obtain ⟨h_4, hg⟩ := g_gde hg
  refine va_iald hx hb hK.1 hP 3 0 rfl rfl (inB_vp h_4) dX10_bodyCell_21 ?_
  refine lv_iload_n hx hb dX10_bodyCell_22 rfl (lv_at hl 3 rfl) ?_
  refine lv_aload_n hx hb dX10_bodyCell_23 rfl (lv_at hl 1 rfl) ?_
  refine va_get (ci := 9) (v := .ref a0_bodyWayY) (C := RX10) (T := TX10) (N := 9) hx hb htb uX10 hown hK.1 hP 0 rfl rfl 6 (by decide) (htb _ tg_58) (fun _ h9 => h9) rfl dX10_bodyCell_24 ?_
  refine lv_iload_n hx hb dX10_bodyCell_27 rfl (lv_at hl 2 rfl) ?_
  obtain ⟨h_5, hg⟩ := g_gde hg
  refine va_iald hx hb hK.1 hP 5 0 rfl rfl (inB_vp h_5) dX10_bodyCell_28 ?_
  refine lv_imul hx hb dX10_bodyCell_29 ?_
  refine lv_iadd hx hb dX10_bodyCell_30 ?_
  refine lv_topi (fun x4_6 ex4_6 => ?_)
  have hg := g_lte hg x4_6 ex4_6
  refine lv_istore (lv' := [(4, .int x4_6), (3, .int x3_3), (0, .ref a0), (1, .int p0), (2, .int p1)]) hx hb dX10_bodyCell_31 hl (by decide) rfl (fun ls hl => ?_)
  refine lv_iload_n hx hb dX10_bodyCell_33 rfl (lv_at hl 1 rfl) ?_
  refine lv_if_lt (tgt := 71) hx hb dX10_bodyCell_34 (by decide) (fun c_7 => ?_) (fun c_7 => ?_)
  · have hg := g_it hg c_7
    refine lv_iconst (v := (-1)) hx hb dX10_bodyCell_71 (by decide) ?_
    have hg := Option.some.inj hg
    rw [hQ]
    exact W.iret (v := (-1)) hx hb hr (fun t ht hW => ⟨⟨(-1), (), rfl, hg, by rw [ht]; exact hP, hD⟩, hS.F ht⟩) hS.2.2 dX10_bodyCell_72
  · have hg := g_if hg c_7
    refine lv_iload_n hx hb dX10_bodyCell_37 rfl (lv_at hl 1 rfl) ?_
    refine lv_aload_n hx hb dX10_bodyCell_38 rfl (lv_at hl 2 rfl) ?_
    refine va_get (ci := 9) (v := .int (pX10_w v0)) (C := RX10) (T := TX10) (N := 9) hx hb htb uX10 hown hK.1 hP 0 rfl rfl 0 (by decide) (htb _ tg_43) (fun _ h9 => h9) rfl dX10_bodyCell_39 ?_
    refine lv_icmp_ge (tgt := 71) hx hb dX10_bodyCell_42 (by decide) (fun c_8 => ?_) (fun c_8 => ?_)
    · have hg := g_it hg c_8
      refine lv_iconst (v := (-1)) hx hb dX10_bodyCell_71 (by decide) ?_
      have hg := Option.some.inj hg
      rw [hQ]
      exact W.iret (v := (-1)) hx hb hr (fun t ht hW => ⟨⟨(-1), (), rfl, hg, by rw [ht]; exact hP, hD⟩, hS.F ht⟩) hS.2.2 dX10_bodyCell_72
    · have hg := g_if hg c_8
      refine lv_iload hx hb dX10_bodyCell_45 (lv_at hl 0 rfl) ?_
      refine lv_if_lt (tgt := 71) hx hb dX10_bodyCell_47 (by decide) (fun c_9 => ?_) (fun c_9 => ?_)
      · have hg := g_it hg c_9
        refine lv_iconst (v := (-1)) hx hb dX10_bodyCell_71 (by decide) ?_
        have hg := Option.some.inj hg
        rw [hQ]
        exact W.iret (v := (-1)) hx hb hr (fun t ht hW => ⟨⟨(-1), (), rfl, hg, by rw [ht]; exact hP, hD⟩, hS.F ht⟩) hS.2.2 dX10_bodyCell_72
      · have hg := g_if hg c_9
        refine lv_iload hx hb dX10_bodyCell_50 (lv_at hl 0 rfl) ?_
        refine lv_aload_n hx hb dX10_bodyCell_52 rfl (lv_at hl 2 rfl) ?_
        refine va_get (ci := 9) (v := .int (pX10_h v0)) (C := RX10) (T := TX10) (N := 9) hx hb htb uX10 hown hK.1 hP 0 rfl rfl 1 (by decide) (htb _ tg_46) (fun _ h9 => h9) rfl dX10_bodyCell_53 ?_
        refine lv_icmp_ge (tgt := 71) hx hb dX10_bodyCell_56 (by decide) (fun c_10 => ?_) (fun c_10 => ?_)
        · have hg := g_it hg c_10
          refine lv_iconst (v := (-1)) hx hb dX10_bodyCell_71 (by decide) ?_
          have hg := Option.some.inj hg
          rw [hQ]
          exact W.iret (v := (-1)) hx hb hr (fun t ht hW => ⟨⟨(-1), (), rfl, hg, by rw [ht]; exact hP, hD⟩, hS.F ht⟩) hS.2.2 dX10_bodyCell_72
        · have hg := g_if hg c_10
          refine lv_iload hx hb dX10_bodyCell_59 (lv_at hl 0 rfl) ?_
          refine lv_aload_n hx hb dX10_bodyCell_61 rfl (lv_at hl 2 rfl) ?_
          refine va_get (ci := 9) (v := .int (pX10_w v0)) (C := RX10) (T := TX10) (N := 9) hx hb htb uX10 hown hK.1 hP 0 rfl rfl 0 (by decide) (htb _ tg_43) (fun _ h9 => h9) rfl dX10_bodyCell_62 ?_
          refine lv_imul hx hb dX10_bodyCell_65 ?_
          refine lv_iload_n hx hb dX10_bodyCell_66 rfl (lv_at hl 1 rfl) ?_
          refine lv_iadd hx hb dX10_bodyCell_67 ?_
          refine lv_goto (tgt := 72) hx hb dX10_bodyCell_68 (by decide) ?_
          have hg := Option.some.inj hg
          rw [hQ]
          exact W.iret (v := ((x4_6 * (pX10_w v0)) + x3_3)) hx hb hr (fun t ht hW => ⟨⟨((x4_6 * (pX10_w v0)) + x3_3), (), rfl, hg, by rw [ht]; exact hP, hD⟩, hS.F ht⟩) hS.2.2 dX10_bodyCell_72

/-! ManyEyes$World.countOwnMarks()I -/
def WS_X10_countOwnMarks (cI cJ cZ cY : ClassId) (a0 a0_own a0_bodyX a0_bodyY a0_bodyWayX a0_bodyWayY a0_bodyMark : Nat) (v0 : BX10) : va_W := (GX10 cI cJ cZ cY a0 a0_own a0_bodyX a0_bodyY a0_bodyWayX a0_bodyWayY a0_bodyMark v0)
def f_X10_countOwnMarks_b25 (v0 : BX10) (J4 : (Int32 × Int32) → Option (Int32)) (x1 : Int32) (x2 : Int32) : Option (Int32) := g_lt (x2 + 1 : Int32) (fun x2_1 => J4 (x1, x2_1))
def f_X10_countOwnMarks_b4B (v0 : BX10) (J4 : Int32 × Int32 → Option (Int32)) (x1 : Int32) (x2 : Int32) : Option (Int32) := if ((Int32.ofNat (pX10_n v0)) : Int32) ≤ x2 then (some x1) else (g_gd (inB x2 (pX10_n v0)) (if (((pX10_own v0) (x2 : Int32).toNatClampNeg) : Int32) = 0 then (f_X10_countOwnMarks_b25 v0 J4 x1 x2) else (g_lt (x1 + 1 : Int32) (fun x1_5 => f_X10_countOwnMarks_b25 v0 J4 x1_5 x2))))
def f_X10_countOwnMarks_b4 (v0 : BX10) : Nat → (Int32 × Int32) → Option (Int32) := g_lp (fun J z => f_X10_countOwnMarks_b4B v0 J z.1 z.2)
def f_X10_countOwnMarks (v0 : BX10) : Option (Int32) := f_X10_countOwnMarks_b4 v0 fU (0, 0)
abbrev rm_X10_countOwnMarks : Room := { frames := 0, cells := 0, slots := 0, locals := 0 }
set_option maxHeartbeats 4000000 in
set_option maxRecDepth 100000 in
theorem k_X10_countOwnMarks {l : Launch} {D : va_G} {cI cJ cZ cY : ClassId} {tX tY : Nat} {sz : Nat} (a0 a0_own a0_bodyX a0_bodyY a0_bodyWayX a0_bodyWayY a0_bodyMark : Nat) (v0 : BX10) (res : Int32) (hg : f_X10_countOwnMarks v0 = some res) : Met l yX10_countOwnMarks (Cond.code yX10_countOwnMarks cX10_countOwnMarks 3 (some .int) :: TB) rm_X10_countOwnMarks (PC D cI cJ cZ cY tX tY [.ref a0] (WS_X10_countOwnMarks cI cJ cZ cY a0 a0_own a0_bodyX a0_bodyY a0_bodyWayX a0_bodyWayY a0_bodyMark v0) sz) (va_Qi (fun (r : Int32) (_ : Unit) => r = res) (BC D (fun _ : Unit => WS_X10_countOwnMarks cI cJ cZ cY a0 a0_own a0_bodyX a0_bodyY a0_bodyWayX a0_bodyWayY a0_bodyMark v0) (va_A (WS_X10_countOwnMarks cI cJ cZ cY a0 a0_own a0_bodyX a0_bodyY a0_bodyWayX a0_bodyWayY a0_bodyMark v0) sz)) (va_A (WS_X10_countOwnMarks cI cJ cZ cY a0 a0_own a0_bodyX a0_bodyY a0_bodyWayX a0_bodyWayY a0_bodyMark v0) sz)) 0 0 (va_A (WS_X10_countOwnMarks cI cJ cZ cY a0 a0_own a0_bodyX a0_bodyY a0_bodyWayX a0_bodyWayY a0_bodyMark v0) sz) := by
  refine Met.ofW (cc := cX10_countOwnMarks) (maxL := 3) (ret := (some .int)) (by decide) rfl ?_
  intro p e s m args below meth c s₁ B hml hv
  obtain ⟨hargs, hsz, hP, hK, hD0, hT⟩ := hv
  have hx := B.exec
  have hb := B.bytes
  have hr := B.returns
  have htb : ∀ w ∈ TB, w.before args s = true := fun w h => atoms_spec (ws := Cond.code yX10_countOwnMarks cX10_countOwnMarks 3 (some .int) :: TB) B.pre w (List.mem_cons_of_mem _ h)
  have hown : s.vm.findClass "ManyEyes$World" = some m.cls := findClass_of_methodNamed B.named
  have hlocks := B.notSynchronized
  subst hsz
  have hD := hD0.self (sz := s.heap.size)
  generalize hAe : va_A (WS_X10_countOwnMarks cI cJ cZ cY a0 a0_own a0_bodyX a0_bodyY a0_bodyWayX a0_bodyWayY a0_bodyMark v0) s.heap.size = A at hD hT ⊢
  have hA : ∀ q : Nat, s.heap.size ≤ q → A q := fun q h => by rw [← hAe]; exact Or.inr h
  have hS : va_S A s.heap s.heap [] := va_S.rf
  have hl := lv_entry ([.ref a0]) (n := 3) (Nat.le_of_ble_eq_true rfl)
  have he : entryFrame m args 3 = F0 m 0 (lg_sl ([.ref a0]) ++ List.replicate (3 - (lg_sl ([.ref a0])).length) Slot.unset).toArray [] := by rw [hargs, lg_entry_eq]
  rw [he]
  generalize (lg_sl ([.ref a0]) ++ List.replicate (3 - (lg_sl ([.ref a0])).length) Slot.unset).toArray = ls at hl ⊢
  have hl : lv_has ls 3 [(0, .ref a0)] := hl
  show W p l e rm_X10_countOwnMarks s m args below meth c s.heap [] 0 0 _ _
  refine W.genQ (fun Q hQ => ?_)
  have b_25 : ∀ (J4 : (Int32 × Int32) → Option (Int32)) (hJ4 : ∀ (x1 : Int32) (x2 : Int32) (H : Heap) (locs : List Loc) (ls : Array Slot), va_P D vwCl (WS_X10_countOwnMarks cI cJ cZ cY a0 a0_own a0_bodyX a0_bodyY a0_bodyWayX a0_bodyWayY a0_bodyMark v0) H → va_D A (WS_X10_countOwnMarks cI cJ cZ cY a0 a0_own a0_bodyX a0_bodyY a0_bodyWayX a0_bodyWayY a0_bodyMark v0) → va_S A s.heap H locs → lv_has ls 3 [(0, .ref a0), (1, .int x1), (2, .int x2)] → J4 (x1, x2) = some res → W p l e rm_X10_countOwnMarks s m args below meth c H locs 0 0 Q (F0 m 4 ls [])), ∀ (x1 : Int32) (x2 : Int32) (H : Heap) (locs : List Loc) (ls : Array Slot), va_P D vwCl (WS_X10_countOwnMarks cI cJ cZ cY a0 a0_own a0_bodyX a0_bodyY a0_bodyWayX a0_bodyWayY a0_bodyMark v0) H → va_D A (WS_X10_countOwnMarks cI cJ cZ cY a0 a0_own a0_bodyX a0_bodyY a0_bodyWayX a0_bodyWayY a0_bodyMark v0) → va_S A s.heap H locs → lv_has ls 3 [(0, .ref a0), (1, .int x1), (2, .int x2)] → f_X10_countOwnMarks_b25 v0 J4 x1 x2 = some res → W p l e rm_X10_countOwnMarks s m args below meth c H locs 0 0 Q (F0 m 25 ls []) := by
    intro J4 hJ4 x1 x2 H locs ls hP hD hS hl hg
    unfold f_X10_countOwnMarks_b25 at hg
    obtain ⟨x2_1, ex2_1⟩ : ∃ z : Int32, z = x2 + 1 := ⟨_, rfl⟩
    have hg := g_lte hg x2_1 ex2_1
    refine lv_iinc (v := x2_1) (lv' := [(2, .int x2_1), (0, .ref a0), (1, .int x1)]) hx hb dX10_countOwnMarks_25 hl (k := 2) rfl (by rw [ex2_1]; rfl) (by decide) rfl (fun ls hl => ?_)
    refine lv_goto (tgt := 4) hx hb dX10_countOwnMarks_28 (by decide) ?_
    exact hJ4 x1 x2_1 H locs ls hP hD hS (lv_sub hl [1, 2, 0] rfl) hg
  have b_4 : ∀ (n : Nat), ∀ (x1 : Int32) (x2 : Int32) (H : Heap) (locs : List Loc) (ls : Array Slot), va_P D vwCl (WS_X10_countOwnMarks cI cJ cZ cY a0 a0_own a0_bodyX a0_bodyY a0_bodyWayX a0_bodyWayY a0_bodyMark v0) H → va_D A (WS_X10_countOwnMarks cI cJ cZ cY a0 a0_own a0_bodyX a0_bodyY a0_bodyWayX a0_bodyWayY a0_bodyMark v0) → va_S A s.heap H locs → lv_has ls 3 [(0, .ref a0), (1, .int x1), (2, .int x2)] → f_X10_countOwnMarks_b4 v0 n (x1, x2) = some res → W p l e rm_X10_countOwnMarks s m args below meth c H locs 0 0 Q (F0 m 4 ls []) := by
    intro n
    induction n with
    | zero =>
      intro x1 x2 H locs ls hP hD hS hl hg
      exact (g_lp0 hg).elim
    | succ n ih =>
      intro x1 x2 H locs ls hP hD hS hl hg
      have hg : f_X10_countOwnMarks_b4B v0 (f_X10_countOwnMarks_b4 v0 n) x1 x2 = some res := hg
      unfold f_X10_countOwnMarks_b4B at hg
      refine lv_iload_n hx hb dX10_countOwnMarks_4 rfl (lv_at hl 2 rfl) ?_
      refine lv_aload_n hx hb dX10_countOwnMarks_5 rfl (lv_at hl 0 rfl) ?_
      refine va_get (ci := 9) (v := .ref a0_own) (C := RX10) (T := TX10) (N := 9) hx hb htb uX10 hown hK.1 hP 0 rfl rfl 2 (by decide) (htb _ tg_50) (fun _ h9 => h9) rfl dX10_countOwnMarks_6 ?_
      refine va_alen (v := (Int32.ofNat (pX10_n v0))) hx hb hK.1 hP 1 0 rfl rfl rfl dX10_countOwnMarks_9 ?_
      refine lv_icmp_ge (tgt := 31) hx hb dX10_countOwnMarks_10 (by decide) (fun c_2 => ?_) (fun c_2 => ?_)
      · have hg := g_it hg c_2
        refine lv_iload_n hx hb dX10_countOwnMarks_31 rfl (lv_at hl 1 rfl) ?_
        have hg := Option.some.inj hg
        rw [hQ]
        exact W.iret (v := x1) hx hb hr (fun t ht hW => ⟨⟨x1, (), rfl, hg, by rw [ht]; exact hP, hD⟩, hS.F ht⟩) hS.2.2 dX10_countOwnMarks_32
      · have hg := g_if hg c_2
        refine lv_aload_n hx hb dX10_countOwnMarks_13 rfl (lv_at hl 0 rfl) ?_
        refine va_get (ci := 9) (v := .ref a0_own) (C := RX10) (T := TX10) (N := 9) hx hb htb uX10 hown hK.1 hP 0 rfl rfl 2 (by decide) (htb _ tg_50) (fun _ h9 => h9) rfl dX10_countOwnMarks_14 ?_
        refine lv_iload_n hx hb dX10_countOwnMarks_17 rfl (lv_at hl 2 rfl) ?_
        obtain ⟨h_3, hg⟩ := g_gde hg
        refine va_iald hx hb hK.1 hP 1 0 rfl rfl (inB_vp h_3) dX10_countOwnMarks_18 ?_
        refine lv_if_eq (tgt := 25) hx hb dX10_countOwnMarks_19 (by decide) (fun c_4 => ?_) (fun c_4 => ?_)
        · have hg := g_it hg c_4
          exact b_25 (f_X10_countOwnMarks_b4 v0 n) ih x1 x2 H locs ls hP hD hS (lv_sub hl [0, 1, 2] rfl) hg
        · have hg := g_if hg c_4
          obtain ⟨x1_5, ex1_5⟩ : ∃ z : Int32, z = x1 + 1 := ⟨_, rfl⟩
          have hg := g_lte hg x1_5 ex1_5
          refine lv_iinc (v := x1_5) (lv' := [(1, .int x1_5), (0, .ref a0), (2, .int x2)]) hx hb dX10_countOwnMarks_22 hl (k := 1) rfl (by rw [ex1_5]; rfl) (by decide) rfl (fun ls hl => ?_)
          exact b_25 (f_X10_countOwnMarks_b4 v0 n) ih x1_5 x2 H locs ls hP hD hS (lv_sub hl [1, 0, 2] rfl) hg
  generalize hHe : s.heap = H at hP ⊢
  have hS : va_S A s.heap H [] := by rw [← hHe]; exact va_S.rf
  generalize ([] : List Loc) = locs at hS ⊢
  unfold f_X10_countOwnMarks at hg
  refine lv_iconst (v := 0) hx hb dX10_countOwnMarks_0 (by decide) ?_
  refine lv_istore_n (lv' := [(1, .int 0), (0, .ref a0)]) hx hb dX10_countOwnMarks_1 rfl hl (by decide) rfl (fun ls hl => ?_)
  refine lv_iconst (v := 0) hx hb dX10_countOwnMarks_2 (by decide) ?_
  refine lv_istore_n (lv' := [(2, .int 0), (1, .int 0), (0, .ref a0)]) hx hb dX10_countOwnMarks_3 rfl hl (by decide) rfl (fun ls hl => ?_)
  exact b_4 fU 0 0 H locs ls hP hD hS (lv_sub hl [2, 1, 0] rfl) hg

/-! ManyEyes.fault(I)I -/
def WS_X11_fault (cI cJ cZ cY : ClassId) (a0 a0_tape a0_firstTakes r0_now r0_saved r0_sight r0_flyer a1 a1_code r1_tokens : Nat) (v0 : BX11) (v1 : BX4) : va_W := (GX11o cI cJ cZ cY a0 a0_tape a0_firstTakes r0_now r0_saved r0_sight r0_flyer a1 v0) ++ ((GX4 cI cJ cZ cY a1 a1_code r1_tokens v1))
def f_X11_fault (v0 : BX11) (v1 : BX4) (p0 : Int32) : Option (Int32) := if ((pX11_textRead v0) : Int32) = 0 then (some (-1)) else (if p0 = 0 then (some (pX4_fault v1)) else (if p0 = 1 then (some (pX4_place v1)) else (some (-1))))
abbrev rm_X11_fault : Room := { frames := 0, cells := 0, slots := 0, locals := 0 }
set_option maxHeartbeats 4000000 in
set_option maxRecDepth 100000 in
theorem k_X11_fault {l : Launch} {D : va_G} {cI cJ cZ cY : ClassId} {tX tY : Nat} {sz : Nat} (a0 a0_tape a0_firstTakes r0_now r0_saved r0_sight r0_flyer a1 a1_code r1_tokens : Nat) (v0 : BX11) (v1 : BX4) (p0 : Int32) (res : Int32) (hg : f_X11_fault v0 v1 p0 = some res) : Met l yX11_fault (Cond.code yX11_fault cX11_fault 2 (some .int) :: TB) rm_X11_fault (PC D cI cJ cZ cY tX tY [.ref a0, .int p0] (WS_X11_fault cI cJ cZ cY a0 a0_tape a0_firstTakes r0_now r0_saved r0_sight r0_flyer a1 a1_code r1_tokens v0 v1) sz) (va_Qi (fun (r : Int32) (_ : Unit) => r = res) (BC D (fun _ : Unit => WS_X11_fault cI cJ cZ cY a0 a0_tape a0_firstTakes r0_now r0_saved r0_sight r0_flyer a1 a1_code r1_tokens v0 v1) (va_A (WS_X11_fault cI cJ cZ cY a0 a0_tape a0_firstTakes r0_now r0_saved r0_sight r0_flyer a1 a1_code r1_tokens v0 v1) sz)) (va_A (WS_X11_fault cI cJ cZ cY a0 a0_tape a0_firstTakes r0_now r0_saved r0_sight r0_flyer a1 a1_code r1_tokens v0 v1) sz)) 0 0 (va_A (WS_X11_fault cI cJ cZ cY a0 a0_tape a0_firstTakes r0_now r0_saved r0_sight r0_flyer a1 a1_code r1_tokens v0 v1) sz) := by
  refine Met.ofW (cc := cX11_fault) (maxL := 2) (ret := (some .int)) (by decide) rfl ?_
  intro p e s m args below meth c s₁ B hml hv
  obtain ⟨hargs, hsz, hP, hK, hD0, hT⟩ := hv
  have hx := B.exec
  have hb := B.bytes
  have hr := B.returns
  have htb : ∀ w ∈ TB, w.before args s = true := fun w h => atoms_spec (ws := Cond.code yX11_fault cX11_fault 2 (some .int) :: TB) B.pre w (List.mem_cons_of_mem _ h)
  have hown : s.vm.findClass "ManyEyes" = some m.cls := findClass_of_methodNamed B.named
  have hlocks := B.notSynchronized
  subst hsz
  have hD := hD0.self (sz := s.heap.size)
  generalize hAe : va_A (WS_X11_fault cI cJ cZ cY a0 a0_tape a0_firstTakes r0_now r0_saved r0_sight r0_flyer a1 a1_code r1_tokens v0 v1) s.heap.size = A at hD hT ⊢
  have hA : ∀ q : Nat, s.heap.size ≤ q → A q := fun q h => by rw [← hAe]; exact Or.inr h
  have hS : va_S A s.heap s.heap [] := va_S.rf
  have hl := lv_entry ([.ref a0, .int p0]) (n := 2) (Nat.le_of_ble_eq_true rfl)
  have he : entryFrame m args 2 = F0 m 0 (lg_sl ([.ref a0, .int p0]) ++ List.replicate (2 - (lg_sl ([.ref a0, .int p0])).length) Slot.unset).toArray [] := by rw [hargs, lg_entry_eq]
  rw [he]
  generalize (lg_sl ([.ref a0, .int p0]) ++ List.replicate (2 - (lg_sl ([.ref a0, .int p0])).length) Slot.unset).toArray = ls at hl ⊢
  have hl : lv_has ls 2 [(0, .ref a0), (1, .int p0)] := hl
  show W p l e rm_X11_fault s m args below meth c s.heap [] 0 0 _ _
  refine W.genQ (fun Q hQ => ?_)
  generalize hHe : s.heap = H at hP ⊢
  have hS : va_S A s.heap H [] := by rw [← hHe]; exact va_S.rf
  generalize ([] : List Loc) = locs at hS ⊢
  unfold f_X11_fault at hg
  refine lv_aload_n hx hb dX11_fault_0 rfl (lv_at hl 0 rfl) ?_
  refine va_get (ci := 10) (v := .int (pX11_textRead v0)) (C := RX11) (T := TX11) (N := 9) hx hb htb uX11 hown hK.1 hP 0 rfl rfl 8 (by decide) (htb _ tg_420) (fun _ h9 => h9) rfl dX11_fault_1 ?_
  refine lv_if_ne (tgt := 9) hx hb dX11_fault_4 (by decide) (fun c_1 => ?_) (fun c_1 => ?_)
  · have hg := g_if hg c_1
    refine lv_iload_n hx hb dX11_fault_9 rfl (lv_at hl 1 rfl) ?_
    by_cases c_2 : p0 = 0
    · have hg := g_it hg c_2
      refine lv_lookup (tgt := 36) (off := 26) hx hb dX11_fault_10 (by decide +kernel) (by rw [c_2]; decide +kernel) (by decide) ?_
      refine lv_aload_n hx hb dX11_fault_36 rfl (lv_at hl 0 rfl) ?_
      refine va_get (ci := 10) (v := .ref a1) (C := RX11) (T := TX11) (N := 9) hx hb htb uX11 hown hK.1 hP 0 rfl rfl 4 (by decide) (htb _ tg_416) (fun _ h9 => h9) rfl dX11_fault_37 ?_
      refine va_get (ci := 3) (v := .int (pX4_fault v1)) (C := RX4) (T := TX4) (N := 8) hx hb htb uX4 hown hK.1 hP 1 rfl rfl 6 (by decide) (htb _ tg_392) (fun _ h9 => h9) rfl dX11_fault_40 ?_
      have hg := Option.some.inj hg
      rw [hQ]
      exact W.iret (v := (pX4_fault v1)) hx hb hr (fun t ht hW => ⟨⟨(pX4_fault v1), (), rfl, hg, by rw [ht]; exact hP, hD⟩, hS.F ht⟩) hS.2.2 dX11_fault_43
    have hg := g_if hg c_2
    by_cases c_3 : p0 = 1
    · have hg := g_it hg c_3
      refine lv_lookup (tgt := 44) (off := 34) hx hb dX11_fault_10 (by decide +kernel) (by rw [c_3]; decide +kernel) (by decide) ?_
      refine lv_aload_n hx hb dX11_fault_44 rfl (lv_at hl 0 rfl) ?_
      refine va_get (ci := 10) (v := .ref a1) (C := RX11) (T := TX11) (N := 9) hx hb htb uX11 hown hK.1 hP 0 rfl rfl 4 (by decide) (htb _ tg_416) (fun _ h9 => h9) rfl dX11_fault_45 ?_
      refine va_get (ci := 3) (v := .int (pX4_place v1)) (C := RX4) (T := TX4) (N := 8) hx hb htb uX4 hown hK.1 hP 1 rfl rfl 7 (by decide) (htb _ tg_394) (fun _ h9 => h9) rfl dX11_fault_48 ?_
      have hg := Option.some.inj hg
      rw [hQ]
      exact W.iret (v := (pX4_place v1)) hx hb hr (fun t ht hW => ⟨⟨(pX4_place v1), (), rfl, hg, by rw [ht]; exact hP, hD⟩, hS.F ht⟩) hS.2.2 dX11_fault_51
    have hg := g_if hg c_3
    refine lv_lookup (tgt := 52) (off := 42) hx hb dX11_fault_10 (by decide +kernel) ((lv_osw c_2 (by decide)).trans ((lv_osw c_3 (by decide)).trans (rfl))) (by decide) ?_
    refine lv_iconst (v := (-1)) hx hb dX11_fault_52 (by decide) ?_
    have hg := Option.some.inj hg
    rw [hQ]
    exact W.iret (v := (-1)) hx hb hr (fun t ht hW => ⟨⟨(-1), (), rfl, hg, by rw [ht]; exact hP, hD⟩, hS.F ht⟩) hS.2.2 dX11_fault_53
  · have hg := g_it hg c_1
    refine lv_iconst (v := (-1)) hx hb dX11_fault_7 (by decide) ?_
    have hg := Option.some.inj hg
    rw [hQ]
    exact W.iret (v := (-1)) hx hb hr (fun t ht hW => ⟨⟨(-1), (), rfl, hg, by rw [ht]; exact hP, hD⟩, hS.F ht⟩) hS.2.2 dX11_fault_8

/-! ManyEyes.flown(I)I -/
def WS_X11_flown (cI cJ cZ cY : ClassId) (a0 a0_tape a0_firstTakes r0_saved r0_sight r0_flyer r0_parser a1 a1_codes r1_world r1_eye r1_reads a2 a2_rows a2_takes : Nat) (v0 : BX11) (v1 : BX8) (v2 : BX2) : va_W := (GX11o cI cJ cZ cY a0 a0_tape a0_firstTakes a1 r0_saved r0_sight r0_flyer r0_parser v0) ++ ((GX8 cI cJ cZ cY a1 a1_codes r1_world r1_eye r1_reads a2 v1) ++ ((GX2 cI cJ cZ cY a2 a2_rows a2_takes v2)))
def f_X11_flown (v0 : BX11) (v1 : BX8) (v2 : BX2) (p0 : Int32) : Option (Int32) := if ((pX2_begun v2) : Int32) = 0 then (some (-1)) else (if p0 = 0 then (some (pX2_x v2)) else (if p0 = 1 then (some (pX2_y v2)) else (if p0 = 2 then (some (pX2_head v2)) else (if p0 = 3 then (if ((pX2_hit v2) : Int32) = 0 then (some 0) else (some 1)) else (if p0 = 4 then (if ((pX2_rested v2) : Int32) = 0 then (some 0) else (some 1)) else (if p0 = 5 then (some (pX2_over v2)) else (some (-1))))))))
abbrev rm_X11_flown : Room := { frames := 0, cells := 0, slots := 0, locals := 0 }
set_option maxHeartbeats 4000000 in
set_option maxRecDepth 100000 in
theorem k_X11_flown {l : Launch} {D : va_G} {cI cJ cZ cY : ClassId} {tX tY : Nat} {sz : Nat} (a0 a0_tape a0_firstTakes r0_saved r0_sight r0_flyer r0_parser a1 a1_codes r1_world r1_eye r1_reads a2 a2_rows a2_takes : Nat) (v0 : BX11) (v1 : BX8) (v2 : BX2) (p0 : Int32) (res : Int32) (hg : f_X11_flown v0 v1 v2 p0 = some res) : Met l yX11_flown (Cond.code yX11_flown cX11_flown 3 (some .int) :: TB) rm_X11_flown (PC D cI cJ cZ cY tX tY [.ref a0, .int p0] (WS_X11_flown cI cJ cZ cY a0 a0_tape a0_firstTakes r0_saved r0_sight r0_flyer r0_parser a1 a1_codes r1_world r1_eye r1_reads a2 a2_rows a2_takes v0 v1 v2) sz) (va_Qi (fun (r : Int32) (_ : Unit) => r = res) (BC D (fun _ : Unit => WS_X11_flown cI cJ cZ cY a0 a0_tape a0_firstTakes r0_saved r0_sight r0_flyer r0_parser a1 a1_codes r1_world r1_eye r1_reads a2 a2_rows a2_takes v0 v1 v2) (va_A (WS_X11_flown cI cJ cZ cY a0 a0_tape a0_firstTakes r0_saved r0_sight r0_flyer r0_parser a1 a1_codes r1_world r1_eye r1_reads a2 a2_rows a2_takes v0 v1 v2) sz)) (va_A (WS_X11_flown cI cJ cZ cY a0 a0_tape a0_firstTakes r0_saved r0_sight r0_flyer r0_parser a1 a1_codes r1_world r1_eye r1_reads a2 a2_rows a2_takes v0 v1 v2) sz)) 0 0 (va_A (WS_X11_flown cI cJ cZ cY a0 a0_tape a0_firstTakes r0_saved r0_sight r0_flyer r0_parser a1 a1_codes r1_world r1_eye r1_reads a2 a2_rows a2_takes v0 v1 v2) sz) := by
  refine Met.ofW (cc := cX11_flown) (maxL := 3) (ret := (some .int)) (by decide) rfl ?_
  intro p e s m args below meth c s₁ B hml hv
  obtain ⟨hargs, hsz, hP, hK, hD0, hT⟩ := hv
  have hx := B.exec
  have hb := B.bytes
  have hr := B.returns
  have htb : ∀ w ∈ TB, w.before args s = true := fun w h => atoms_spec (ws := Cond.code yX11_flown cX11_flown 3 (some .int) :: TB) B.pre w (List.mem_cons_of_mem _ h)
  have hown : s.vm.findClass "ManyEyes" = some m.cls := findClass_of_methodNamed B.named
  have hlocks := B.notSynchronized
  subst hsz
  have hD := hD0.self (sz := s.heap.size)
  generalize hAe : va_A (WS_X11_flown cI cJ cZ cY a0 a0_tape a0_firstTakes r0_saved r0_sight r0_flyer r0_parser a1 a1_codes r1_world r1_eye r1_reads a2 a2_rows a2_takes v0 v1 v2) s.heap.size = A at hD hT ⊢
  have hA : ∀ q : Nat, s.heap.size ≤ q → A q := fun q h => by rw [← hAe]; exact Or.inr h
  have hS : va_S A s.heap s.heap [] := va_S.rf
  have hl := lv_entry ([.ref a0, .int p0]) (n := 3) (Nat.le_of_ble_eq_true rfl)
  have he : entryFrame m args 3 = F0 m 0 (lg_sl ([.ref a0, .int p0]) ++ List.replicate (3 - (lg_sl ([.ref a0, .int p0])).length) Slot.unset).toArray [] := by rw [hargs, lg_entry_eq]
  rw [he]
  generalize (lg_sl ([.ref a0, .int p0]) ++ List.replicate (3 - (lg_sl ([.ref a0, .int p0])).length) Slot.unset).toArray = ls at hl ⊢
  have hl : lv_has ls 3 [(0, .ref a0), (1, .int p0)] := hl
  show W p l e rm_X11_flown s m args below meth c s.heap [] 0 0 _ _
  refine W.genQ (fun Q hQ => ?_)
  generalize hHe : s.heap = H at hP ⊢
  have hS : va_S A s.heap H [] := by rw [← hHe]; exact va_S.rf
  generalize ([] : List Loc) = locs at hS ⊢
  unfold f_X11_flown at hg
  refine lv_aload_n hx hb dX11_flown_0 rfl (lv_at hl 0 rfl) ?_
  refine va_get (ci := 10) (v := .ref a1) (C := RX11) (T := TX11) (N := 9) hx hb htb uX11 hown hK.1 hP 0 rfl rfl 0 (by decide) (htb _ tg_412) (fun _ h9 => h9) rfl dX11_flown_1 ?_
  refine va_get (ci := 7) (v := .ref a2) (C := RX8) (T := TX8) (N := 6) hx hb htb uX8 hown hK.1 hP 1 rfl rfl 3 (by decide) (htb _ tg_242) (fun _ h9 => h9) rfl dX11_flown_4 ?_
  refine lv_astore_n (lv' := [(2, .ref a2), (0, .ref a0), (1, .int p0)]) hx hb dX11_flown_7 rfl hl (by decide) rfl (fun ls hl => ?_)
  refine lv_aload_n hx hb dX11_flown_8 rfl (lv_at hl 0 rfl) ?_
  refine va_get (ci := 1) (v := .int (pX2_begun v2)) (C := RX2) (T := TX2) (N := 12) hx hb htb uX2 hown hK.1 hP 3 rfl rfl 2 (by decide) (htb _ tg_176) (fun _ h9 => h9) rfl dX11_flown_9 ?_
  refine lv_if_ne (tgt := 17) hx hb dX11_flown_12 (by decide) (fun c_1 => ?_) (fun c_1 => ?_)
  · have hg := g_if hg c_1
    refine lv_iload_n hx hb dX11_flown_17 rfl (lv_at hl 2 rfl) ?_
    by_cases c_2 : p0 = 0
    · have hg := g_it hg c_2
      refine lv_tableIn (tgt := 56) (off := 38) hx hb dX11_flown_18 (by rw [c_2]; decide) (by rw [c_2]; decide) (by rw [c_2]; decide +kernel) (by decide) ?_
      refine lv_aload_n hx hb dX11_flown_56 rfl (lv_at hl 0 rfl) ?_
      refine va_get (ci := 1) (v := .int (pX2_x v2)) (C := RX2) (T := TX2) (N := 12) hx hb htb uX2 hown hK.1 hP 3 rfl rfl 7 (by decide) (htb _ tg_192) (fun _ h9 => h9) rfl dX11_flown_57 ?_
      have hg := Option.some.inj hg
      rw [hQ]
      exact W.iret (v := (pX2_x v2)) hx hb hr (fun t ht hW => ⟨⟨(pX2_x v2), (), rfl, hg, by rw [ht]; exact hP, hD⟩, hS.F ht⟩) hS.2.2 dX11_flown_60
    have hg := g_if hg c_2
    by_cases c_3 : p0 = 1
    · have hg := g_it hg c_3
      refine lv_tableIn (tgt := 61) (off := 43) hx hb dX11_flown_18 (by rw [c_3]; decide) (by rw [c_3]; decide) (by rw [c_3]; decide +kernel) (by decide) ?_
      refine lv_aload_n hx hb dX11_flown_61 rfl (lv_at hl 0 rfl) ?_
      refine va_get (ci := 1) (v := .int (pX2_y v2)) (C := RX2) (T := TX2) (N := 12) hx hb htb uX2 hown hK.1 hP 3 rfl rfl 8 (by decide) (htb _ tg_195) (fun _ h9 => h9) rfl dX11_flown_62 ?_
      have hg := Option.some.inj hg
      rw [hQ]
      exact W.iret (v := (pX2_y v2)) hx hb hr (fun t ht hW => ⟨⟨(pX2_y v2), (), rfl, hg, by rw [ht]; exact hP, hD⟩, hS.F ht⟩) hS.2.2 dX11_flown_65
    have hg := g_if hg c_3
    by_cases c_4 : p0 = 2
    · have hg := g_it hg c_4
      refine lv_tableIn (tgt := 66) (off := 48) hx hb dX11_flown_18 (by rw [c_4]; decide) (by rw [c_4]; decide) (by rw [c_4]; decide +kernel) (by decide) ?_
      refine lv_aload_n hx hb dX11_flown_66 rfl (lv_at hl 0 rfl) ?_
      refine va_get (ci := 1) (v := .int (pX2_head v2)) (C := RX2) (T := TX2) (N := 12) hx hb htb uX2 hown hK.1 hP 3 rfl rfl 9 (by decide) (htb _ tg_198) (fun _ h9 => h9) rfl dX11_flown_67 ?_
      have hg := Option.some.inj hg
      rw [hQ]
      exact W.iret (v := (pX2_head v2)) hx hb hr (fun t ht hW => ⟨⟨(pX2_head v2), (), rfl, hg, by rw [ht]; exact hP, hD⟩, hS.F ht⟩) hS.2.2 dX11_flown_70
    have hg := g_if hg c_4
    by_cases c_5 : p0 = 3
    · have hg := g_it hg c_5
      refine lv_tableIn (tgt := 71) (off := 53) hx hb dX11_flown_18 (by rw [c_5]; decide) (by rw [c_5]; decide) (by rw [c_5]; decide +kernel) (by decide) ?_
      refine lv_aload_n hx hb dX11_flown_71 rfl (lv_at hl 0 rfl) ?_
      refine va_get (ci := 1) (v := .int (pX2_hit v2)) (C := RX2) (T := TX2) (N := 12) hx hb htb uX2 hown hK.1 hP 3 rfl rfl 3 (by decide) (htb _ tg_179) (fun _ h9 => h9) rfl dX11_flown_72 ?_
      refine lv_if_eq (tgt := 82) hx hb dX11_flown_75 (by decide) (fun c_6 => ?_) (fun c_6 => ?_)
      · have hg := g_it hg c_6
        refine lv_iconst (v := 0) hx hb dX11_flown_82 (by decide) ?_
        have hg := Option.some.inj hg
        rw [hQ]
        exact W.iret (v := 0) hx hb hr (fun t ht hW => ⟨⟨0, (), rfl, hg, by rw [ht]; exact hP, hD⟩, hS.F ht⟩) hS.2.2 dX11_flown_83
      · have hg := g_if hg c_6
        refine lv_iconst (v := 1) hx hb dX11_flown_78 (by decide) ?_
        refine lv_goto (tgt := 83) hx hb dX11_flown_79 (by decide) ?_
        have hg := Option.some.inj hg
        rw [hQ]
        exact W.iret (v := 1) hx hb hr (fun t ht hW => ⟨⟨1, (), rfl, hg, by rw [ht]; exact hP, hD⟩, hS.F ht⟩) hS.2.2 dX11_flown_83
    have hg := g_if hg c_5
    by_cases c_7 : p0 = 4
    · have hg := g_it hg c_7
      refine lv_tableIn (tgt := 84) (off := 66) hx hb dX11_flown_18 (by rw [c_7]; decide) (by rw [c_7]; decide) (by rw [c_7]; decide +kernel) (by decide) ?_
      refine lv_aload_n hx hb dX11_flown_84 rfl (lv_at hl 0 rfl) ?_
      refine va_get (ci := 1) (v := .int (pX2_rested v2)) (C := RX2) (T := TX2) (N := 12) hx hb htb uX2 hown hK.1 hP 3 rfl rfl 4 (by decide) (htb _ tg_182) (fun _ h9 => h9) rfl dX11_flown_85 ?_
      refine lv_if_eq (tgt := 95) hx hb dX11_flown_88 (by decide) (fun c_8 => ?_) (fun c_8 => ?_)
      · have hg := g_it hg c_8
        refine lv_iconst (v := 0) hx hb dX11_flown_95 (by decide) ?_
        have hg := Option.some.inj hg
        rw [hQ]
        exact W.iret (v := 0) hx hb hr (fun t ht hW => ⟨⟨0, (), rfl, hg, by rw [ht]; exact hP, hD⟩, hS.F ht⟩) hS.2.2 dX11_flown_96
      · have hg := g_if hg c_8
        refine lv_iconst (v := 1) hx hb dX11_flown_91 (by decide) ?_
        refine lv_goto (tgt := 96) hx hb dX11_flown_92 (by decide) ?_
        have hg := Option.some.inj hg
        rw [hQ]
        exact W.iret (v := 1) hx hb hr (fun t ht hW => ⟨⟨1, (), rfl, hg, by rw [ht]; exact hP, hD⟩, hS.F ht⟩) hS.2.2 dX11_flown_96
    have hg := g_if hg c_7
    by_cases c_9 : p0 = 5
    · have hg := g_it hg c_9
      refine lv_tableIn (tgt := 97) (off := 79) hx hb dX11_flown_18 (by rw [c_9]; decide) (by rw [c_9]; decide) (by rw [c_9]; decide +kernel) (by decide) ?_
      refine lv_aload_n hx hb dX11_flown_97 rfl (lv_at hl 0 rfl) ?_
      refine va_get (ci := 1) (v := .int (pX2_over v2)) (C := RX2) (T := TX2) (N := 12) hx hb htb uX2 hown hK.1 hP 3 rfl rfl 6 (by decide) (htb _ tg_189) (fun _ h9 => h9) rfl dX11_flown_98 ?_
      have hg := Option.some.inj hg
      rw [hQ]
      exact W.iret (v := (pX2_over v2)) hx hb hr (fun t ht hW => ⟨⟨(pX2_over v2), (), rfl, hg, by rw [ht]; exact hP, hD⟩, hS.F ht⟩) hS.2.2 dX11_flown_101
    have hg := g_if hg c_9
    have zc_2 := lv_neT (a := 0) c_2 (by decide)
    have zc_3 := lv_neT (a := 1) c_3 (by decide)
    have zc_4 := lv_neT (a := 2) c_4 (by decide)
    have zc_5 := lv_neT (a := 3) c_5 (by decide)
    have zc_7 := lv_neT (a := 4) c_7 (by decide)
    have zc_9 := lv_neT (a := 5) c_9 (by decide)
    refine lv_tableOut (tgt := 102) hx hb dX11_flown_18 (by omega) (by decide) ?_
    refine lv_iconst (v := (-1)) hx hb dX11_flown_102 (by decide) ?_
    have hg := Option.some.inj hg
    rw [hQ]
    exact W.iret (v := (-1)) hx hb hr (fun t ht hW => ⟨⟨(-1), (), rfl, hg, by rw [ht]; exact hP, hD⟩, hS.F ht⟩) hS.2.2 dX11_flown_103
  · have hg := g_it hg c_1
    refine lv_iconst (v := (-1)) hx hb dX11_flown_15 (by decide) ?_
    have hg := Option.some.inj hg
    rw [hQ]
    exact W.iret (v := (-1)) hx hb hr (fun t ht hW => ⟨⟨(-1), (), rfl, hg, by rw [ht]; exact hP, hD⟩, hS.F ht⟩) hS.2.2 dX11_flown_16
