/-! ManyEyes.safe(IIIIIIII)I -/
def WS_X11_safe (cI cJ cZ cY : ClassId) (a0 a0_tape a0_firstTakes r0_saved r0_parser a1 a2 a2_codes r2_reads r2_flight a3 a3_view a3_rays a4 a4_stack a4_letters a5 a5_rows a5_takes a6 a6_lensSide a6_lensWidth a6_pairA a6_pairB a6_pairDelay a7 a7_own a7_bodyX a7_bodyY a7_bodyWayX a7_bodyWayY a7_bodyMark : Nat) (v0 : BX11) (v1 : BX3) (v2 : BX8) (v3 : BX7) (v4 : BX6) (v5 : BX2) (v6 : BX1) (v7 : BX10) : va_W := (GX11o cI cJ cZ cY a0 a0_tape a0_firstTakes a2 r0_saved a3 a1 r0_parser v0) ++ ((GX3 cI cJ cZ cY a1 a2 a3 a4 a5 v1) ++ ((GX8 cI cJ cZ cY a2 a2_codes a7 a6 r2_reads r2_flight v2) ++ ((GX7 cI cJ cZ cY a3 a3_view a3_rays a7 v3) ++ ((GX6 cI cJ cZ cY a4 a4_stack a4_letters a6 v4) ++ ((GX2 cI cJ cZ cY a5 a5_rows a5_takes v5) ++ ((GX1 cI cJ cZ cY a6 a6_lensSide a6_lensWidth a6_pairA a6_pairB a6_pairDelay v6) ++ ((GX10 cI cJ cZ cY a7 a7_own a7_bodyX a7_bodyY a7_bodyWayX a7_bodyWayY a7_bodyMark v7))))))))
def f_X11_safe_b182 (v0 : BX11) (v1 : BX3) (v2 : BX8) (v6 : BX1) (v7 : BX10) (v8 : PB) (J115 : (Int32 × Int32 × Int32 × Int32 × Int32 × Int32 × Int32 × Int32 × BX7 × BX6 × BX2) → Option (Int32 × BX7 × BX6 × BX2)) (J125 : (Int32 × Int32 × Int32 × Int32 × Int32 × Int32 × Int32 × Int32 × Int32 × BX7 × BX6 × BX2) → Option (Int32 × BX7 × BX6 × BX2)) (x1 : Int32) (x3 : Int32) (x4 : Int32) (x5 : Int32) (x6 : Int32) (x7 : Int32) (x8 : Int32) (x11 : Int32) (x12 : Int32) (v3 : BX7) (v4 : BX6) (v5 : BX2) : Option (Int32 × BX7 × BX6 × BX2) := g_lt (x12 + 1 : Int32) (fun x12_1 => J125 (x1, x3, x4, x5, x6, x7, x8, x11, x12_1, v3, v4, v5))
def f_X11_safe_b125B (v0 : BX11) (v1 : BX3) (v2 : BX8) (v6 : BX1) (v7 : BX10) (v8 : PB) (J115 : (Int32 × Int32 × Int32 × Int32 × Int32 × Int32 × Int32 × Int32 × BX7 × BX6 × BX2) → Option (Int32 × BX7 × BX6 × BX2)) (J125 : Int32 × Int32 × Int32 × Int32 × Int32 × Int32 × Int32 × Int32 × Int32 × BX7 × BX6 × BX2 → Option (Int32 × BX7 × BX6 × BX2)) (x1 : Int32) (x3 : Int32) (x4 : Int32) (x5 : Int32) (x6 : Int32) (x7 : Int32) (x8 : Int32) (x11 : Int32) (x12 : Int32) (v3 : BX7) (v4 : BX6) (v5 : BX2) : Option (Int32 × BX7 × BX6 × BX2) := if (x6 : Int32) < x12 then (g_lt (x11 + 16 : Int32) (fun x11_3 => J115 (x1, x3, x4, x5, x6, x7, x8, x11_3, v3, v4, v5))) else ((f_X10_isFree v7 x11 x4 0).bind (fun r_4 => if (r_4 : Int32) = 0 then (f_X11_safe_b182 v0 v1 v2 v6 v7 v8 J115 J125 x1 x3 x4 x5 x6 x7 x8 x11 x12 v3 v4 v5) else ((f_X3_hitsFrom v1 v4 v3 v2 v5 v6 v7 v8 x1 x11 x4 x12 x7).bind (fun r_6 => if (r_6.1 : Int32) = 0 then (f_X11_safe_b182 v0 v1 v2 v6 v7 v8 J115 J125 x1 x3 x4 x5 x6 x7 x8 x11 x12 r_6.2.2.1 r_6.2.1 r_6.2.2.2) else (if (x8 : Int32) = 0 then (some (x11, r_6.2.2.1, r_6.2.1, r_6.2.2.2)) else (some (x12, r_6.2.2.1, r_6.2.1, r_6.2.2.2)))))))
def f_X11_safe_b125 (v0 : BX11) (v1 : BX3) (v2 : BX8) (v6 : BX1) (v7 : BX10) (v8 : PB) (J115 : (Int32 × Int32 × Int32 × Int32 × Int32 × Int32 × Int32 × Int32 × BX7 × BX6 × BX2) → Option (Int32 × BX7 × BX6 × BX2)) : Nat → (Int32 × Int32 × Int32 × Int32 × Int32 × Int32 × Int32 × Int32 × Int32 × BX7 × BX6 × BX2) → Option (Int32 × BX7 × BX6 × BX2) := g_lp (fun J z => f_X11_safe_b125B v0 v1 v2 v6 v7 v8 J115 J z.1 z.2.1 z.2.2.1 z.2.2.2.1 z.2.2.2.2.1 z.2.2.2.2.2.1 z.2.2.2.2.2.2.1 z.2.2.2.2.2.2.2.1 z.2.2.2.2.2.2.2.2.1 z.2.2.2.2.2.2.2.2.2.1 z.2.2.2.2.2.2.2.2.2.2.1 z.2.2.2.2.2.2.2.2.2.2.2)
def f_X11_safe_b115B (v0 : BX11) (v1 : BX3) (v2 : BX8) (v6 : BX1) (v7 : BX10) (v8 : PB) (J115 : Int32 × Int32 × Int32 × Int32 × Int32 × Int32 × Int32 × Int32 × BX7 × BX6 × BX2 → Option (Int32 × BX7 × BX6 × BX2)) (x1 : Int32) (x3 : Int32) (x4 : Int32) (x5 : Int32) (x6 : Int32) (x7 : Int32) (x8 : Int32) (x11 : Int32) (v3 : BX7) (v4 : BX6) (v5 : BX2) : Option (Int32 × BX7 × BX6 × BX2) := if (x3 : Int32) < x11 then (some ((-1), v3, v4, v5)) else (f_X11_safe_b125 v0 v1 v2 v6 v7 v8 J115 fU (x1, x3, x4, x5, x6, x7, x8, x11, x5, v3, v4, v5))
def f_X11_safe_b115 (v0 : BX11) (v1 : BX3) (v2 : BX8) (v6 : BX1) (v7 : BX10) (v8 : PB) : Nat → (Int32 × Int32 × Int32 × Int32 × Int32 × Int32 × Int32 × Int32 × BX7 × BX6 × BX2) → Option (Int32 × BX7 × BX6 × BX2) := g_lp (fun J z => f_X11_safe_b115B v0 v1 v2 v6 v7 v8 J z.1 z.2.1 z.2.2.1 z.2.2.2.1 z.2.2.2.2.1 z.2.2.2.2.2.1 z.2.2.2.2.2.2.1 z.2.2.2.2.2.2.2.1 z.2.2.2.2.2.2.2.2.1 z.2.2.2.2.2.2.2.2.2.1 z.2.2.2.2.2.2.2.2.2.2)
def f_X11_safe (v0 : BX11) (v1 : BX3) (v2 : BX8) (v3 : BX7) (v4 : BX6) (v5 : BX2) (v6 : BX1) (v7 : BX10) (v8 : PB) (p0 : Int32) (p1 : Int32) (p2 : Int32) (p3 : Int32) (p4 : Int32) (p5 : Int32) (p6 : Int32) (p7 : Int32) : Option (Int32 × BX7 × BX6 × BX2) := (f_X8_isRule v2 p0).bind (fun r_10 => if (r_10 : Int32) = 0 then (some ((-1), v3, v4, v5)) else ((f_X11_isWithin p6 1 60).bind (fun r_12 => if (r_12 : Int32) = 0 then (some ((-1), v3, v4, v5)) else ((f_X11_isWithin p7 0 1).bind (fun r_14 => if (r_14 : Int32) = 0 then (some ((-1), v3, v4, v5)) else ((f_X11_isStanding v0 v2 v7 p1 p3 p4).bind (fun r_16 => if (r_16 : Int32) = 0 then (some ((-1), v3, v4, v5)) else ((f_X11_isStanding v0 v2 v7 p2 p3 p5).bind (fun r_18 => if (r_18 : Int32) = 0 then (some ((-1), v3, v4, v5)) else (if (p2 : Int32) < p1 then (some ((-1), v3, v4, v5)) else (if (p4 : Int32) ≤ p5 then (g_lt (((p5 - p4) + 1) : Int32) (fun x9_22 => g_lt (((((p2 - p1) / 16) + 1) * x9_22) : Int32) (fun x10_24 => if (x10_24 : Int32) ≤ 64 then ((f_X3_bindTo v1 v4 1000000).bind (fun r_26 => f_X11_safe_b115 v0 v1 v2 v6 v7 v8 fU (p0, p2, p3, p4, p5, p6, p7, p1, v3, r_26, v5))) else (some ((-1), v3, v4, v5))))) else (some ((-1), v3, v4, v5)))))))))))))
abbrev rm_X11_safe : Room := { frames := 7, cells := 0, slots := 0, locals := 184 }
set_option maxHeartbeats 4000000 in
set_option maxRecDepth 100000 in
theorem k_X11_safe {l : Launch} {D : va_G} {cI cJ cZ cY : ClassId} {tX tY : Nat} {sz : Nat} (a0 a0_tape a0_firstTakes r0_saved r0_parser a1 a2 a2_codes r2_reads r2_flight a3 a3_view a3_rays a4 a4_stack a4_letters a5 a5_rows a5_takes a6 a6_lensSide a6_lensWidth a6_pairA a6_pairB a6_pairDelay a7 a7_own a7_bodyX a7_bodyY a7_bodyWayX a7_bodyWayY a7_bodyMark : Nat) (v0 : BX11) (v1 : BX3) (v2 : BX8) (v3 : BX7) (v4 : BX6) (v5 : BX2) (v6 : BX1) (v7 : BX10) (v8 : PB) (p0 : Int32) (p1 : Int32) (p2 : Int32) (p3 : Int32) (p4 : Int32) (p5 : Int32) (p6 : Int32) (p7 : Int32) (res : Int32 × BX7 × BX6 × BX2) (hg : f_X11_safe v0 v1 v2 v3 v4 v5 v6 v7 v8 p0 p1 p2 p3 p4 p5 p6 p7 = some res) : Met l yX11_safe (Cond.code yX11_safe cX11_safe 13 (some .int) :: TB) rm_X11_safe (PC D cI cJ cZ cY tX tY [.ref a0, .int p0, .int p1, .int p2, .int p3, .int p4, .int p5, .int p6, .int p7] (WS_X11_safe cI cJ cZ cY a0 a0_tape a0_firstTakes r0_saved r0_parser a1 a2 a2_codes r2_reads r2_flight a3 a3_view a3_rays a4 a4_stack a4_letters a5 a5_rows a5_takes a6 a6_lensSide a6_lensWidth a6_pairA a6_pairB a6_pairDelay a7 a7_own a7_bodyX a7_bodyY a7_bodyWayX a7_bodyWayY a7_bodyMark v0 v1 v2 v3 v4 v5 v6 v7 ++ PL cI v8) sz) (va_Qi (fun (r : Int32) (u : BX7 × BX6 × BX2) => r = res.1 ∧ u = res.2) (BC D (fun u : BX7 × BX6 × BX2 => WS_X11_safe cI cJ cZ cY a0 a0_tape a0_firstTakes r0_saved r0_parser a1 a2 a2_codes r2_reads r2_flight a3 a3_view a3_rays a4 a4_stack a4_letters a5 a5_rows a5_takes a6 a6_lensSide a6_lensWidth a6_pairA a6_pairB a6_pairDelay a7 a7_own a7_bodyX a7_bodyY a7_bodyWayX a7_bodyWayY a7_bodyMark v0 v1 v2 u.1 u.2.1 u.2.2 v6 v7 ++ PL cI v8) (va_A (WS_X11_safe cI cJ cZ cY a0 a0_tape a0_firstTakes r0_saved r0_parser a1 a2 a2_codes r2_reads r2_flight a3 a3_view a3_rays a4 a4_stack a4_letters a5 a5_rows a5_takes a6 a6_lensSide a6_lensWidth a6_pairA a6_pairB a6_pairDelay a7 a7_own a7_bodyX a7_bodyY a7_bodyWayX a7_bodyWayY a7_bodyMark v0 v1 v2 v3 v4 v5 v6 v7 ++ PL cI v8) sz)) (va_A (WS_X11_safe cI cJ cZ cY a0 a0_tape a0_firstTakes r0_saved r0_parser a1 a2 a2_codes r2_reads r2_flight a3 a3_view a3_rays a4 a4_stack a4_letters a5 a5_rows a5_takes a6 a6_lensSide a6_lensWidth a6_pairA a6_pairB a6_pairDelay a7 a7_own a7_bodyX a7_bodyY a7_bodyWayX a7_bodyWayY a7_bodyMark v0 v1 v2 v3 v4 v5 v6 v7 ++ PL cI v8) sz)) 0 0 (va_A (WS_X11_safe cI cJ cZ cY a0 a0_tape a0_firstTakes r0_saved r0_parser a1 a2 a2_codes r2_reads r2_flight a3 a3_view a3_rays a4 a4_stack a4_letters a5 a5_rows a5_takes a6 a6_lensSide a6_lensWidth a6_pairA a6_pairB a6_pairDelay a7 a7_own a7_bodyX a7_bodyY a7_bodyWayX a7_bodyWayY a7_bodyMark v0 v1 v2 v3 v4 v5 v6 v7 ++ PL cI v8) sz) := by
  refine Met.ofW (cc := cX11_safe) (maxL := 13) (ret := (some .int)) (by decide) rfl ?_
  intro p e s m args below meth c s₁ B hml hv
  obtain ⟨hargs, hsz, hP, hK, hD0, hT⟩ := hv
  have hx := B.exec
  have hb := B.bytes
  have hr := B.returns
  have htb : ∀ w ∈ TB, w.before args s = true := fun w h => atoms_spec (ws := Cond.code yX11_safe cX11_safe 13 (some .int) :: TB) B.pre w (List.mem_cons_of_mem _ h)
  have hown : s.vm.findClass "ManyEyes" = some m.cls := findClass_of_methodNamed B.named
  have hlocks := B.notSynchronized
  subst hsz
  have hD := hD0.self (sz := s.heap.size)
  generalize hAe : va_A (WS_X11_safe cI cJ cZ cY a0 a0_tape a0_firstTakes r0_saved r0_parser a1 a2 a2_codes r2_reads r2_flight a3 a3_view a3_rays a4 a4_stack a4_letters a5 a5_rows a5_takes a6 a6_lensSide a6_lensWidth a6_pairA a6_pairB a6_pairDelay a7 a7_own a7_bodyX a7_bodyY a7_bodyWayX a7_bodyWayY a7_bodyMark v0 v1 v2 v3 v4 v5 v6 v7 ++ PL cI v8) s.heap.size = A at hD hT ⊢
  have hA : ∀ q : Nat, s.heap.size ≤ q → A q := fun q h => by rw [← hAe]; exact Or.inr h
  have hS : va_S A s.heap s.heap [] := va_S.rf
  have hl := lv_entry ([.ref a0, .int p0, .int p1, .int p2, .int p3, .int p4, .int p5, .int p6, .int p7]) (n := 13) (Nat.le_of_ble_eq_true rfl)
  have he : entryFrame m args 13 = F0 m 0 (lg_sl ([.ref a0, .int p0, .int p1, .int p2, .int p3, .int p4, .int p5, .int p6, .int p7]) ++ List.replicate (13 - (lg_sl ([.ref a0, .int p0, .int p1, .int p2, .int p3, .int p4, .int p5, .int p6, .int p7])).length) Slot.unset).toArray [] := by rw [hargs, lg_entry_eq]
  rw [he]
  generalize (lg_sl ([.ref a0, .int p0, .int p1, .int p2, .int p3, .int p4, .int p5, .int p6, .int p7]) ++ List.replicate (13 - (lg_sl ([.ref a0, .int p0, .int p1, .int p2, .int p3, .int p4, .int p5, .int p6, .int p7])).length) Slot.unset).toArray = ls at hl ⊢
  have hl : lv_has ls 13 [(0, .ref a0), (1, .int p0), (2, .int p1), (3, .int p2), (4, .int p3), (5, .int p4), (6, .int p5), (7, .int p6), (8, .int p7)] := hl
  show W p l e rm_X11_safe s m args below meth c s.heap [] 0 0 _ _
  refine W.genQ (fun Q hQ => ?_)
  have b_182 : ∀ (J115 : (Int32 × Int32 × Int32 × Int32 × Int32 × Int32 × Int32 × Int32 × BX7 × BX6 × BX2) → Option (Int32 × BX7 × BX6 × BX2)) (hJ115 : ∀ (x1 : Int32) (x3 : Int32) (x4 : Int32) (x5 : Int32) (x6 : Int32) (x7 : Int32) (x8 : Int32) (x11 : Int32) (v3 : BX7) (v4 : BX6) (v5 : BX2) (H : Heap) (locs : List Loc) (ls : Array Slot), va_P D vwCl (WS_X11_safe cI cJ cZ cY a0 a0_tape a0_firstTakes r0_saved r0_parser a1 a2 a2_codes r2_reads r2_flight a3 a3_view a3_rays a4 a4_stack a4_letters a5 a5_rows a5_takes a6 a6_lensSide a6_lensWidth a6_pairA a6_pairB a6_pairDelay a7 a7_own a7_bodyX a7_bodyY a7_bodyWayX a7_bodyWayY a7_bodyMark v0 v1 v2 v3 v4 v5 v6 v7 ++ PL cI v8) H → va_D A (WS_X11_safe cI cJ cZ cY a0 a0_tape a0_firstTakes r0_saved r0_parser a1 a2 a2_codes r2_reads r2_flight a3 a3_view a3_rays a4 a4_stack a4_letters a5 a5_rows a5_takes a6 a6_lensSide a6_lensWidth a6_pairA a6_pairB a6_pairDelay a7 a7_own a7_bodyX a7_bodyY a7_bodyWayX a7_bodyWayY a7_bodyMark v0 v1 v2 v3 v4 v5 v6 v7 ++ PL cI v8) → va_S A s.heap H locs → lv_has ls 13 [(0, .ref a0), (1, .int x1), (3, .int x3), (4, .int x4), (5, .int x5), (6, .int x6), (7, .int x7), (8, .int x8), (11, .int x11)] → J115 (x1, x3, x4, x5, x6, x7, x8, x11, v3, v4, v5) = some res → W p l e rm_X11_safe s m args below meth c H locs 0 0 Q (F0 m 115 ls [])) (J125 : (Int32 × Int32 × Int32 × Int32 × Int32 × Int32 × Int32 × Int32 × Int32 × BX7 × BX6 × BX2) → Option (Int32 × BX7 × BX6 × BX2)) (hJ125 : ∀ (x1 : Int32) (x3 : Int32) (x4 : Int32) (x5 : Int32) (x6 : Int32) (x7 : Int32) (x8 : Int32) (x11 : Int32) (x12 : Int32) (v3 : BX7) (v4 : BX6) (v5 : BX2) (H : Heap) (locs : List Loc) (ls : Array Slot), va_P D vwCl (WS_X11_safe cI cJ cZ cY a0 a0_tape a0_firstTakes r0_saved r0_parser a1 a2 a2_codes r2_reads r2_flight a3 a3_view a3_rays a4 a4_stack a4_letters a5 a5_rows a5_takes a6 a6_lensSide a6_lensWidth a6_pairA a6_pairB a6_pairDelay a7 a7_own a7_bodyX a7_bodyY a7_bodyWayX a7_bodyWayY a7_bodyMark v0 v1 v2 v3 v4 v5 v6 v7 ++ PL cI v8) H → va_D A (WS_X11_safe cI cJ cZ cY a0 a0_tape a0_firstTakes r0_saved r0_parser a1 a2 a2_codes r2_reads r2_flight a3 a3_view a3_rays a4 a4_stack a4_letters a5 a5_rows a5_takes a6 a6_lensSide a6_lensWidth a6_pairA a6_pairB a6_pairDelay a7 a7_own a7_bodyX a7_bodyY a7_bodyWayX a7_bodyWayY a7_bodyMark v0 v1 v2 v3 v4 v5 v6 v7 ++ PL cI v8) → va_S A s.heap H locs → lv_has ls 13 [(0, .ref a0), (1, .int x1), (3, .int x3), (4, .int x4), (5, .int x5), (6, .int x6), (7, .int x7), (8, .int x8), (11, .int x11), (12, .int x12)] → J125 (x1, x3, x4, x5, x6, x7, x8, x11, x12, v3, v4, v5) = some res → W p l e rm_X11_safe s m args below meth c H locs 0 0 Q (F0 m 125 ls [])), ∀ (x1 : Int32) (x3 : Int32) (x4 : Int32) (x5 : Int32) (x6 : Int32) (x7 : Int32) (x8 : Int32) (x11 : Int32) (x12 : Int32) (v3 : BX7) (v4 : BX6) (v5 : BX2) (H : Heap) (locs : List Loc) (ls : Array Slot), va_P D vwCl (WS_X11_safe cI cJ cZ cY a0 a0_tape a0_firstTakes r0_saved r0_parser a1 a2 a2_codes r2_reads r2_flight a3 a3_view a3_rays a4 a4_stack a4_letters a5 a5_rows a5_takes a6 a6_lensSide a6_lensWidth a6_pairA a6_pairB a6_pairDelay a7 a7_own a7_bodyX a7_bodyY a7_bodyWayX a7_bodyWayY a7_bodyMark v0 v1 v2 v3 v4 v5 v6 v7 ++ PL cI v8) H → va_D A (WS_X11_safe cI cJ cZ cY a0 a0_tape a0_firstTakes r0_saved r0_parser a1 a2 a2_codes r2_reads r2_flight a3 a3_view a3_rays a4 a4_stack a4_letters a5 a5_rows a5_takes a6 a6_lensSide a6_lensWidth a6_pairA a6_pairB a6_pairDelay a7 a7_own a7_bodyX a7_bodyY a7_bodyWayX a7_bodyWayY a7_bodyMark v0 v1 v2 v3 v4 v5 v6 v7 ++ PL cI v8) → va_S A s.heap H locs → lv_has ls 13 [(0, .ref a0), (1, .int x1), (3, .int x3), (4, .int x4), (5, .int x5), (6, .int x6), (7, .int x7), (8, .int x8), (11, .int x11), (12, .int x12)] → f_X11_safe_b182 v0 v1 v2 v6 v7 v8 J115 J125 x1 x3 x4 x5 x6 x7 x8 x11 x12 v3 v4 v5 = some res → W p l e rm_X11_safe s m args below meth c H locs 0 0 Q (F0 m 182 ls []) := by
    intro J115 hJ115 J125 hJ125 x1 x3 x4 x5 x6 x7 x8 x11 x12 v3 v4 v5 H locs ls hP hD hS hl hg
    unfold f_X11_safe_b182 at hg
    obtain ⟨x12_1, ex12_1⟩ : ∃ z : Int32, z = x12 + 1 := ⟨_, rfl⟩
    have hg := g_lte hg x12_1 ex12_1
    refine lv_iinc (v := x12_1) (lv' := [(12, .int x12_1), (0, .ref a0), (1, .int x1), (3, .int x3), (4, .int x4), (5, .int x5), (6, .int x6), (7, .int x7), (8, .int x8), (11, .int x11)]) hx hb dX11_safe_182 hl (k := 9) rfl (by rw [ex12_1]; rfl) (by decide) rfl (fun ls hl => ?_)
    refine lv_goto (tgt := 125) hx hb dX11_safe_185 (by decide) ?_
    exact hJ125 x1 x3 x4 x5 x6 x7 x8 x11 x12_1 v3 v4 v5 H locs ls hP hD hS (lv_sub hl [1, 2, 3, 4, 5, 6, 7, 8, 9, 0] rfl) hg
  have b_125 : ∀ (J115 : (Int32 × Int32 × Int32 × Int32 × Int32 × Int32 × Int32 × Int32 × BX7 × BX6 × BX2) → Option (Int32 × BX7 × BX6 × BX2)) (hJ115 : ∀ (x1 : Int32) (x3 : Int32) (x4 : Int32) (x5 : Int32) (x6 : Int32) (x7 : Int32) (x8 : Int32) (x11 : Int32) (v3 : BX7) (v4 : BX6) (v5 : BX2) (H : Heap) (locs : List Loc) (ls : Array Slot), va_P D vwCl (WS_X11_safe cI cJ cZ cY a0 a0_tape a0_firstTakes r0_saved r0_parser a1 a2 a2_codes r2_reads r2_flight a3 a3_view a3_rays a4 a4_stack a4_letters a5 a5_rows a5_takes a6 a6_lensSide a6_lensWidth a6_pairA a6_pairB a6_pairDelay a7 a7_own a7_bodyX a7_bodyY a7_bodyWayX a7_bodyWayY a7_bodyMark v0 v1 v2 v3 v4 v5 v6 v7 ++ PL cI v8) H → va_D A (WS_X11_safe cI cJ cZ cY a0 a0_tape a0_firstTakes r0_saved r0_parser a1 a2 a2_codes r2_reads r2_flight a3 a3_view a3_rays a4 a4_stack a4_letters a5 a5_rows a5_takes a6 a6_lensSide a6_lensWidth a6_pairA a6_pairB a6_pairDelay a7 a7_own a7_bodyX a7_bodyY a7_bodyWayX a7_bodyWayY a7_bodyMark v0 v1 v2 v3 v4 v5 v6 v7 ++ PL cI v8) → va_S A s.heap H locs → lv_has ls 13 [(0, .ref a0), (1, .int x1), (3, .int x3), (4, .int x4), (5, .int x5), (6, .int x6), (7, .int x7), (8, .int x8), (11, .int x11)] → J115 (x1, x3, x4, x5, x6, x7, x8, x11, v3, v4, v5) = some res → W p l e rm_X11_safe s m args below meth c H locs 0 0 Q (F0 m 115 ls [])) (n : Nat), ∀ (x1 : Int32) (x3 : Int32) (x4 : Int32) (x5 : Int32) (x6 : Int32) (x7 : Int32) (x8 : Int32) (x11 : Int32) (x12 : Int32) (v3 : BX7) (v4 : BX6) (v5 : BX2) (H : Heap) (locs : List Loc) (ls : Array Slot), va_P D vwCl (WS_X11_safe cI cJ cZ cY a0 a0_tape a0_firstTakes r0_saved r0_parser a1 a2 a2_codes r2_reads r2_flight a3 a3_view a3_rays a4 a4_stack a4_letters a5 a5_rows a5_takes a6 a6_lensSide a6_lensWidth a6_pairA a6_pairB a6_pairDelay a7 a7_own a7_bodyX a7_bodyY a7_bodyWayX a7_bodyWayY a7_bodyMark v0 v1 v2 v3 v4 v5 v6 v7 ++ PL cI v8) H → va_D A (WS_X11_safe cI cJ cZ cY a0 a0_tape a0_firstTakes r0_saved r0_parser a1 a2 a2_codes r2_reads r2_flight a3 a3_view a3_rays a4 a4_stack a4_letters a5 a5_rows a5_takes a6 a6_lensSide a6_lensWidth a6_pairA a6_pairB a6_pairDelay a7 a7_own a7_bodyX a7_bodyY a7_bodyWayX a7_bodyWayY a7_bodyMark v0 v1 v2 v3 v4 v5 v6 v7 ++ PL cI v8) → va_S A s.heap H locs → lv_has ls 13 [(0, .ref a0), (1, .int x1), (3, .int x3), (4, .int x4), (5, .int x5), (6, .int x6), (7, .int x7), (8, .int x8), (11, .int x11), (12, .int x12)] → f_X11_safe_b125 v0 v1 v2 v6 v7 v8 J115 n (x1, x3, x4, x5, x6, x7, x8, x11, x12, v3, v4, v5) = some res → W p l e rm_X11_safe s m args below meth c H locs 0 0 Q (F0 m 125 ls []) := by
    intro J115 hJ115 n
    induction n with
    | zero =>
      intro x1 x3 x4 x5 x6 x7 x8 x11 x12 v3 v4 v5 H locs ls hP hD hS hl hg
      exact (g_lp0 hg).elim
    | succ n ih =>
      intro x1 x3 x4 x5 x6 x7 x8 x11 x12 v3 v4 v5 H locs ls hP hD hS hl hg
      have hg : f_X11_safe_b125B v0 v1 v2 v6 v7 v8 J115 (f_X11_safe_b125 v0 v1 v2 v6 v7 v8 J115 n) x1 x3 x4 x5 x6 x7 x8 x11 x12 v3 v4 v5 = some res := hg
      unfold f_X11_safe_b125B at hg
      refine lv_iload hx hb dX11_safe_125 (lv_at hl 9 rfl) ?_
      refine lv_iload hx hb dX11_safe_127 (lv_at hl 5 rfl) ?_
      refine lv_icmp_gt (tgt := 188) hx hb dX11_safe_129 (by decide) (fun c_2 => ?_) (fun c_2 => ?_)
      · have hg := g_it hg c_2
        obtain ⟨x11_3, ex11_3⟩ : ∃ z : Int32, z = x11 + 16 := ⟨_, rfl⟩
        have hg := g_lte hg x11_3 ex11_3
        refine lv_iinc (v := x11_3) (lv' := [(11, .int x11_3), (0, .ref a0), (1, .int x1), (3, .int x3), (4, .int x4), (5, .int x5), (6, .int x6), (7, .int x7), (8, .int x8), (12, .int x12)]) hx hb dX11_safe_188 hl (k := 8) rfl (by rw [ex11_3]; rfl) (by decide) rfl (fun ls hl => ?_)
        refine lv_goto (tgt := 115) hx hb dX11_safe_191 (by decide) ?_
        exact hJ115 x1 x3 x4 x5 x6 x7 x8 x11_3 v3 v4 v5 H locs ls hP hD hS (lv_sub hl [1, 2, 3, 4, 5, 6, 7, 8, 0] rfl) hg
      · have hg := g_if hg c_2
        refine lv_aload_n hx hb dX11_safe_132 rfl (lv_at hl 0 rfl) ?_
        refine va_get (ci := 10) (v := .ref a2) (C := RX11) (T := TX11) (N := 9) hx hb htb uX11 hown hK.1 hP 0 rfl rfl 0 (by decide) (htb _ tg_412) (fun _ h9 => h9) rfl dX11_safe_133 ?_
        refine va_get (ci := 7) (v := .ref a7) (C := RX8) (T := TX8) (N := 6) hx hb htb uX8 hown hK.1 hP 2 rfl rfl 0 (by decide) (htb _ tg_233) (fun _ h9 => h9) rfl dX11_safe_136 ?_
        refine lv_iload hx hb dX11_safe_139 (lv_at hl 8 rfl) ?_
        refine lv_iload hx hb dX11_safe_141 (lv_at hl 3 rfl) ?_
        refine lv_iconst (v := 0) hx hb dX11_safe_143 (by decide) ?_
        obtain ⟨r_4, hr_4, hg⟩ := g_bd hg
        refine cc_iQ (va_runV (C := RX10) (As := [.int x11, .int x4, .int 0]) (rest := []) ⟨hx, hb, hml, hown, htb⟩ (k_X10_isFree a7 a7_own a7_bodyX a7_bodyY a7_bodyWayX a7_bodyWayY a7_bodyMark v7 x11 x4 0 r_4 hr_4) (cw_V 3 htb tg_741 tg_3 tg_738 tg_739 tg_740 rfl rfl (by decide +kernel) ⟨Nat.le_of_ble_eq_true rfl, Nat.le_of_ble_eq_true rfl⟩) ⟨PC.blind, va_recv hK.1 hP (ci := 9) (q0 := 19) rfl rfl, PC.pre hK hT hP hD hS hA [19, 20, 21, 22, 23, 24, 25] rfl (by decide)⟩ rfl rfl hl.1 rfl (lv_room (Nat.le_of_ble_eq_true rfl)) dX11_safe_144 ⟨Nat.le_of_ble_eq_true rfl, Nat.le_of_ble_eq_true rfl⟩) hP hD hS hA [19, 20, 21, 22, 23, 24, 25] [0, 1, 2, 3, 4, 5, 6, 7, 8, 9, 10, 11, 12, 13, 14, 15, 16, 17, 18] rfl rfl (by decide) (by decide) rfl (fun r9 u9 H locs hw hP hD hS => ?_)
        have hw := hw.symm
        subst hw
        have hP : va_P D vwCl (WS_X11_safe cI cJ cZ cY a0 a0_tape a0_firstTakes r0_saved r0_parser a1 a2 a2_codes r2_reads r2_flight a3 a3_view a3_rays a4 a4_stack a4_letters a5 a5_rows a5_takes a6 a6_lensSide a6_lensWidth a6_pairA a6_pairB a6_pairDelay a7 a7_own a7_bodyX a7_bodyY a7_bodyWayX a7_bodyWayY a7_bodyMark v0 v1 v2 v3 v4 v5 v6 v7 ++ PL cI v8) H := hP.by _ (va_part (cx := WS_X11_safe cI cJ cZ cY a0 a0_tape a0_firstTakes r0_saved r0_parser a1 a2 a2_codes r2_reads r2_flight a3 a3_view a3_rays a4 a4_stack a4_letters a5 a5_rows a5_takes a6 a6_lensSide a6_lensWidth a6_pairA a6_pairB a6_pairDelay a7 a7_own a7_bodyX a7_bodyY a7_bodyWayX a7_bodyWayY a7_bodyMark v0 v1 v2 v3 v4 v5 v6 v7) [0, 1, 2, 3, 4, 5, 6, 7, 8, 9, 10, 11, 12, 13, 14, 15, 16, 17, 18, 19, 20, 21, 22, 23, 24, 25] rfl)
        have hD : va_D A (WS_X11_safe cI cJ cZ cY a0 a0_tape a0_firstTakes r0_saved r0_parser a1 a2 a2_codes r2_reads r2_flight a3 a3_view a3_rays a4 a4_stack a4_letters a5 a5_rows a5_takes a6 a6_lensSide a6_lensWidth a6_pairA a6_pairB a6_pairDelay a7 a7_own a7_bodyX a7_bodyY a7_bodyWayX a7_bodyWayY a7_bodyMark v0 v1 v2 v3 v4 v5 v6 v7 ++ PL cI v8) := hD.part (cx := WS_X11_safe cI cJ cZ cY a0 a0_tape a0_firstTakes r0_saved r0_parser a1 a2 a2_codes r2_reads r2_flight a3 a3_view a3_rays a4 a4_stack a4_letters a5 a5_rows a5_takes a6 a6_lensSide a6_lensWidth a6_pairA a6_pairB a6_pairDelay a7 a7_own a7_bodyX a7_bodyY a7_bodyWayX a7_bodyWayY a7_bodyMark v0 v1 v2 v3 v4 v5 v6 v7) [0, 1, 2, 3, 4, 5, 6, 7, 8, 9, 10, 11, 12, 13, 14, 15, 16, 17, 18, 19, 20, 21, 22, 23, 24, 25] (by decide) rfl
        refine lv_if_eq (tgt := 182) hx hb dX11_safe_147 (by decide) (fun c_5 => ?_) (fun c_5 => ?_)
        · have hg := g_it hg c_5
          exact b_182 J115 hJ115 (f_X11_safe_b125 v0 v1 v2 v6 v7 v8 J115 n) ih x1 x3 x4 x5 x6 x7 x8 x11 x12 v3 v4 v5 H locs ls hP hD hS (lv_sub hl [0, 1, 2, 3, 4, 5, 6, 7, 8, 9] rfl) hg
        · have hg := g_if hg c_5
          refine lv_aload_n hx hb dX11_safe_150 rfl (lv_at hl 0 rfl) ?_
          refine va_get (ci := 10) (v := .ref a1) (C := RX11) (T := TX11) (N := 9) hx hb htb uX11 hown hK.1 hP 0 rfl rfl 3 (by decide) (htb _ tg_415) (fun _ h9 => h9) rfl dX11_safe_151 ?_
          refine lv_iload_n hx hb dX11_safe_154 rfl (lv_at hl 1 rfl) ?_
          refine lv_iload hx hb dX11_safe_155 (lv_at hl 8 rfl) ?_
          refine lv_iload hx hb dX11_safe_157 (lv_at hl 3 rfl) ?_
          refine lv_iload hx hb dX11_safe_159 (lv_at hl 9 rfl) ?_
          refine lv_iload hx hb dX11_safe_161 (lv_at hl 6 rfl) ?_
          obtain ⟨r_6, hr_6, hg⟩ := g_bd hg
          refine cc_iP (va_runV (C := RX3) (As := [.int x1, .int x11, .int x4, .int x12, .int x7]) (rest := []) ⟨hx, hb, hml, hown, htb⟩ (k_X3_hitsFrom a1 a4 a4_stack a4_letters a3 a3_view a3_rays a2 a2_codes r2_reads r2_flight a5 a5_rows a5_takes a6 a6_lensSide a6_lensWidth a6_pairA a6_pairB a6_pairDelay a7 a7_own a7_bodyX a7_bodyY a7_bodyWayX a7_bodyWayY a7_bodyMark v1 v4 v3 v2 v5 v6 v7 v8 x1 x11 x4 x12 x7 r_6 hr_6) (cw_V 5 htb tg_840 tg_9 tg_837 tg_838 tg_839 rfl rfl (by decide +kernel) ⟨Nat.le_of_ble_eq_true rfl, Nat.le_of_ble_eq_true rfl⟩) ⟨PC.blind, va_recv hK.1 hP (ci := 2) (q0 := 1) rfl rfl, PC.preP hK hT hP hD hS hA [1, 7, 8, 9, 4, 5, 6, 2, 3, 10, 11, 12, 13, 14, 15, 16, 17, 18, 19, 20, 21, 22, 23, 24, 25] rfl (by decide)⟩ rfl rfl hl.1 rfl (lv_room (Nat.le_of_ble_eq_true rfl)) dX11_safe_163 ⟨Nat.le_of_ble_eq_true rfl, Nat.le_of_ble_eq_true rfl⟩) hP hD hS hA [1, 7, 8, 9, 4, 5, 6, 2, 3, 10, 11, 12, 13, 14, 15, 16, 17, 18, 19, 20, 21, 22, 23, 24, 25] [0] rfl rfl (by decide) (by decide) (fun r9 u9 H locs hw hP hD hS => ?_)
          obtain ⟨rfl, rfl⟩ := hw
          have hP : va_P D vwCl (WS_X11_safe cI cJ cZ cY a0 a0_tape a0_firstTakes r0_saved r0_parser a1 a2 a2_codes r2_reads r2_flight a3 a3_view a3_rays a4 a4_stack a4_letters a5 a5_rows a5_takes a6 a6_lensSide a6_lensWidth a6_pairA a6_pairB a6_pairDelay a7 a7_own a7_bodyX a7_bodyY a7_bodyWayX a7_bodyWayY a7_bodyMark v0 v1 v2 r_6.2.2.1 r_6.2.1 r_6.2.2.2 v6 v7 ++ PL cI v8) H := hP.by _ (va_part (cx := WS_X11_safe cI cJ cZ cY a0 a0_tape a0_firstTakes r0_saved r0_parser a1 a2 a2_codes r2_reads r2_flight a3 a3_view a3_rays a4 a4_stack a4_letters a5 a5_rows a5_takes a6 a6_lensSide a6_lensWidth a6_pairA a6_pairB a6_pairDelay a7 a7_own a7_bodyX a7_bodyY a7_bodyWayX a7_bodyWayY a7_bodyMark v0 v1 v2 r_6.2.2.1 r_6.2.1 r_6.2.2.2 v6 v7) [0, 1, 8, 9, 5, 6, 7, 2, 3, 4, 10, 11, 12, 13, 14, 15, 16, 17, 18, 19, 20, 21, 22, 23, 24, 25] rfl)
          have hD : va_D A (WS_X11_safe cI cJ cZ cY a0 a0_tape a0_firstTakes r0_saved r0_parser a1 a2 a2_codes r2_reads r2_flight a3 a3_view a3_rays a4 a4_stack a4_letters a5 a5_rows a5_takes a6 a6_lensSide a6_lensWidth a6_pairA a6_pairB a6_pairDelay a7 a7_own a7_bodyX a7_bodyY a7_bodyWayX a7_bodyWayY a7_bodyMark v0 v1 v2 r_6.2.2.1 r_6.2.1 r_6.2.2.2 v6 v7 ++ PL cI v8) := hD.part (cx := WS_X11_safe cI cJ cZ cY a0 a0_tape a0_firstTakes r0_saved r0_parser a1 a2 a2_codes r2_reads r2_flight a3 a3_view a3_rays a4 a4_stack a4_letters a5 a5_rows a5_takes a6 a6_lensSide a6_lensWidth a6_pairA a6_pairB a6_pairDelay a7 a7_own a7_bodyX a7_bodyY a7_bodyWayX a7_bodyWayY a7_bodyMark v0 v1 v2 r_6.2.2.1 r_6.2.1 r_6.2.2.2 v6 v7) [0, 1, 8, 9, 5, 6, 7, 2, 3, 4, 10, 11, 12, 13, 14, 15, 16, 17, 18, 19, 20, 21, 22, 23, 24, 25] (by decide) rfl
          refine lv_if_eq (tgt := 182) hx hb dX11_safe_166 (by decide) (fun c_7 => ?_) (fun c_7 => ?_)
          · have hg := g_it hg c_7
            exact b_182 J115 hJ115 (f_X11_safe_b125 v0 v1 v2 v6 v7 v8 J115 n) ih x1 x3 x4 x5 x6 x7 x8 x11 x12 r_6.2.2.1 r_6.2.1 r_6.2.2.2 H locs ls hP hD hS (lv_sub hl [0, 1, 2, 3, 4, 5, 6, 7, 8, 9] rfl) hg
          · have hg := g_if hg c_7
            refine lv_iload hx hb dX11_safe_169 (lv_at hl 7 rfl) ?_
            refine lv_if_ne (tgt := 179) hx hb dX11_safe_171 (by decide) (fun c_8 => ?_) (fun c_8 => ?_)
            · have hg := g_if hg c_8
              refine lv_iload hx hb dX11_safe_179 (lv_at hl 9 rfl) ?_
              have hg := Option.some.inj hg
              rw [hQ]
              exact W.iret (v := x12) hx hb hr (fun t ht hW => ⟨⟨x12, (r_6.2.2.1, r_6.2.1, r_6.2.2.2), rfl, ⟨by rw [← hg], by rw [← hg]⟩, by rw [ht]; exact hP, hD⟩, hS.F ht⟩) hS.2.2 dX11_safe_181
            · have hg := g_it hg c_8
              refine lv_iload hx hb dX11_safe_174 (lv_at hl 8 rfl) ?_
              refine lv_goto (tgt := 181) hx hb dX11_safe_176 (by decide) ?_
              have hg := Option.some.inj hg
              rw [hQ]
              exact W.iret (v := x11) hx hb hr (fun t ht hW => ⟨⟨x11, (r_6.2.2.1, r_6.2.1, r_6.2.2.2), rfl, ⟨by rw [← hg], by rw [← hg]⟩, by rw [ht]; exact hP, hD⟩, hS.F ht⟩) hS.2.2 dX11_safe_181
  have b_115 : ∀ (n : Nat), ∀ (x1 : Int32) (x3 : Int32) (x4 : Int32) (x5 : Int32) (x6 : Int32) (x7 : Int32) (x8 : Int32) (x11 : Int32) (v3 : BX7) (v4 : BX6) (v5 : BX2) (H : Heap) (locs : List Loc) (ls : Array Slot), va_P D vwCl (WS_X11_safe cI cJ cZ cY a0 a0_tape a0_firstTakes r0_saved r0_parser a1 a2 a2_codes r2_reads r2_flight a3 a3_view a3_rays a4 a4_stack a4_letters a5 a5_rows a5_takes a6 a6_lensSide a6_lensWidth a6_pairA a6_pairB a6_pairDelay a7 a7_own a7_bodyX a7_bodyY a7_bodyWayX a7_bodyWayY a7_bodyMark v0 v1 v2 v3 v4 v5 v6 v7 ++ PL cI v8) H → va_D A (WS_X11_safe cI cJ cZ cY a0 a0_tape a0_firstTakes r0_saved r0_parser a1 a2 a2_codes r2_reads r2_flight a3 a3_view a3_rays a4 a4_stack a4_letters a5 a5_rows a5_takes a6 a6_lensSide a6_lensWidth a6_pairA a6_pairB a6_pairDelay a7 a7_own a7_bodyX a7_bodyY a7_bodyWayX a7_bodyWayY a7_bodyMark v0 v1 v2 v3 v4 v5 v6 v7 ++ PL cI v8) → va_S A s.heap H locs → lv_has ls 13 [(0, .ref a0), (1, .int x1), (3, .int x3), (4, .int x4), (5, .int x5), (6, .int x6), (7, .int x7), (8, .int x8), (11, .int x11)] → f_X11_safe_b115 v0 v1 v2 v6 v7 v8 n (x1, x3, x4, x5, x6, x7, x8, x11, v3, v4, v5) = some res → W p l e rm_X11_safe s m args below meth c H locs 0 0 Q (F0 m 115 ls []) := by
    intro n
    induction n with
    | zero =>
      intro x1 x3 x4 x5 x6 x7 x8 x11 v3 v4 v5 H locs ls hP hD hS hl hg
      exact (g_lp0 hg).elim
    | succ n ih =>
      intro x1 x3 x4 x5 x6 x7 x8 x11 v3 v4 v5 H locs ls hP hD hS hl hg
      have hg : f_X11_safe_b115B v0 v1 v2 v6 v7 v8 (f_X11_safe_b115 v0 v1 v2 v6 v7 v8 n) x1 x3 x4 x5 x6 x7 x8 x11 v3 v4 v5 = some res := hg
      unfold f_X11_safe_b115B at hg
      refine lv_iload hx hb dX11_safe_115 (lv_at hl 8 rfl) ?_
      refine lv_iload_n hx hb dX11_safe_117 rfl (lv_at hl 2 rfl) ?_
      refine lv_icmp_gt (tgt := 194) hx hb dX11_safe_118 (by decide) (fun c_9 => ?_) (fun c_9 => ?_)
      · have hg := g_it hg c_9
        refine lv_iconst (v := (-1)) hx hb dX11_safe_194 (by decide) ?_
        have hg := Option.some.inj hg
        rw [hQ]
        exact W.iret (v := (-1)) hx hb hr (fun t ht hW => ⟨⟨(-1), (v3, v4, v5), rfl, ⟨by rw [← hg], by rw [← hg]⟩, by rw [ht]; exact hP, hD⟩, hS.F ht⟩) hS.2.2 dX11_safe_195
      · have hg := g_if hg c_9
        refine lv_iload hx hb dX11_safe_121 (lv_at hl 4 rfl) ?_
        refine lv_istore (lv' := [(12, .int x5), (0, .ref a0), (1, .int x1), (3, .int x3), (4, .int x4), (5, .int x5), (6, .int x6), (7, .int x7), (8, .int x8), (11, .int x11)]) hx hb dX11_safe_123 hl (by decide) rfl (fun ls hl => ?_)
        exact b_125 (f_X11_safe_b115 v0 v1 v2 v6 v7 v8 n) ih fU x1 x3 x4 x5 x6 x7 x8 x11 x5 v3 v4 v5 H locs ls hP hD hS (lv_sub hl [1, 2, 3, 4, 5, 6, 7, 8, 9, 0] rfl) hg
  generalize hHe : s.heap = H at hP ⊢
  have hS : va_S A s.heap H [] := by rw [← hHe]; exact va_S.rf
  generalize ([] : List Loc) = locs at hS ⊢
  unfold f_X11_safe at hg
  refine lv_aload_n hx hb dX11_safe_0 rfl (lv_at hl 0 rfl) ?_
  refine va_get (ci := 10) (v := .ref a2) (C := RX11) (T := TX11) (N := 9) hx hb htb uX11 hown hK.1 hP 0 rfl rfl 0 (by decide) (htb _ tg_412) (fun _ h9 => h9) rfl dX11_safe_1 ?_
  refine lv_iload_n hx hb dX11_safe_4 rfl (lv_at hl 1 rfl) ?_
  obtain ⟨r_10, hr_10, hg⟩ := g_bd hg
  refine cc_iQ (va_runV (C := RX8) (As := [.int p0]) (rest := []) ⟨hx, hb, hml, hown, htb⟩ (k_X8_isRule a2 a2_codes a7 a6 r2_reads r2_flight v2 p0 r_10 hr_10) (cw_V 1 htb tg_736 tg_2 tg_733 tg_734 tg_735 rfl rfl (by decide +kernel) ⟨Nat.le_of_ble_eq_true rfl, Nat.le_of_ble_eq_true rfl⟩) ⟨PC.blind, va_recv hK.1 hP (ci := 7) (q0 := 2) rfl rfl, PC.pre hK hT hP hD hS hA [2, 3] rfl (by decide)⟩ rfl rfl hl.1 rfl (lv_room (Nat.le_of_ble_eq_true rfl)) dX11_safe_5 ⟨Nat.le_of_ble_eq_true rfl, Nat.le_of_ble_eq_true rfl⟩) hP hD hS hA [2, 3] [0, 1, 4, 5, 6, 7, 8, 9, 10, 11, 12, 13, 14, 15, 16, 17, 18, 19, 20, 21, 22, 23, 24, 25] rfl rfl (by decide) (by decide) rfl (fun r9 u9 H locs hw hP hD hS => ?_)
  have hw := hw.symm
  subst hw
  have hP : va_P D vwCl (WS_X11_safe cI cJ cZ cY a0 a0_tape a0_firstTakes r0_saved r0_parser a1 a2 a2_codes r2_reads r2_flight a3 a3_view a3_rays a4 a4_stack a4_letters a5 a5_rows a5_takes a6 a6_lensSide a6_lensWidth a6_pairA a6_pairB a6_pairDelay a7 a7_own a7_bodyX a7_bodyY a7_bodyWayX a7_bodyWayY a7_bodyMark v0 v1 v2 v3 v4 v5 v6 v7 ++ PL cI v8) H := hP.by _ (va_part (cx := WS_X11_safe cI cJ cZ cY a0 a0_tape a0_firstTakes r0_saved r0_parser a1 a2 a2_codes r2_reads r2_flight a3 a3_view a3_rays a4 a4_stack a4_letters a5 a5_rows a5_takes a6 a6_lensSide a6_lensWidth a6_pairA a6_pairB a6_pairDelay a7 a7_own a7_bodyX a7_bodyY a7_bodyWayX a7_bodyWayY a7_bodyMark v0 v1 v2 v3 v4 v5 v6 v7) [0, 1, 24, 25, 2, 3, 4, 5, 6, 7, 8, 9, 10, 11, 12, 13, 14, 15, 16, 17, 18, 19, 20, 21, 22, 23] rfl)
  have hD : va_D A (WS_X11_safe cI cJ cZ cY a0 a0_tape a0_firstTakes r0_saved r0_parser a1 a2 a2_codes r2_reads r2_flight a3 a3_view a3_rays a4 a4_stack a4_letters a5 a5_rows a5_takes a6 a6_lensSide a6_lensWidth a6_pairA a6_pairB a6_pairDelay a7 a7_own a7_bodyX a7_bodyY a7_bodyWayX a7_bodyWayY a7_bodyMark v0 v1 v2 v3 v4 v5 v6 v7 ++ PL cI v8) := hD.part (cx := WS_X11_safe cI cJ cZ cY a0 a0_tape a0_firstTakes r0_saved r0_parser a1 a2 a2_codes r2_reads r2_flight a3 a3_view a3_rays a4 a4_stack a4_letters a5 a5_rows a5_takes a6 a6_lensSide a6_lensWidth a6_pairA a6_pairB a6_pairDelay a7 a7_own a7_bodyX a7_bodyY a7_bodyWayX a7_bodyWayY a7_bodyMark v0 v1 v2 v3 v4 v5 v6 v7) [0, 1, 24, 25, 2, 3, 4, 5, 6, 7, 8, 9, 10, 11, 12, 13, 14, 15, 16, 17, 18, 19, 20, 21, 22, 23] (by decide) rfl
  refine lv_if_eq (tgt := 32) hx hb dX11_safe_8 (by decide) (fun c_11 => ?_) (fun c_11 => ?_)
  · have hg := g_it hg c_11
    refine lv_iconst (v := (-1)) hx hb dX11_safe_32 (by decide) ?_
    have hg := Option.some.inj hg
    rw [hQ]
    exact W.iret (v := (-1)) hx hb hr (fun t ht hW => ⟨⟨(-1), (v3, v4, v5), rfl, ⟨by rw [← hg], by rw [← hg]⟩, by rw [ht]; exact hP, hD⟩, hS.F ht⟩) hS.2.2 dX11_safe_33
  · have hg := g_if hg c_11
    refine lv_iload hx hb dX11_safe_11 (lv_at hl 7 rfl) ?_
    refine lv_iconst (v := 1) hx hb dX11_safe_13 (by decide) ?_
    refine lv_bipush (v := 60) hx hb dX11_safe_14 (by decide) ?_
    obtain ⟨r_12, hr_12, hg⟩ := g_bd hg
    refine cc_iQ (va_runS (As := [.int p6, .int 1, .int 60]) (rest := []) ⟨hx, hb, hml, hown, htb⟩ (k_X11_isWithin p6 1 60 r_12 hr_12) (cw_S 3 htb tg_450 tg_1 tg_451 tg_449 rfl rfl (by decide +kernel) ⟨Nat.le_of_ble_eq_true rfl, Nat.le_of_ble_eq_true rfl⟩) ⟨PC.blind, PC.pre hK hT hP hD hS hA [] rfl (by decide)⟩ rfl rfl hl.1 rfl (lv_room (Nat.le_of_ble_eq_true rfl)) dX11_safe_16 ⟨Nat.le_of_ble_eq_true rfl, Nat.le_of_ble_eq_true rfl⟩) hP hD hS hA [] [0, 1, 2, 3, 4, 5, 6, 7, 8, 9, 10, 11, 12, 13, 14, 15, 16, 17, 18, 19, 20, 21, 22, 23, 24, 25] rfl rfl (by decide) (by decide) rfl (fun r9 u9 H locs hw hP hD hS => ?_)
    have hw := hw.symm
    subst hw
    have hP : va_P D vwCl (WS_X11_safe cI cJ cZ cY a0 a0_tape a0_firstTakes r0_saved r0_parser a1 a2 a2_codes r2_reads r2_flight a3 a3_view a3_rays a4 a4_stack a4_letters a5 a5_rows a5_takes a6 a6_lensSide a6_lensWidth a6_pairA a6_pairB a6_pairDelay a7 a7_own a7_bodyX a7_bodyY a7_bodyWayX a7_bodyWayY a7_bodyMark v0 v1 v2 v3 v4 v5 v6 v7 ++ PL cI v8) H := hP.by _ (va_part (cx := WS_X11_safe cI cJ cZ cY a0 a0_tape a0_firstTakes r0_saved r0_parser a1 a2 a2_codes r2_reads r2_flight a3 a3_view a3_rays a4 a4_stack a4_letters a5 a5_rows a5_takes a6 a6_lensSide a6_lensWidth a6_pairA a6_pairB a6_pairDelay a7 a7_own a7_bodyX a7_bodyY a7_bodyWayX a7_bodyWayY a7_bodyMark v0 v1 v2 v3 v4 v5 v6 v7) [0, 1, 2, 3, 4, 5, 6, 7, 8, 9, 10, 11, 12, 13, 14, 15, 16, 17, 18, 19, 20, 21, 22, 23, 24, 25] rfl)
    have hD : va_D A (WS_X11_safe cI cJ cZ cY a0 a0_tape a0_firstTakes r0_saved r0_parser a1 a2 a2_codes r2_reads r2_flight a3 a3_view a3_rays a4 a4_stack a4_letters a5 a5_rows a5_takes a6 a6_lensSide a6_lensWidth a6_pairA a6_pairB a6_pairDelay a7 a7_own a7_bodyX a7_bodyY a7_bodyWayX a7_bodyWayY a7_bodyMark v0 v1 v2 v3 v4 v5 v6 v7 ++ PL cI v8) := hD.part (cx := WS_X11_safe cI cJ cZ cY a0 a0_tape a0_firstTakes r0_saved r0_parser a1 a2 a2_codes r2_reads r2_flight a3 a3_view a3_rays a4 a4_stack a4_letters a5 a5_rows a5_takes a6 a6_lensSide a6_lensWidth a6_pairA a6_pairB a6_pairDelay a7 a7_own a7_bodyX a7_bodyY a7_bodyWayX a7_bodyWayY a7_bodyMark v0 v1 v2 v3 v4 v5 v6 v7) [0, 1, 2, 3, 4, 5, 6, 7, 8, 9, 10, 11, 12, 13, 14, 15, 16, 17, 18, 19, 20, 21, 22, 23, 24, 25] (by decide) rfl
    refine lv_if_eq (tgt := 32) hx hb dX11_safe_19 (by decide) (fun c_13 => ?_) (fun c_13 => ?_)
    · have hg := g_it hg c_13
      refine lv_iconst (v := (-1)) hx hb dX11_safe_32 (by decide) ?_
      have hg := Option.some.inj hg
      rw [hQ]
      exact W.iret (v := (-1)) hx hb hr (fun t ht hW => ⟨⟨(-1), (v3, v4, v5), rfl, ⟨by rw [← hg], by rw [← hg]⟩, by rw [ht]; exact hP, hD⟩, hS.F ht⟩) hS.2.2 dX11_safe_33
    · have hg := g_if hg c_13
      refine lv_iload hx hb dX11_safe_22 (lv_at hl 8 rfl) ?_
      refine lv_iconst (v := 0) hx hb dX11_safe_24 (by decide) ?_
      refine lv_iconst (v := 1) hx hb dX11_safe_25 (by decide) ?_
      obtain ⟨r_14, hr_14, hg⟩ := g_bd hg
      refine cc_iQ (va_runS (As := [.int p7, .int 0, .int 1]) (rest := []) ⟨hx, hb, hml, hown, htb⟩ (k_X11_isWithin p7 0 1 r_14 hr_14) (cw_S 3 htb tg_450 tg_1 tg_451 tg_449 rfl rfl (by decide +kernel) ⟨Nat.le_of_ble_eq_true rfl, Nat.le_of_ble_eq_true rfl⟩) ⟨PC.blind, PC.pre hK hT hP hD hS hA [] rfl (by decide)⟩ rfl rfl hl.1 rfl (lv_room (Nat.le_of_ble_eq_true rfl)) dX11_safe_26 ⟨Nat.le_of_ble_eq_true rfl, Nat.le_of_ble_eq_true rfl⟩) hP hD hS hA [] [0, 1, 2, 3, 4, 5, 6, 7, 8, 9, 10, 11, 12, 13, 14, 15, 16, 17, 18, 19, 20, 21, 22, 23, 24, 25] rfl rfl (by decide) (by decide) rfl (fun r9 u9 H locs hw hP hD hS => ?_)
      have hw := hw.symm
      subst hw
      have hP : va_P D vwCl (WS_X11_safe cI cJ cZ cY a0 a0_tape a0_firstTakes r0_saved r0_parser a1 a2 a2_codes r2_reads r2_flight a3 a3_view a3_rays a4 a4_stack a4_letters a5 a5_rows a5_takes a6 a6_lensSide a6_lensWidth a6_pairA a6_pairB a6_pairDelay a7 a7_own a7_bodyX a7_bodyY a7_bodyWayX a7_bodyWayY a7_bodyMark v0 v1 v2 v3 v4 v5 v6 v7 ++ PL cI v8) H := hP.by _ (va_part (cx := WS_X11_safe cI cJ cZ cY a0 a0_tape a0_firstTakes r0_saved r0_parser a1 a2 a2_codes r2_reads r2_flight a3 a3_view a3_rays a4 a4_stack a4_letters a5 a5_rows a5_takes a6 a6_lensSide a6_lensWidth a6_pairA a6_pairB a6_pairDelay a7 a7_own a7_bodyX a7_bodyY a7_bodyWayX a7_bodyWayY a7_bodyMark v0 v1 v2 v3 v4 v5 v6 v7) [0, 1, 2, 3, 4, 5, 6, 7, 8, 9, 10, 11, 12, 13, 14, 15, 16, 17, 18, 19, 20, 21, 22, 23, 24, 25] rfl)
      have hD : va_D A (WS_X11_safe cI cJ cZ cY a0 a0_tape a0_firstTakes r0_saved r0_parser a1 a2 a2_codes r2_reads r2_flight a3 a3_view a3_rays a4 a4_stack a4_letters a5 a5_rows a5_takes a6 a6_lensSide a6_lensWidth a6_pairA a6_pairB a6_pairDelay a7 a7_own a7_bodyX a7_bodyY a7_bodyWayX a7_bodyWayY a7_bodyMark v0 v1 v2 v3 v4 v5 v6 v7 ++ PL cI v8) := hD.part (cx := WS_X11_safe cI cJ cZ cY a0 a0_tape a0_firstTakes r0_saved r0_parser a1 a2 a2_codes r2_reads r2_flight a3 a3_view a3_rays a4 a4_stack a4_letters a5 a5_rows a5_takes a6 a6_lensSide a6_lensWidth a6_pairA a6_pairB a6_pairDelay a7 a7_own a7_bodyX a7_bodyY a7_bodyWayX a7_bodyWayY a7_bodyMark v0 v1 v2 v3 v4 v5 v6 v7) [0, 1, 2, 3, 4, 5, 6, 7, 8, 9, 10, 11, 12, 13, 14, 15, 16, 17, 18, 19, 20, 21, 22, 23, 24, 25] (by decide) rfl
      refine lv_if_ne (tgt := 34) hx hb dX11_safe_29 (by decide) (fun c_15 => ?_) (fun c_15 => ?_)
      · have hg := g_if hg c_15
        refine lv_aload_n hx hb dX11_safe_34 rfl (lv_at hl 0 rfl) ?_
        refine lv_iload_n hx hb dX11_safe_35 rfl (lv_at hl 2 rfl) ?_
        refine lv_iload hx hb dX11_safe_36 (lv_at hl 4 rfl) ?_
        refine lv_iload hx hb dX11_safe_38 (lv_at hl 5 rfl) ?_
        obtain ⟨r_16, hr_16, hg⟩ := g_bd hg
        refine cc_iQ (va_runV (C := RX11) (As := [.int p1, .int p3, .int p4]) (rest := []) ⟨hx, hb, hml, hown, htb⟩ (k_X11_isStanding a0 a0_tape a0_firstTakes r0_saved a3 a1 r0_parser a2 a2_codes a6 r2_reads r2_flight a7 a7_own a7_bodyX a7_bodyY a7_bodyWayX a7_bodyWayY a7_bodyMark v0 v2 v7 p1 p3 p4 r_16 hr_16) (cw_V 3 htb tg_526 tg_1 tg_523 tg_525 ts_0 rfl rfl (by decide +kernel) ⟨Nat.le_of_ble_eq_true rfl, Nat.le_of_ble_eq_true rfl⟩) ⟨PC.blind, va_recv hK.1 hP (ci := 10) (q0 := 0) rfl rfl, PC.pre hK hT hP hD hS hA [0, 2, 3, 19, 20, 21, 22, 23, 24, 25] rfl (by decide)⟩ rfl rfl hl.1 rfl (lv_room (Nat.le_of_ble_eq_true rfl)) dX11_safe_40 ⟨Nat.le_of_ble_eq_true rfl, Nat.le_of_ble_eq_true rfl⟩) hP hD hS hA [0, 2, 3, 19, 20, 21, 22, 23, 24, 25] [1, 4, 5, 6, 7, 8, 9, 10, 11, 12, 13, 14, 15, 16, 17, 18] rfl rfl (by decide) (by decide) rfl (fun r9 u9 H locs hw hP hD hS => ?_)
        have hw := hw.symm
        subst hw
        have hP : va_P D vwCl (WS_X11_safe cI cJ cZ cY a0 a0_tape a0_firstTakes r0_saved r0_parser a1 a2 a2_codes r2_reads r2_flight a3 a3_view a3_rays a4 a4_stack a4_letters a5 a5_rows a5_takes a6 a6_lensSide a6_lensWidth a6_pairA a6_pairB a6_pairDelay a7 a7_own a7_bodyX a7_bodyY a7_bodyWayX a7_bodyWayY a7_bodyMark v0 v1 v2 v3 v4 v5 v6 v7 ++ PL cI v8) H := hP.by _ (va_part (cx := WS_X11_safe cI cJ cZ cY a0 a0_tape a0_firstTakes r0_saved r0_parser a1 a2 a2_codes r2_reads r2_flight a3 a3_view a3_rays a4 a4_stack a4_letters a5 a5_rows a5_takes a6 a6_lensSide a6_lensWidth a6_pairA a6_pairB a6_pairDelay a7 a7_own a7_bodyX a7_bodyY a7_bodyWayX a7_bodyWayY a7_bodyMark v0 v1 v2 v3 v4 v5 v6 v7) [16, 0, 17, 18, 1, 2, 3, 4, 5, 6, 7, 8, 9, 10, 11, 12, 13, 14, 15, 19, 20, 21, 22, 23, 24, 25] rfl)
        have hD : va_D A (WS_X11_safe cI cJ cZ cY a0 a0_tape a0_firstTakes r0_saved r0_parser a1 a2 a2_codes r2_reads r2_flight a3 a3_view a3_rays a4 a4_stack a4_letters a5 a5_rows a5_takes a6 a6_lensSide a6_lensWidth a6_pairA a6_pairB a6_pairDelay a7 a7_own a7_bodyX a7_bodyY a7_bodyWayX a7_bodyWayY a7_bodyMark v0 v1 v2 v3 v4 v5 v6 v7 ++ PL cI v8) := hD.part (cx := WS_X11_safe cI cJ cZ cY a0 a0_tape a0_firstTakes r0_saved r0_parser a1 a2 a2_codes r2_reads r2_flight a3 a3_view a3_rays a4 a4_stack a4_letters a5 a5_rows a5_takes a6 a6_lensSide a6_lensWidth a6_pairA a6_pairB a6_pairDelay a7 a7_own a7_bodyX a7_bodyY a7_bodyWayX a7_bodyWayY a7_bodyMark v0 v1 v2 v3 v4 v5 v6 v7) [16, 0, 17, 18, 1, 2, 3, 4, 5, 6, 7, 8, 9, 10, 11, 12, 13, 14, 15, 19, 20, 21, 22, 23, 24, 25] (by decide) rfl
        refine lv_if_eq (tgt := 70) hx hb dX11_safe_43 (by decide) (fun c_17 => ?_) (fun c_17 => ?_)
        · have hg := g_it hg c_17
          refine lv_iconst (v := (-1)) hx hb dX11_safe_70 (by decide) ?_
          have hg := Option.some.inj hg
          rw [hQ]
          exact W.iret (v := (-1)) hx hb hr (fun t ht hW => ⟨⟨(-1), (v3, v4, v5), rfl, ⟨by rw [← hg], by rw [← hg]⟩, by rw [ht]; exact hP, hD⟩, hS.F ht⟩) hS.2.2 dX11_safe_71
        · have hg := g_if hg c_17
          refine lv_aload_n hx hb dX11_safe_46 rfl (lv_at hl 0 rfl) ?_
          refine lv_iload_n hx hb dX11_safe_47 rfl (lv_at hl 3 rfl) ?_
          refine lv_iload hx hb dX11_safe_48 (lv_at hl 4 rfl) ?_
          refine lv_iload hx hb dX11_safe_50 (lv_at hl 6 rfl) ?_
          obtain ⟨r_18, hr_18, hg⟩ := g_bd hg
          refine cc_iQ (va_runV (C := RX11) (As := [.int p2, .int p3, .int p5]) (rest := []) ⟨hx, hb, hml, hown, htb⟩ (k_X11_isStanding a0 a0_tape a0_firstTakes r0_saved a3 a1 r0_parser a2 a2_codes a6 r2_reads r2_flight a7 a7_own a7_bodyX a7_bodyY a7_bodyWayX a7_bodyWayY a7_bodyMark v0 v2 v7 p2 p3 p5 r_18 hr_18) (cw_V 3 htb tg_526 tg_1 tg_523 tg_525 ts_0 rfl rfl (by decide +kernel) ⟨Nat.le_of_ble_eq_true rfl, Nat.le_of_ble_eq_true rfl⟩) ⟨PC.blind, va_recv hK.1 hP (ci := 10) (q0 := 0) rfl rfl, PC.pre hK hT hP hD hS hA [0, 2, 3, 19, 20, 21, 22, 23, 24, 25] rfl (by decide)⟩ rfl rfl hl.1 rfl (lv_room (Nat.le_of_ble_eq_true rfl)) dX11_safe_52 ⟨Nat.le_of_ble_eq_true rfl, Nat.le_of_ble_eq_true rfl⟩) hP hD hS hA [0, 2, 3, 19, 20, 21, 22, 23, 24, 25] [1, 4, 5, 6, 7, 8, 9, 10, 11, 12, 13, 14, 15, 16, 17, 18] rfl rfl (by decide) (by decide) rfl (fun r9 u9 H locs hw hP hD hS => ?_)
          have hw := hw.symm
          subst hw
          have hP : va_P D vwCl (WS_X11_safe cI cJ cZ cY a0 a0_tape a0_firstTakes r0_saved r0_parser a1 a2 a2_codes r2_reads r2_flight a3 a3_view a3_rays a4 a4_stack a4_letters a5 a5_rows a5_takes a6 a6_lensSide a6_lensWidth a6_pairA a6_pairB a6_pairDelay a7 a7_own a7_bodyX a7_bodyY a7_bodyWayX a7_bodyWayY a7_bodyMark v0 v1 v2 v3 v4 v5 v6 v7 ++ PL cI v8) H := hP.by _ (va_part (cx := WS_X11_safe cI cJ cZ cY a0 a0_tape a0_firstTakes r0_saved r0_parser a1 a2 a2_codes r2_reads r2_flight a3 a3_view a3_rays a4 a4_stack a4_letters a5 a5_rows a5_takes a6 a6_lensSide a6_lensWidth a6_pairA a6_pairB a6_pairDelay a7 a7_own a7_bodyX a7_bodyY a7_bodyWayX a7_bodyWayY a7_bodyMark v0 v1 v2 v3 v4 v5 v6 v7) [16, 0, 17, 18, 1, 2, 3, 4, 5, 6, 7, 8, 9, 10, 11, 12, 13, 14, 15, 19, 20, 21, 22, 23, 24, 25] rfl)
          have hD : va_D A (WS_X11_safe cI cJ cZ cY a0 a0_tape a0_firstTakes r0_saved r0_parser a1 a2 a2_codes r2_reads r2_flight a3 a3_view a3_rays a4 a4_stack a4_letters a5 a5_rows a5_takes a6 a6_lensSide a6_lensWidth a6_pairA a6_pairB a6_pairDelay a7 a7_own a7_bodyX a7_bodyY a7_bodyWayX a7_bodyWayY a7_bodyMark v0 v1 v2 v3 v4 v5 v6 v7 ++ PL cI v8) := hD.part (cx := WS_X11_safe cI cJ cZ cY a0 a0_tape a0_firstTakes r0_saved r0_parser a1 a2 a2_codes r2_reads r2_flight a3 a3_view a3_rays a4 a4_stack a4_letters a5 a5_rows a5_takes a6 a6_lensSide a6_lensWidth a6_pairA a6_pairB a6_pairDelay a7 a7_own a7_bodyX a7_bodyY a7_bodyWayX a7_bodyWayY a7_bodyMark v0 v1 v2 v3 v4 v5 v6 v7) [16, 0, 17, 18, 1, 2, 3, 4, 5, 6, 7, 8, 9, 10, 11, 12, 13, 14, 15, 19, 20, 21, 22, 23, 24, 25] (by decide) rfl
          refine lv_if_eq (tgt := 70) hx hb dX11_safe_55 (by decide) (fun c_19 => ?_) (fun c_19 => ?_)
          · have hg := g_it hg c_19
            refine lv_iconst (v := (-1)) hx hb dX11_safe_70 (by decide) ?_
            have hg := Option.some.inj hg
            rw [hQ]
            exact W.iret (v := (-1)) hx hb hr (fun t ht hW => ⟨⟨(-1), (v3, v4, v5), rfl, ⟨by rw [← hg], by rw [← hg]⟩, by rw [ht]; exact hP, hD⟩, hS.F ht⟩) hS.2.2 dX11_safe_71
          · have hg := g_if hg c_19
            refine lv_iload_n hx hb dX11_safe_58 rfl (lv_at hl 2 rfl) ?_
            refine lv_iload_n hx hb dX11_safe_59 rfl (lv_at hl 3 rfl) ?_
            refine lv_icmp_gt (tgt := 70) hx hb dX11_safe_60 (by decide) (fun c_20 => ?_) (fun c_20 => ?_)
            · have hg := g_it hg c_20
              refine lv_iconst (v := (-1)) hx hb dX11_safe_70 (by decide) ?_
              have hg := Option.some.inj hg
              rw [hQ]
              exact W.iret (v := (-1)) hx hb hr (fun t ht hW => ⟨⟨(-1), (v3, v4, v5), rfl, ⟨by rw [← hg], by rw [← hg]⟩, by rw [ht]; exact hP, hD⟩, hS.F ht⟩) hS.2.2 dX11_safe_71
            · have hg := g_if hg c_20
              refine lv_iload hx hb dX11_safe_63 (lv_at hl 5 rfl) ?_
              refine lv_iload hx hb dX11_safe_65 (lv_at hl 6 rfl) ?_
              refine lv_icmp_le (tgt := 72) hx hb dX11_safe_67 (by decide) (fun c_21 => ?_) (fun c_21 => ?_)
              · have hg := g_it hg c_21
                refine lv_iload hx hb dX11_safe_72 (lv_at hl 6 rfl) ?_
                refine lv_iload hx hb dX11_safe_74 (lv_at hl 5 rfl) ?_
                refine lv_isub hx hb dX11_safe_76 ?_
                refine lv_iconst (v := 1) hx hb dX11_safe_77 (by decide) ?_
                refine lv_iadd hx hb dX11_safe_78 ?_
                refine lv_topi (fun x9_22 ex9_22 => ?_)
                have hg := g_lte hg x9_22 ex9_22
                refine lv_istore (lv' := [(9, .int x9_22), (0, .ref a0), (1, .int p0), (2, .int p1), (3, .int p2), (4, .int p3), (5, .int p4), (6, .int p5), (7, .int p6), (8, .int p7)]) hx hb dX11_safe_79 hl (by decide) rfl (fun ls hl => ?_)
                refine lv_iload_n hx hb dX11_safe_81 rfl (lv_at hl 4 rfl) ?_
                refine lv_iload_n hx hb dX11_safe_82 rfl (lv_at hl 3 rfl) ?_
                refine lv_isub hx hb dX11_safe_83 ?_
                refine lv_bipush (v := 16) hx hb dX11_safe_84 (by decide) ?_
                refine lv_idiv hx hb dX11_safe_86 (by decide) ?_
                refine lv_iconst (v := 1) hx hb dX11_safe_87 (by decide) ?_
                refine lv_iadd hx hb dX11_safe_88 ?_
                refine lv_iload hx hb dX11_safe_89 (lv_at hl 0 rfl) ?_
                refine lv_imul hx hb dX11_safe_91 ?_
                refine lv_topi (fun x10_24 ex10_24 => ?_)
                have hg := g_lte hg x10_24 ex10_24
                refine lv_istore (lv' := [(10, .int x10_24), (9, .int x9_22), (0, .ref a0), (1, .int p0), (2, .int p1), (3, .int p2), (4, .int p3), (5, .int p4), (6, .int p5), (7, .int p6), (8, .int p7)]) hx hb dX11_safe_92 hl (by decide) rfl (fun ls hl => ?_)
                refine lv_iload hx hb dX11_safe_94 (lv_at hl 0 rfl) ?_
                refine lv_bipush (v := 64) hx hb dX11_safe_96 (by decide) ?_
                refine lv_icmp_le (tgt := 103) hx hb dX11_safe_98 (by decide) (fun c_25 => ?_) (fun c_25 => ?_)
                · have hg := g_it hg c_25
                  refine lv_aload_n hx hb dX11_safe_103 rfl (lv_at hl 2 rfl) ?_
                  refine va_get (ci := 10) (v := .ref a1) (C := RX11) (T := TX11) (N := 9) hx hb htb uX11 hown hK.1 hP 0 rfl rfl 3 (by decide) (htb _ tg_415) (fun _ h9 => h9) rfl dX11_safe_104 ?_
                  refine lv_ldc (v := 1000000) hx hb hown (htb _ tg_744) dX11_safe_107 ?_
                  obtain ⟨r_26, hr_26, hg⟩ := g_bd hg
                  refine cc_vQ (va_runV (C := RX3) (As := [.int 1000000]) (rest := []) ⟨hx, hb, hml, hown, htb⟩ (k_X3_bindTo a1 a2 a3 a5 a4 a4_stack a4_letters a6 v1 v4 1000000 r_26 hr_26) (cw_V 1 htb tg_748 tg_9 tg_745 tg_746 tg_747 rfl rfl (by decide +kernel) ⟨Nat.le_of_ble_eq_true rfl, Nat.le_of_ble_eq_true rfl⟩) ⟨PC.blind, va_recv hK.1 hP (ci := 2) (q0 := 1) rfl rfl, PC.pre hK hT hP hD hS hA [1, 7, 8, 9] rfl (by decide)⟩ rfl rfl hl.1 rfl (lv_room (Nat.le_of_ble_eq_true rfl)) dX11_safe_109 ⟨Nat.le_of_ble_eq_true rfl, Nat.le_of_ble_eq_true rfl⟩) hP hD hS hA [1, 7, 8, 9] [0, 2, 3, 4, 5, 6, 10, 11, 12, 13, 14, 15, 16, 17, 18, 19, 20, 21, 22, 23, 24, 25] rfl rfl (by decide) (by decide) rfl (fun u9 H locs hw hP hD hS => ?_)
                  have hw := hw.symm
                  subst hw
                  have hP : va_P D vwCl (WS_X11_safe cI cJ cZ cY a0 a0_tape a0_firstTakes r0_saved r0_parser a1 a2 a2_codes r2_reads r2_flight a3 a3_view a3_rays a4 a4_stack a4_letters a5 a5_rows a5_takes a6 a6_lensSide a6_lensWidth a6_pairA a6_pairB a6_pairDelay a7 a7_own a7_bodyX a7_bodyY a7_bodyWayX a7_bodyWayY a7_bodyMark v0 v1 v2 v3 r_26 v5 v6 v7 ++ PL cI v8) H := hP.by _ (va_part (cx := WS_X11_safe cI cJ cZ cY a0 a0_tape a0_firstTakes r0_saved r0_parser a1 a2 a2_codes r2_reads r2_flight a3 a3_view a3_rays a4 a4_stack a4_letters a5 a5_rows a5_takes a6 a6_lensSide a6_lensWidth a6_pairA a6_pairB a6_pairDelay a7 a7_own a7_bodyX a7_bodyY a7_bodyWayX a7_bodyWayY a7_bodyMark v0 v1 v2 v3 r_26 v5 v6 v7) [0, 22, 1, 2, 3, 4, 5, 23, 24, 25, 6, 7, 8, 9, 10, 11, 12, 13, 14, 15, 16, 17, 18, 19, 20, 21] rfl)
                  have hD : va_D A (WS_X11_safe cI cJ cZ cY a0 a0_tape a0_firstTakes r0_saved r0_parser a1 a2 a2_codes r2_reads r2_flight a3 a3_view a3_rays a4 a4_stack a4_letters a5 a5_rows a5_takes a6 a6_lensSide a6_lensWidth a6_pairA a6_pairB a6_pairDelay a7 a7_own a7_bodyX a7_bodyY a7_bodyWayX a7_bodyWayY a7_bodyMark v0 v1 v2 v3 r_26 v5 v6 v7 ++ PL cI v8) := hD.part (cx := WS_X11_safe cI cJ cZ cY a0 a0_tape a0_firstTakes r0_saved r0_parser a1 a2 a2_codes r2_reads r2_flight a3 a3_view a3_rays a4 a4_stack a4_letters a5 a5_rows a5_takes a6 a6_lensSide a6_lensWidth a6_pairA a6_pairB a6_pairDelay a7 a7_own a7_bodyX a7_bodyY a7_bodyWayX a7_bodyWayY a7_bodyMark v0 v1 v2 v3 r_26 v5 v6 v7) [0, 22, 1, 2, 3, 4, 5, 23, 24, 25, 6, 7, 8, 9, 10, 11, 12, 13, 14, 15, 16, 17, 18, 19, 20, 21] (by decide) rfl
                  refine lv_iload_n hx hb dX11_safe_112 rfl (lv_at hl 4 rfl) ?_
                  refine lv_istore (lv' := [(11, .int p1), (10, .int x10_24), (9, .int x9_22), (0, .ref a0), (1, .int p0), (2, .int p1), (3, .int p2), (4, .int p3), (5, .int p4), (6, .int p5), (7, .int p6), (8, .int p7)]) hx hb dX11_safe_113 hl (by decide) rfl (fun ls hl => ?_)
                  exact b_115 fU p0 p2 p3 p4 p5 p6 p7 p1 v3 r_26 v5 H locs ls hP hD hS (lv_sub hl [3, 4, 6, 7, 8, 9, 10, 11, 0] rfl) hg
                · have hg := g_if hg c_25
                  refine lv_iconst (v := (-1)) hx hb dX11_safe_101 (by decide) ?_
                  have hg := Option.some.inj hg
                  rw [hQ]
                  exact W.iret (v := (-1)) hx hb hr (fun t ht hW => ⟨⟨(-1), (v3, v4, v5), rfl, ⟨by rw [← hg], by rw [← hg]⟩, by rw [ht]; exact hP, hD⟩, hS.F ht⟩) hS.2.2 dX11_safe_102
              · have hg := g_if hg c_21
                refine lv_iconst (v := (-1)) hx hb dX11_safe_70 (by decide) ?_
                have hg := Option.some.inj hg
                rw [hQ]
                exact W.iret (v := (-1)) hx hb hr (fun t ht hW => ⟨⟨(-1), (v3, v4, v5), rfl, ⟨by rw [← hg], by rw [← hg]⟩, by rw [ht]; exact hP, hD⟩, hS.F ht⟩) hS.2.2 dX11_safe_71
      · have hg := g_it hg c_15
        refine lv_iconst (v := (-1)) hx hb dX11_safe_32 (by decide) ?_
        have hg := Option.some.inj hg
        rw [hQ]
        exact W.iret (v := (-1)) hx hb hr (fun t ht hW => ⟨⟨(-1), (v3, v4, v5), rfl, ⟨by rw [← hg], by rw [← hg]⟩, by rw [ht]; exact hP, hD⟩, hS.F ht⟩) hS.2.2 dX11_safe_33

/-! ManyEyes$Flyer.keptRules()I -/
def WS_X3_keptRules (cI cJ cZ cY : ClassId) (a0 a1 a1_stack a1_letters a2 a2_view a2_rays a3 a3_codes r3_flight a4 a4_rows a4_takes a5 a5_lensSide a5_lensWidth a5_pairA a5_pairB a5_pairDelay a6 a6_x a6_y a6_head a6_size a6_turns a7 a7_own a7_bodyX a7_bodyY a7_bodyWayX a7_bodyWayY a7_bodyMark : Nat) (v0 : BX3) (v1 : BX6) (v2 : BX7) (v3 : BX8) (v4 : BX2) (v5 : BX1) (v6 : BX5) (v7 : BX10) : va_W := (GX3 cI cJ cZ cY a0 a3 a2 a1 a4 v0) ++ ((GX6 cI cJ cZ cY a1 a1_stack a1_letters a5 v1) ++ ((GX7 cI cJ cZ cY a2 a2_view a2_rays a7 v2) ++ ((GX8 cI cJ cZ cY a3 a3_codes a7 a5 a6 r3_flight v3) ++ ((GX2 cI cJ cZ cY a4 a4_rows a4_takes v4) ++ ((GX1 cI cJ cZ cY a5 a5_lensSide a5_lensWidth a5_pairA a5_pairB a5_pairDelay v5) ++ ((GX5 cI cJ cZ cY a6 a6_x a6_y a6_head a6_size a6_turns v6) ++ ((GX10 cI cJ cZ cY a7 a7_own a7_bodyX a7_bodyY a7_bodyWayX a7_bodyWayY a7_bodyMark v7))))))))
def f_X3_keptRules_b29 (v0 : BX3) (v3 : BX8) (v5 : BX1) (v6 : BX5) (v7 : BX10) (v8 : PB) (J4 : (Int32 × Int32 × BX6 × BX7 × BX2) → Option (Int32 × BX6 × BX7 × BX2)) (x1 : Int32) (x2 : Int32) (v1 : BX6) (v2 : BX7) (v4 : BX2) : Option (Int32 × BX6 × BX7 × BX2) := g_lt (x2 + 1 : Int32) (fun x2_1 => J4 (x1, x2_1, v1, v2, v4))
def f_X3_keptRules_b4B (v0 : BX3) (v3 : BX8) (v5 : BX1) (v6 : BX5) (v7 : BX10) (v8 : PB) (J4 : Int32 × Int32 × BX6 × BX7 × BX2 → Option (Int32 × BX6 × BX7 × BX2)) (x1 : Int32) (x2 : Int32) (v1 : BX6) (v2 : BX7) (v4 : BX2) : Option (Int32 × BX6 × BX7 × BX2) := if ((pX8_rules v3) : Int32) ≤ x2 then (some (x1, v1, v2, v4)) else ((f_X3_keepsAll v0 v1 v2 v3 v4 v5 v6 v7 v8 x2).bind (fun r_3 => if (r_3.1 : Int32) = 0 then (f_X3_keptRules_b29 v0 v3 v5 v6 v7 v8 J4 x1 x2 r_3.2.1 r_3.2.2.1 r_3.2.2.2) else (g_lt ((x1 ||| ((1 : Int32) <<< (x2 &&& 31))) : Int32) (fun x1_5 => f_X3_keptRules_b29 v0 v3 v5 v6 v7 v8 J4 x1_5 x2 r_3.2.1 r_3.2.2.1 r_3.2.2.2))))
def f_X3_keptRules_b4 (v0 : BX3) (v3 : BX8) (v5 : BX1) (v6 : BX5) (v7 : BX10) (v8 : PB) : Nat → (Int32 × Int32 × BX6 × BX7 × BX2) → Option (Int32 × BX6 × BX7 × BX2) := g_lp (fun J z => f_X3_keptRules_b4B v0 v3 v5 v6 v7 v8 J z.1 z.2.1 z.2.2.1 z.2.2.2.1 z.2.2.2.2)
def f_X3_keptRules (v0 : BX3) (v1 : BX6) (v2 : BX7) (v3 : BX8) (v4 : BX2) (v5 : BX1) (v6 : BX5) (v7 : BX10) (v8 : PB) : Option (Int32 × BX6 × BX7 × BX2) := f_X3_keptRules_b4 v0 v3 v5 v6 v7 v8 fU (0, 0, v1, v2, v4)
abbrev rm_X3_keptRules : Room := { frames := 6, cells := 0, slots := 0, locals := 160 }
set_option maxHeartbeats 4000000 in
set_option maxRecDepth 100000 in
theorem k_X3_keptRules {l : Launch} {D : va_G} {cI cJ cZ cY : ClassId} {tX tY : Nat} {sz : Nat} (a0 a1 a1_stack a1_letters a2 a2_view a2_rays a3 a3_codes r3_flight a4 a4_rows a4_takes a5 a5_lensSide a5_lensWidth a5_pairA a5_pairB a5_pairDelay a6 a6_x a6_y a6_head a6_size a6_turns a7 a7_own a7_bodyX a7_bodyY a7_bodyWayX a7_bodyWayY a7_bodyMark : Nat) (v0 : BX3) (v1 : BX6) (v2 : BX7) (v3 : BX8) (v4 : BX2) (v5 : BX1) (v6 : BX5) (v7 : BX10) (v8 : PB) (res : Int32 × BX6 × BX7 × BX2) (hg : f_X3_keptRules v0 v1 v2 v3 v4 v5 v6 v7 v8 = some res) : Met l yX3_keptRules (Cond.code yX3_keptRules cX3_keptRules 3 (some .int) :: TB) rm_X3_keptRules (PC D cI cJ cZ cY tX tY [.ref a0] (WS_X3_keptRules cI cJ cZ cY a0 a1 a1_stack a1_letters a2 a2_view a2_rays a3 a3_codes r3_flight a4 a4_rows a4_takes a5 a5_lensSide a5_lensWidth a5_pairA a5_pairB a5_pairDelay a6 a6_x a6_y a6_head a6_size a6_turns a7 a7_own a7_bodyX a7_bodyY a7_bodyWayX a7_bodyWayY a7_bodyMark v0 v1 v2 v3 v4 v5 v6 v7 ++ PL cI v8) sz) (va_Qi (fun (r : Int32) (u : BX6 × BX7 × BX2) => r = res.1 ∧ u = res.2) (BC D (fun u : BX6 × BX7 × BX2 => WS_X3_keptRules cI cJ cZ cY a0 a1 a1_stack a1_letters a2 a2_view a2_rays a3 a3_codes r3_flight a4 a4_rows a4_takes a5 a5_lensSide a5_lensWidth a5_pairA a5_pairB a5_pairDelay a6 a6_x a6_y a6_head a6_size a6_turns a7 a7_own a7_bodyX a7_bodyY a7_bodyWayX a7_bodyWayY a7_bodyMark v0 u.1 u.2.1 v3 u.2.2 v5 v6 v7 ++ PL cI v8) (va_A (WS_X3_keptRules cI cJ cZ cY a0 a1 a1_stack a1_letters a2 a2_view a2_rays a3 a3_codes r3_flight a4 a4_rows a4_takes a5 a5_lensSide a5_lensWidth a5_pairA a5_pairB a5_pairDelay a6 a6_x a6_y a6_head a6_size a6_turns a7 a7_own a7_bodyX a7_bodyY a7_bodyWayX a7_bodyWayY a7_bodyMark v0 v1 v2 v3 v4 v5 v6 v7 ++ PL cI v8) sz)) (va_A (WS_X3_keptRules cI cJ cZ cY a0 a1 a1_stack a1_letters a2 a2_view a2_rays a3 a3_codes r3_flight a4 a4_rows a4_takes a5 a5_lensSide a5_lensWidth a5_pairA a5_pairB a5_pairDelay a6 a6_x a6_y a6_head a6_size a6_turns a7 a7_own a7_bodyX a7_bodyY a7_bodyWayX a7_bodyWayY a7_bodyMark v0 v1 v2 v3 v4 v5 v6 v7 ++ PL cI v8) sz)) 0 0 (va_A (WS_X3_keptRules cI cJ cZ cY a0 a1 a1_stack a1_letters a2 a2_view a2_rays a3 a3_codes r3_flight a4 a4_rows a4_takes a5 a5_lensSide a5_lensWidth a5_pairA a5_pairB a5_pairDelay a6 a6_x a6_y a6_head a6_size a6_turns a7 a7_own a7_bodyX a7_bodyY a7_bodyWayX a7_bodyWayY a7_bodyMark v0 v1 v2 v3 v4 v5 v6 v7 ++ PL cI v8) sz) := by
  refine Met.ofW (cc := cX3_keptRules) (maxL := 3) (ret := (some .int)) (by decide) rfl ?_
  intro p e s m args below meth c s₁ B hml hv
  obtain ⟨hargs, hsz, hP, hK, hD0, hT⟩ := hv
  have hx := B.exec
  have hb := B.bytes
  have hr := B.returns
  have htb : ∀ w ∈ TB, w.before args s = true := fun w h => atoms_spec (ws := Cond.code yX3_keptRules cX3_keptRules 3 (some .int) :: TB) B.pre w (List.mem_cons_of_mem _ h)
  have hown : s.vm.findClass "ManyEyes$Flyer" = some m.cls := findClass_of_methodNamed B.named
  have hlocks := B.notSynchronized
  subst hsz
  have hD := hD0.self (sz := s.heap.size)
  generalize hAe : va_A (WS_X3_keptRules cI cJ cZ cY a0 a1 a1_stack a1_letters a2 a2_view a2_rays a3 a3_codes r3_flight a4 a4_rows a4_takes a5 a5_lensSide a5_lensWidth a5_pairA a5_pairB a5_pairDelay a6 a6_x a6_y a6_head a6_size a6_turns a7 a7_own a7_bodyX a7_bodyY a7_bodyWayX a7_bodyWayY a7_bodyMark v0 v1 v2 v3 v4 v5 v6 v7 ++ PL cI v8) s.heap.size = A at hD hT ⊢
  have hA : ∀ q : Nat, s.heap.size ≤ q → A q := fun q h => by rw [← hAe]; exact Or.inr h
  have hS : va_S A s.heap s.heap [] := va_S.rf
  have hl := lv_entry ([.ref a0]) (n := 3) (Nat.le_of_ble_eq_true rfl)
  have he : entryFrame m args 3 = F0 m 0 (lg_sl ([.ref a0]) ++ List.replicate (3 - (lg_sl ([.ref a0])).length) Slot.unset).toArray [] := by rw [hargs, lg_entry_eq]
  rw [he]
  generalize (lg_sl ([.ref a0]) ++ List.replicate (3 - (lg_sl ([.ref a0])).length) Slot.unset).toArray = ls at hl ⊢
  have hl : lv_has ls 3 [(0, .ref a0)] := hl
  show W p l e rm_X3_keptRules s m args below meth c s.heap [] 0 0 _ _
  refine W.genQ (fun Q hQ => ?_)
  have b_29 : ∀ (J4 : (Int32 × Int32 × BX6 × BX7 × BX2) → Option (Int32 × BX6 × BX7 × BX2)) (hJ4 : ∀ (x1 : Int32) (x2 : Int32) (v1 : BX6) (v2 : BX7) (v4 : BX2) (H : Heap) (locs : List Loc) (ls : Array Slot), va_P D vwCl (WS_X3_keptRules cI cJ cZ cY a0 a1 a1_stack a1_letters a2 a2_view a2_rays a3 a3_codes r3_flight a4 a4_rows a4_takes a5 a5_lensSide a5_lensWidth a5_pairA a5_pairB a5_pairDelay a6 a6_x a6_y a6_head a6_size a6_turns a7 a7_own a7_bodyX a7_bodyY a7_bodyWayX a7_bodyWayY a7_bodyMark v0 v1 v2 v3 v4 v5 v6 v7 ++ PL cI v8) H → va_D A (WS_X3_keptRules cI cJ cZ cY a0 a1 a1_stack a1_letters a2 a2_view a2_rays a3 a3_codes r3_flight a4 a4_rows a4_takes a5 a5_lensSide a5_lensWidth a5_pairA a5_pairB a5_pairDelay a6 a6_x a6_y a6_head a6_size a6_turns a7 a7_own a7_bodyX a7_bodyY a7_bodyWayX a7_bodyWayY a7_bodyMark v0 v1 v2 v3 v4 v5 v6 v7 ++ PL cI v8) → va_S A s.heap H locs → lv_has ls 3 [(0, .ref a0), (1, .int x1), (2, .int x2)] → J4 (x1, x2, v1, v2, v4) = some res → W p l e rm_X3_keptRules s m args below meth c H locs 0 0 Q (F0 m 4 ls [])), ∀ (x1 : Int32) (x2 : Int32) (v1 : BX6) (v2 : BX7) (v4 : BX2) (H : Heap) (locs : List Loc) (ls : Array Slot), va_P D vwCl (WS_X3_keptRules cI cJ cZ cY a0 a1 a1_stack a1_letters a2 a2_view a2_rays a3 a3_codes r3_flight a4 a4_rows a4_takes a5 a5_lensSide a5_lensWidth a5_pairA a5_pairB a5_pairDelay a6 a6_x a6_y a6_head a6_size a6_turns a7 a7_own a7_bodyX a7_bodyY a7_bodyWayX a7_bodyWayY a7_bodyMark v0 v1 v2 v3 v4 v5 v6 v7 ++ PL cI v8) H → va_D A (WS_X3_keptRules cI cJ cZ cY a0 a1 a1_stack a1_letters a2 a2_view a2_rays a3 a3_codes r3_flight a4 a4_rows a4_takes a5 a5_lensSide a5_lensWidth a5_pairA a5_pairB a5_pairDelay a6 a6_x a6_y a6_head a6_size a6_turns a7 a7_own a7_bodyX a7_bodyY a7_bodyWayX a7_bodyWayY a7_bodyMark v0 v1 v2 v3 v4 v5 v6 v7 ++ PL cI v8) → va_S A s.heap H locs → lv_has ls 3 [(0, .ref a0), (1, .int x1), (2, .int x2)] → f_X3_keptRules_b29 v0 v3 v5 v6 v7 v8 J4 x1 x2 v1 v2 v4 = some res → W p l e rm_X3_keptRules s m args below meth c H locs 0 0 Q (F0 m 29 ls []) := by
    intro J4 hJ4 x1 x2 v1 v2 v4 H locs ls hP hD hS hl hg
    unfold f_X3_keptRules_b29 at hg
    obtain ⟨x2_1, ex2_1⟩ : ∃ z : Int32, z = x2 + 1 := ⟨_, rfl⟩
    have hg := g_lte hg x2_1 ex2_1
    refine lv_iinc (v := x2_1) (lv' := [(2, .int x2_1), (0, .ref a0), (1, .int x1)]) hx hb dX3_keptRules_29 hl (k := 2) rfl (by rw [ex2_1]; rfl) (by decide) rfl (fun ls hl => ?_)
    refine lv_goto (tgt := 4) hx hb dX3_keptRules_32 (by decide) ?_
    exact hJ4 x1 x2_1 v1 v2 v4 H locs ls hP hD hS (lv_sub hl [1, 2, 0] rfl) hg
  have b_4 : ∀ (n : Nat), ∀ (x1 : Int32) (x2 : Int32) (v1 : BX6) (v2 : BX7) (v4 : BX2) (H : Heap) (locs : List Loc) (ls : Array Slot), va_P D vwCl (WS_X3_keptRules cI cJ cZ cY a0 a1 a1_stack a1_letters a2 a2_view a2_rays a3 a3_codes r3_flight a4 a4_rows a4_takes a5 a5_lensSide a5_lensWidth a5_pairA a5_pairB a5_pairDelay a6 a6_x a6_y a6_head a6_size a6_turns a7 a7_own a7_bodyX a7_bodyY a7_bodyWayX a7_bodyWayY a7_bodyMark v0 v1 v2 v3 v4 v5 v6 v7 ++ PL cI v8) H → va_D A (WS_X3_keptRules cI cJ cZ cY a0 a1 a1_stack a1_letters a2 a2_view a2_rays a3 a3_codes r3_flight a4 a4_rows a4_takes a5 a5_lensSide a5_lensWidth a5_pairA a5_pairB a5_pairDelay a6 a6_x a6_y a6_head a6_size a6_turns a7 a7_own a7_bodyX a7_bodyY a7_bodyWayX a7_bodyWayY a7_bodyMark v0 v1 v2 v3 v4 v5 v6 v7 ++ PL cI v8) → va_S A s.heap H locs → lv_has ls 3 [(0, .ref a0), (1, .int x1), (2, .int x2)] → f_X3_keptRules_b4 v0 v3 v5 v6 v7 v8 n (x1, x2, v1, v2, v4) = some res → W p l e rm_X3_keptRules s m args below meth c H locs 0 0 Q (F0 m 4 ls []) := by
    intro n
    induction n with
    | zero =>
      intro x1 x2 v1 v2 v4 H locs ls hP hD hS hl hg
      exact (g_lp0 hg).elim
    | succ n ih =>
      intro x1 x2 v1 v2 v4 H locs ls hP hD hS hl hg
      have hg : f_X3_keptRules_b4B v0 v3 v5 v6 v7 v8 (f_X3_keptRules_b4 v0 v3 v5 v6 v7 v8 n) x1 x2 v1 v2 v4 = some res := hg
      unfold f_X3_keptRules_b4B at hg
      refine lv_iload_n hx hb dX3_keptRules_4 rfl (lv_at hl 2 rfl) ?_
      refine lv_aload_n hx hb dX3_keptRules_5 rfl (lv_at hl 0 rfl) ?_
      refine va_get (ci := 2) (v := .ref a3) (C := RX3) (T := TX3) (N := 4) hx hb htb uX3 hown hK.1 hP 0 rfl rfl 0 (by decide) (htb _ tg_332) (fun _ h9 => h9) rfl dX3_keptRules_6 ?_
      refine va_get (ci := 7) (v := .int (pX8_rules v3)) (C := RX8) (T := TX8) (N := 6) hx hb htb uX8 hown hK.1 hP 7 rfl rfl 5 (by decide) (htb _ tg_247) (fun _ h9 => h9) rfl dX3_keptRules_9 ?_
      refine lv_icmp_ge (tgt := 35) hx hb dX3_keptRules_12 (by decide) (fun c_2 => ?_) (fun c_2 => ?_)
      · have hg := g_it hg c_2
        refine lv_iload_n hx hb dX3_keptRules_35 rfl (lv_at hl 1 rfl) ?_
        have hg := Option.some.inj hg
        rw [hQ]
        exact W.iret (v := x1) hx hb hr (fun t ht hW => ⟨⟨x1, (v1, v2, v4), rfl, ⟨by rw [← hg], by rw [← hg]⟩, by rw [ht]; exact hP, hD⟩, hS.F ht⟩) hS.2.2 dX3_keptRules_36
      · have hg := g_if hg c_2
        refine lv_aload_n hx hb dX3_keptRules_15 rfl (lv_at hl 0 rfl) ?_
        refine lv_iload_n hx hb dX3_keptRules_16 rfl (lv_at hl 2 rfl) ?_
        obtain ⟨r_3, hr_3, hg⟩ := g_bd hg
        refine cc_iP (va_runV (C := RX3) (As := [.int x2]) (rest := []) ⟨hx, hb, hml, hown, htb⟩ (k_X3_keepsAll a0 a1 a1_stack a1_letters a2 a2_view a2_rays a3 a3_codes r3_flight a4 a4_rows a4_takes a5 a5_lensSide a5_lensWidth a5_pairA a5_pairB a5_pairDelay a6 a6_x a6_y a6_head a6_size a6_turns a7 a7_own a7_bodyX a7_bodyY a7_bodyWayX a7_bodyWayY a7_bodyMark v0 v1 v2 v3 v4 v5 v6 v7 v8 x2 r_3 hr_3) (cw_V 1 htb tg_859 tg_9 tg_865 tg_857 tg_858 rfl rfl (by decide +kernel) ⟨Nat.le_of_ble_eq_true rfl, Nat.le_of_ble_eq_true rfl⟩) ⟨PC.blind, va_recv hK.1 hP (ci := 2) (q0 := 0) rfl rfl, PC.preP hK hT hP hD hS hA [0, 1, 2, 3, 4, 5, 6, 7, 8, 9, 10, 11, 12, 13, 14, 15, 16, 17, 18, 19, 20, 21, 22, 23, 24, 25, 26, 27, 28, 29, 30] rfl (by decide)⟩ rfl rfl hl.1 rfl (lv_room (Nat.le_of_ble_eq_true rfl)) dX3_keptRules_17 ⟨Nat.le_of_ble_eq_true rfl, Nat.le_of_ble_eq_true rfl⟩) hP hD hS hA [0, 1, 2, 3, 4, 5, 6, 7, 8, 9, 10, 11, 12, 13, 14, 15, 16, 17, 18, 19, 20, 21, 22, 23, 24, 25, 26, 27, 28, 29, 30] [] rfl rfl (by decide) (by decide) (fun r9 u9 H locs hw hP hD hS => ?_)
        obtain ⟨rfl, rfl⟩ := hw
        have hP : va_P D vwCl (WS_X3_keptRules cI cJ cZ cY a0 a1 a1_stack a1_letters a2 a2_view a2_rays a3 a3_codes r3_flight a4 a4_rows a4_takes a5 a5_lensSide a5_lensWidth a5_pairA a5_pairB a5_pairDelay a6 a6_x a6_y a6_head a6_size a6_turns a7 a7_own a7_bodyX a7_bodyY a7_bodyWayX a7_bodyWayY a7_bodyMark v0 r_3.2.1 r_3.2.2.1 v3 r_3.2.2.2 v5 v6 v7 ++ PL cI v8) H := hP.by _ (va_part (cx := WS_X3_keptRules cI cJ cZ cY a0 a1 a1_stack a1_letters a2 a2_view a2_rays a3 a3_codes r3_flight a4 a4_rows a4_takes a5 a5_lensSide a5_lensWidth a5_pairA a5_pairB a5_pairDelay a6 a6_x a6_y a6_head a6_size a6_turns a7 a7_own a7_bodyX a7_bodyY a7_bodyWayX a7_bodyWayY a7_bodyMark v0 r_3.2.1 r_3.2.2.1 v3 r_3.2.2.2 v5 v6 v7) [0, 1, 2, 3, 4, 5, 6, 7, 8, 9, 10, 11, 12, 13, 14, 15, 16, 17, 18, 19, 20, 21, 22, 23, 24, 25, 26, 27, 28, 29, 30] rfl)
        have hD : va_D A (WS_X3_keptRules cI cJ cZ cY a0 a1 a1_stack a1_letters a2 a2_view a2_rays a3 a3_codes r3_flight a4 a4_rows a4_takes a5 a5_lensSide a5_lensWidth a5_pairA a5_pairB a5_pairDelay a6 a6_x a6_y a6_head a6_size a6_turns a7 a7_own a7_bodyX a7_bodyY a7_bodyWayX a7_bodyWayY a7_bodyMark v0 r_3.2.1 r_3.2.2.1 v3 r_3.2.2.2 v5 v6 v7 ++ PL cI v8) := hD.part (cx := WS_X3_keptRules cI cJ cZ cY a0 a1 a1_stack a1_letters a2 a2_view a2_rays a3 a3_codes r3_flight a4 a4_rows a4_takes a5 a5_lensSide a5_lensWidth a5_pairA a5_pairB a5_pairDelay a6 a6_x a6_y a6_head a6_size a6_turns a7 a7_own a7_bodyX a7_bodyY a7_bodyWayX a7_bodyWayY a7_bodyMark v0 r_3.2.1 r_3.2.2.1 v3 r_3.2.2.2 v5 v6 v7) [0, 1, 2, 3, 4, 5, 6, 7, 8, 9, 10, 11, 12, 13, 14, 15, 16, 17, 18, 19, 20, 21, 22, 23, 24, 25, 26, 27, 28, 29, 30] (by decide) rfl
        refine lv_if_eq (tgt := 29) hx hb dX3_keptRules_20 (by decide) (fun c_4 => ?_) (fun c_4 => ?_)
        · have hg := g_it hg c_4
          exact b_29 (f_X3_keptRules_b4 v0 v3 v5 v6 v7 v8 n) ih x1 x2 r_3.2.1 r_3.2.2.1 r_3.2.2.2 H locs ls hP hD hS (lv_sub hl [0, 1, 2] rfl) hg
        · have hg := g_if hg c_4
          refine lv_iload_n hx hb dX3_keptRules_23 rfl (lv_at hl 1 rfl) ?_
          refine lv_iconst (v := 1) hx hb dX3_keptRules_24 (by decide) ?_
          refine lv_iload_n hx hb dX3_keptRules_25 rfl (lv_at hl 2 rfl) ?_
          refine lv_ishl hx hb dX3_keptRules_26 ?_
          refine lv_ior hx hb dX3_keptRules_27 ?_
          refine lv_topi (fun x1_5 ex1_5 => ?_)
          have hg := g_lte hg x1_5 ex1_5
          refine lv_istore_n (lv' := [(1, .int x1_5), (0, .ref a0), (2, .int x2)]) hx hb dX3_keptRules_28 rfl hl (by decide) rfl (fun ls hl => ?_)
          exact b_29 (f_X3_keptRules_b4 v0 v3 v5 v6 v7 v8 n) ih x1_5 x2 r_3.2.1 r_3.2.2.1 r_3.2.2.2 H locs ls hP hD hS (lv_sub hl [1, 0, 2] rfl) hg
  generalize hHe : s.heap = H at hP ⊢
  have hS : va_S A s.heap H [] := by rw [← hHe]; exact va_S.rf
  generalize ([] : List Loc) = locs at hS ⊢
  unfold f_X3_keptRules at hg
  refine lv_iconst (v := 0) hx hb dX3_keptRules_0 (by decide) ?_
  refine lv_istore_n (lv' := [(1, .int 0), (0, .ref a0)]) hx hb dX3_keptRules_1 rfl hl (by decide) rfl (fun ls hl => ?_)
  refine lv_iconst (v := 0) hx hb dX3_keptRules_2 (by decide) ?_
  refine lv_istore_n (lv' := [(2, .int 0), (1, .int 0), (0, .ref a0)]) hx hb dX3_keptRules_3 rfl hl (by decide) rfl (fun ls hl => ?_)
  exact b_4 fU 0 0 v1 v2 v4 H locs ls hP hD hS (lv_sub hl [2, 1, 0] rfl) hg

/-! ManyEyes.kept(I)I -/
def WS_X11_kept (cI cJ cZ cY : ClassId) (a0 a0_tape a0_firstTakes r0_saved r0_parser a1 a2 a2_codes r2_flight a3 a3_view a3_rays a4 a4_stack a4_letters a5 a5_rows a5_takes a6 a6_lensSide a6_lensWidth a6_pairA a6_pairB a6_pairDelay a7 a7_x a7_y a7_head a7_size a7_turns a8 a8_own a8_bodyX a8_bodyY a8_bodyWayX a8_bodyWayY a8_bodyMark : Nat) (v0 : BX11) (v1 : BX3) (v2 : BX8) (v3 : BX7) (v4 : BX6) (v5 : BX2) (v6 : BX1) (v7 : BX5) (v8 : BX10) : va_W := (GX11o cI cJ cZ cY a0 a0_tape a0_firstTakes a2 r0_saved a3 a1 r0_parser v0) ++ ((GX3 cI cJ cZ cY a1 a2 a3 a4 a5 v1) ++ ((GX8 cI cJ cZ cY a2 a2_codes a8 a6 a7 r2_flight v2) ++ ((GX7 cI cJ cZ cY a3 a3_view a3_rays a8 v3) ++ ((GX6 cI cJ cZ cY a4 a4_stack a4_letters a6 v4) ++ ((GX2 cI cJ cZ cY a5 a5_rows a5_takes v5) ++ ((GX1 cI cJ cZ cY a6 a6_lensSide a6_lensWidth a6_pairA a6_pairB a6_pairDelay v6) ++ ((GX5 cI cJ cZ cY a7 a7_x a7_y a7_head a7_size a7_turns v7) ++ ((GX10 cI cJ cZ cY a8 a8_own a8_bodyX a8_bodyY a8_bodyWayX a8_bodyWayY a8_bodyMark v8)))))))))
def f_X11_kept (v0 : BX11) (v1 : BX3) (v2 : BX8) (v3 : BX7) (v4 : BX6) (v5 : BX2) (v6 : BX1) (v7 : BX5) (v8 : BX10) (v9 : PB) (p0 : Int32) : Option (Int32 × BX7 × BX6 × BX2) := (f_X3_bindTo v1 v4 1000000).bind (fun r_1 => (f_X8_isRule v2 p0).bind (fun r_2 => if (r_2 : Int32) = 0 then (if (p0 : Int32) = (-1) then ((f_X3_keptRules v1 r_1 v3 v2 v5 v6 v7 v8 v9).bind (fun r_5 => (f_J6_bitCount_0f7a4 r_5.1).bind (fun r_6 => some (r_6, r_5.2.2.1, r_5.2.1, r_5.2.2.2)))) else (some ((-1), v3, r_1, v5))) else ((f_X3_keepsAll v1 r_1 v3 v2 v5 v6 v7 v8 v9 p0).bind (fun r_7 => if (r_7.1 : Int32) = 0 then (some (0, r_7.2.2.1, r_7.2.1, r_7.2.2.2)) else (some (1, r_7.2.2.1, r_7.2.1, r_7.2.2.2))))))
abbrev rm_X11_kept : Room := { frames := 7, cells := 0, slots := 0, locals := 182 }
set_option maxHeartbeats 4000000 in
set_option maxRecDepth 100000 in
theorem k_X11_kept {l : Launch} {D : va_G} {cI cJ cZ cY : ClassId} {tX tY : Nat} {sz : Nat} (a0 a0_tape a0_firstTakes r0_saved r0_parser a1 a2 a2_codes r2_flight a3 a3_view a3_rays a4 a4_stack a4_letters a5 a5_rows a5_takes a6 a6_lensSide a6_lensWidth a6_pairA a6_pairB a6_pairDelay a7 a7_x a7_y a7_head a7_size a7_turns a8 a8_own a8_bodyX a8_bodyY a8_bodyWayX a8_bodyWayY a8_bodyMark : Nat) (v0 : BX11) (v1 : BX3) (v2 : BX8) (v3 : BX7) (v4 : BX6) (v5 : BX2) (v6 : BX1) (v7 : BX5) (v8 : BX10) (v9 : PB) (p0 : Int32) (res : Int32 × BX7 × BX6 × BX2) (hg : f_X11_kept v0 v1 v2 v3 v4 v5 v6 v7 v8 v9 p0 = some res) : Met l yX11_kept (Cond.code yX11_kept cX11_kept 2 (some .int) :: TB) rm_X11_kept (PC D cI cJ cZ cY tX tY [.ref a0, .int p0] (WS_X11_kept cI cJ cZ cY a0 a0_tape a0_firstTakes r0_saved r0_parser a1 a2 a2_codes r2_flight a3 a3_view a3_rays a4 a4_stack a4_letters a5 a5_rows a5_takes a6 a6_lensSide a6_lensWidth a6_pairA a6_pairB a6_pairDelay a7 a7_x a7_y a7_head a7_size a7_turns a8 a8_own a8_bodyX a8_bodyY a8_bodyWayX a8_bodyWayY a8_bodyMark v0 v1 v2 v3 v4 v5 v6 v7 v8 ++ PL cI v9) sz) (va_Qi (fun (r : Int32) (u : BX7 × BX6 × BX2) => r = res.1 ∧ u = res.2) (BC D (fun u : BX7 × BX6 × BX2 => WS_X11_kept cI cJ cZ cY a0 a0_tape a0_firstTakes r0_saved r0_parser a1 a2 a2_codes r2_flight a3 a3_view a3_rays a4 a4_stack a4_letters a5 a5_rows a5_takes a6 a6_lensSide a6_lensWidth a6_pairA a6_pairB a6_pairDelay a7 a7_x a7_y a7_head a7_size a7_turns a8 a8_own a8_bodyX a8_bodyY a8_bodyWayX a8_bodyWayY a8_bodyMark v0 v1 v2 u.1 u.2.1 u.2.2 v6 v7 v8 ++ PL cI v9) (va_A (WS_X11_kept cI cJ cZ cY a0 a0_tape a0_firstTakes r0_saved r0_parser a1 a2 a2_codes r2_flight a3 a3_view a3_rays a4 a4_stack a4_letters a5 a5_rows a5_takes a6 a6_lensSide a6_lensWidth a6_pairA a6_pairB a6_pairDelay a7 a7_x a7_y a7_head a7_size a7_turns a8 a8_own a8_bodyX a8_bodyY a8_bodyWayX a8_bodyWayY a8_bodyMark v0 v1 v2 v3 v4 v5 v6 v7 v8 ++ PL cI v9) sz)) (va_A (WS_X11_kept cI cJ cZ cY a0 a0_tape a0_firstTakes r0_saved r0_parser a1 a2 a2_codes r2_flight a3 a3_view a3_rays a4 a4_stack a4_letters a5 a5_rows a5_takes a6 a6_lensSide a6_lensWidth a6_pairA a6_pairB a6_pairDelay a7 a7_x a7_y a7_head a7_size a7_turns a8 a8_own a8_bodyX a8_bodyY a8_bodyWayX a8_bodyWayY a8_bodyMark v0 v1 v2 v3 v4 v5 v6 v7 v8 ++ PL cI v9) sz)) 0 0 (va_A (WS_X11_kept cI cJ cZ cY a0 a0_tape a0_firstTakes r0_saved r0_parser a1 a2 a2_codes r2_flight a3 a3_view a3_rays a4 a4_stack a4_letters a5 a5_rows a5_takes a6 a6_lensSide a6_lensWidth a6_pairA a6_pairB a6_pairDelay a7 a7_x a7_y a7_head a7_size a7_turns a8 a8_own a8_bodyX a8_bodyY a8_bodyWayX a8_bodyWayY a8_bodyMark v0 v1 v2 v3 v4 v5 v6 v7 v8 ++ PL cI v9) sz) := by
  refine Met.ofW (cc := cX11_kept) (maxL := 2) (ret := (some .int)) (by decide) rfl ?_
  intro p e s m args below meth c s₁ B hml hv
  obtain ⟨hargs, hsz, hP, hK, hD0, hT⟩ := hv
  have hx := B.exec
  have hb := B.bytes
  have hr := B.returns
  have htb : ∀ w ∈ TB, w.before args s = true := fun w h => atoms_spec (ws := Cond.code yX11_kept cX11_kept 2 (some .int) :: TB) B.pre w (List.mem_cons_of_mem _ h)
  have hown : s.vm.findClass "ManyEyes" = some m.cls := findClass_of_methodNamed B.named
  have hlocks := B.notSynchronized
  subst hsz
  have hD := hD0.self (sz := s.heap.size)
  generalize hAe : va_A (WS_X11_kept cI cJ cZ cY a0 a0_tape a0_firstTakes r0_saved r0_parser a1 a2 a2_codes r2_flight a3 a3_view a3_rays a4 a4_stack a4_letters a5 a5_rows a5_takes a6 a6_lensSide a6_lensWidth a6_pairA a6_pairB a6_pairDelay a7 a7_x a7_y a7_head a7_size a7_turns a8 a8_own a8_bodyX a8_bodyY a8_bodyWayX a8_bodyWayY a8_bodyMark v0 v1 v2 v3 v4 v5 v6 v7 v8 ++ PL cI v9) s.heap.size = A at hD hT ⊢
  have hA : ∀ q : Nat, s.heap.size ≤ q → A q := fun q h => by rw [← hAe]; exact Or.inr h
  have hS : va_S A s.heap s.heap [] := va_S.rf
  have hl := lv_entry ([.ref a0, .int p0]) (n := 2) (Nat.le_of_ble_eq_true rfl)
  have he : entryFrame m args 2 = F0 m 0 (lg_sl ([.ref a0, .int p0]) ++ List.replicate (2 - (lg_sl ([.ref a0, .int p0])).length) Slot.unset).toArray [] := by rw [hargs, lg_entry_eq]
  rw [he]
  generalize (lg_sl ([.ref a0, .int p0]) ++ List.replicate (2 - (lg_sl ([.ref a0, .int p0])).length) Slot.unset).toArray = ls at hl ⊢
  have hl : lv_has ls 2 [(0, .ref a0), (1, .int p0)] := hl
  show W p l e rm_X11_kept s m args below meth c s.heap [] 0 0 _ _
  refine W.genQ (fun Q hQ => ?_)
  generalize hHe : s.heap = H at hP ⊢
  have hS : va_S A s.heap H [] := by rw [← hHe]; exact va_S.rf
  generalize ([] : List Loc) = locs at hS ⊢
  unfold f_X11_kept at hg
  refine lv_aload_n hx hb dX11_kept_0 rfl (lv_at hl 0 rfl) ?_
  refine va_get (ci := 10) (v := .ref a1) (C := RX11) (T := TX11) (N := 9) hx hb htb uX11 hown hK.1 hP 0 rfl rfl 3 (by decide) (htb _ tg_415) (fun _ h9 => h9) rfl dX11_kept_1 ?_
  refine lv_ldc (v := 1000000) hx hb hown (htb _ tg_744) dX11_kept_4 ?_
  obtain ⟨r_1, hr_1, hg⟩ := g_bd hg
  refine cc_vQ (va_runV (C := RX3) (As := [.int 1000000]) (rest := []) ⟨hx, hb, hml, hown, htb⟩ (k_X3_bindTo a1 a2 a3 a5 a4 a4_stack a4_letters a6 v1 v4 1000000 r_1 hr_1) (cw_V 1 htb tg_748 tg_9 tg_745 tg_746 tg_747 rfl rfl (by decide +kernel) ⟨Nat.le_of_ble_eq_true rfl, Nat.le_of_ble_eq_true rfl⟩) ⟨PC.blind, va_recv hK.1 hP (ci := 2) (q0 := 1) rfl rfl, PC.pre hK hT hP hD hS hA [1, 7, 8, 9] rfl (by decide)⟩ rfl rfl hl.1 rfl (lv_room (Nat.le_of_ble_eq_true rfl)) dX11_kept_6 ⟨Nat.le_of_ble_eq_true rfl, Nat.le_of_ble_eq_true rfl⟩) hP hD hS hA [1, 7, 8, 9] [0, 2, 3, 4, 5, 6, 10, 11, 12, 13, 14, 15, 16, 17, 18, 19, 20, 21, 22, 23, 24, 25, 26, 27, 28, 29, 30, 31] rfl rfl (by decide) (by decide) rfl (fun u9 H locs hw hP hD hS => ?_)
  have hw := hw.symm
  subst hw
  have hP : va_P D vwCl (WS_X11_kept cI cJ cZ cY a0 a0_tape a0_firstTakes r0_saved r0_parser a1 a2 a2_codes r2_flight a3 a3_view a3_rays a4 a4_stack a4_letters a5 a5_rows a5_takes a6 a6_lensSide a6_lensWidth a6_pairA a6_pairB a6_pairDelay a7 a7_x a7_y a7_head a7_size a7_turns a8 a8_own a8_bodyX a8_bodyY a8_bodyWayX a8_bodyWayY a8_bodyMark v0 v1 v2 v3 r_1 v5 v6 v7 v8 ++ PL cI v9) H := hP.by _ (va_part (cx := WS_X11_kept cI cJ cZ cY a0 a0_tape a0_firstTakes r0_saved r0_parser a1 a2 a2_codes r2_flight a3 a3_view a3_rays a4 a4_stack a4_letters a5 a5_rows a5_takes a6 a6_lensSide a6_lensWidth a6_pairA a6_pairB a6_pairDelay a7 a7_x a7_y a7_head a7_size a7_turns a8 a8_own a8_bodyX a8_bodyY a8_bodyWayX a8_bodyWayY a8_bodyMark v0 v1 v2 v3 r_1 v5 v6 v7 v8) [0, 28, 1, 2, 3, 4, 5, 29, 30, 31, 6, 7, 8, 9, 10, 11, 12, 13, 14, 15, 16, 17, 18, 19, 20, 21, 22, 23, 24, 25, 26, 27] rfl)
  have hD : va_D A (WS_X11_kept cI cJ cZ cY a0 a0_tape a0_firstTakes r0_saved r0_parser a1 a2 a2_codes r2_flight a3 a3_view a3_rays a4 a4_stack a4_letters a5 a5_rows a5_takes a6 a6_lensSide a6_lensWidth a6_pairA a6_pairB a6_pairDelay a7 a7_x a7_y a7_head a7_size a7_turns a8 a8_own a8_bodyX a8_bodyY a8_bodyWayX a8_bodyWayY a8_bodyMark v0 v1 v2 v3 r_1 v5 v6 v7 v8 ++ PL cI v9) := hD.part (cx := WS_X11_kept cI cJ cZ cY a0 a0_tape a0_firstTakes r0_saved r0_parser a1 a2 a2_codes r2_flight a3 a3_view a3_rays a4 a4_stack a4_letters a5 a5_rows a5_takes a6 a6_lensSide a6_lensWidth a6_pairA a6_pairB a6_pairDelay a7 a7_x a7_y a7_head a7_size a7_turns a8 a8_own a8_bodyX a8_bodyY a8_bodyWayX a8_bodyWayY a8_bodyMark v0 v1 v2 v3 r_1 v5 v6 v7 v8) [0, 28, 1, 2, 3, 4, 5, 29, 30, 31, 6, 7, 8, 9, 10, 11, 12, 13, 14, 15, 16, 17, 18, 19, 20, 21, 22, 23, 24, 25, 26, 27] (by decide) rfl
  refine lv_aload_n hx hb dX11_kept_9 rfl (lv_at hl 0 rfl) ?_
  refine va_get (ci := 10) (v := .ref a2) (C := RX11) (T := TX11) (N := 9) hx hb htb uX11 hown hK.1 hP 0 rfl rfl 0 (by decide) (htb _ tg_412) (fun _ h9 => h9) rfl dX11_kept_10 ?_
  refine lv_iload_n hx hb dX11_kept_13 rfl (lv_at hl 1 rfl) ?_
  obtain ⟨r_2, hr_2, hg⟩ := g_bd hg
  refine cc_iQ (va_runV (C := RX8) (As := [.int p0]) (rest := []) ⟨hx, hb, hml, hown, htb⟩ (k_X8_isRule a2 a2_codes a8 a6 a7 r2_flight v2 p0 r_2 hr_2) (cw_V 1 htb tg_736 tg_2 tg_733 tg_734 tg_735 rfl rfl (by decide +kernel) ⟨Nat.le_of_ble_eq_true rfl, Nat.le_of_ble_eq_true rfl⟩) ⟨PC.blind, va_recv hK.1 hP (ci := 7) (q0 := 2) rfl rfl, PC.pre hK hT hP hD hS hA [2, 3] rfl (by decide)⟩ rfl rfl hl.1 rfl (lv_room (Nat.le_of_ble_eq_true rfl)) dX11_kept_14 ⟨Nat.le_of_ble_eq_true rfl, Nat.le_of_ble_eq_true rfl⟩) hP hD hS hA [2, 3] [0, 1, 4, 5, 6, 7, 8, 9, 10, 11, 12, 13, 14, 15, 16, 17, 18, 19, 20, 21, 22, 23, 24, 25, 26, 27, 28, 29, 30, 31] rfl rfl (by decide) (by decide) rfl (fun r9 u9 H locs hw hP hD hS => ?_)
  have hw := hw.symm
  subst hw
  have hP : va_P D vwCl (WS_X11_kept cI cJ cZ cY a0 a0_tape a0_firstTakes r0_saved r0_parser a1 a2 a2_codes r2_flight a3 a3_view a3_rays a4 a4_stack a4_letters a5 a5_rows a5_takes a6 a6_lensSide a6_lensWidth a6_pairA a6_pairB a6_pairDelay a7 a7_x a7_y a7_head a7_size a7_turns a8 a8_own a8_bodyX a8_bodyY a8_bodyWayX a8_bodyWayY a8_bodyMark v0 v1 v2 v3 r_1 v5 v6 v7 v8 ++ PL cI v9) H := hP.by _ (va_part (cx := WS_X11_kept cI cJ cZ cY a0 a0_tape a0_firstTakes r0_saved r0_parser a1 a2 a2_codes r2_flight a3 a3_view a3_rays a4 a4_stack a4_letters a5 a5_rows a5_takes a6 a6_lensSide a6_lensWidth a6_pairA a6_pairB a6_pairDelay a7 a7_x a7_y a7_head a7_size a7_turns a8 a8_own a8_bodyX a8_bodyY a8_bodyWayX a8_bodyWayY a8_bodyMark v0 v1 v2 v3 r_1 v5 v6 v7 v8) [0, 1, 30, 31, 2, 3, 4, 5, 6, 7, 8, 9, 10, 11, 12, 13, 14, 15, 16, 17, 18, 19, 20, 21, 22, 23, 24, 25, 26, 27, 28, 29] rfl)
  have hD : va_D A (WS_X11_kept cI cJ cZ cY a0 a0_tape a0_firstTakes r0_saved r0_parser a1 a2 a2_codes r2_flight a3 a3_view a3_rays a4 a4_stack a4_letters a5 a5_rows a5_takes a6 a6_lensSide a6_lensWidth a6_pairA a6_pairB a6_pairDelay a7 a7_x a7_y a7_head a7_size a7_turns a8 a8_own a8_bodyX a8_bodyY a8_bodyWayX a8_bodyWayY a8_bodyMark v0 v1 v2 v3 r_1 v5 v6 v7 v8 ++ PL cI v9) := hD.part (cx := WS_X11_kept cI cJ cZ cY a0 a0_tape a0_firstTakes r0_saved r0_parser a1 a2 a2_codes r2_flight a3 a3_view a3_rays a4 a4_stack a4_letters a5 a5_rows a5_takes a6 a6_lensSide a6_lensWidth a6_pairA a6_pairB a6_pairDelay a7 a7_x a7_y a7_head a7_size a7_turns a8 a8_own a8_bodyX a8_bodyY a8_bodyWayX a8_bodyWayY a8_bodyMark v0 v1 v2 v3 r_1 v5 v6 v7 v8) [0, 1, 30, 31, 2, 3, 4, 5, 6, 7, 8, 9, 10, 11, 12, 13, 14, 15, 16, 17, 18, 19, 20, 21, 22, 23, 24, 25, 26, 27, 28, 29] (by decide) rfl
  refine lv_if_eq (tgt := 37) hx hb dX11_kept_17 (by decide) (fun c_3 => ?_) (fun c_3 => ?_)
  · have hg := g_it hg c_3
    refine lv_iload_n hx hb dX11_kept_37 rfl (lv_at hl 1 rfl) ?_
    refine lv_iconst (v := (-1)) hx hb dX11_kept_38 (by decide) ?_
    refine lv_icmp_ne (tgt := 55) hx hb dX11_kept_39 (by decide) (fun c_4 => ?_) (fun c_4 => ?_)
    · have hg := g_if hg c_4
      refine lv_iconst (v := (-1)) hx hb dX11_kept_55 (by decide) ?_
      have hg := Option.some.inj hg
      rw [hQ]
      exact W.iret (v := (-1)) hx hb hr (fun t ht hW => ⟨⟨(-1), (v3, r_1, v5), rfl, ⟨by rw [← hg], by rw [← hg]⟩, by rw [ht]; exact hP, hD⟩, hS.F ht⟩) hS.2.2 dX11_kept_56
    · have hg := g_it hg c_4
      refine lv_aload_n hx hb dX11_kept_42 rfl (lv_at hl 0 rfl) ?_
      refine va_get (ci := 10) (v := .ref a1) (C := RX11) (T := TX11) (N := 9) hx hb htb uX11 hown hK.1 hP 0 rfl rfl 3 (by decide) (htb _ tg_415) (fun _ h9 => h9) rfl dX11_kept_43 ?_
      obtain ⟨r_5, hr_5, hg⟩ := g_bd hg
      refine cc_iP (va_runV (C := RX3) (As := []) (rest := []) ⟨hx, hb, hml, hown, htb⟩ (k_X3_keptRules a1 a4 a4_stack a4_letters a3 a3_view a3_rays a2 a2_codes r2_flight a5 a5_rows a5_takes a6 a6_lensSide a6_lensWidth a6_pairA a6_pairB a6_pairDelay a7 a7_x a7_y a7_head a7_size a7_turns a8 a8_own a8_bodyX a8_bodyY a8_bodyWayX a8_bodyWayY a8_bodyMark v1 r_1 v3 v2 v5 v6 v7 v8 v9 r_5 hr_5) (cw_V 0 htb tg_864 tg_9 tg_861 tg_862 tg_863 rfl rfl (by decide +kernel) ⟨Nat.le_of_ble_eq_true rfl, Nat.le_of_ble_eq_true rfl⟩) ⟨PC.blind, va_recv hK.1 hP (ci := 2) (q0 := 1) rfl rfl, PC.preP hK hT hP hD hS hA [1, 7, 8, 9, 4, 5, 6, 2, 3, 10, 11, 12, 13, 14, 15, 16, 17, 18, 19, 20, 21, 22, 23, 24, 25, 26, 27, 28, 29, 30, 31] rfl (by decide)⟩ rfl rfl hl.1 rfl (lv_room (Nat.le_of_ble_eq_true rfl)) dX11_kept_46 ⟨Nat.le_of_ble_eq_true rfl, Nat.le_of_ble_eq_true rfl⟩) hP hD hS hA [1, 7, 8, 9, 4, 5, 6, 2, 3, 10, 11, 12, 13, 14, 15, 16, 17, 18, 19, 20, 21, 22, 23, 24, 25, 26, 27, 28, 29, 30, 31] [0] rfl rfl (by decide) (by decide) (fun r9 u9 H locs hw hP hD hS => ?_)
      obtain ⟨rfl, rfl⟩ := hw
      have hP : va_P D vwCl (WS_X11_kept cI cJ cZ cY a0 a0_tape a0_firstTakes r0_saved r0_parser a1 a2 a2_codes r2_flight a3 a3_view a3_rays a4 a4_stack a4_letters a5 a5_rows a5_takes a6 a6_lensSide a6_lensWidth a6_pairA a6_pairB a6_pairDelay a7 a7_x a7_y a7_head a7_size a7_turns a8 a8_own a8_bodyX a8_bodyY a8_bodyWayX a8_bodyWayY a8_bodyMark v0 v1 v2 r_5.2.2.1 r_5.2.1 r_5.2.2.2 v6 v7 v8 ++ PL cI v9) H := hP.by _ (va_part (cx := WS_X11_kept cI cJ cZ cY a0 a0_tape a0_firstTakes r0_saved r0_parser a1 a2 a2_codes r2_flight a3 a3_view a3_rays a4 a4_stack a4_letters a5 a5_rows a5_takes a6 a6_lensSide a6_lensWidth a6_pairA a6_pairB a6_pairDelay a7 a7_x a7_y a7_head a7_size a7_turns a8 a8_own a8_bodyX a8_bodyY a8_bodyWayX a8_bodyWayY a8_bodyMark v0 v1 v2 r_5.2.2.1 r_5.2.1 r_5.2.2.2 v6 v7 v8) [0, 1, 8, 9, 5, 6, 7, 2, 3, 4, 10, 11, 12, 13, 14, 15, 16, 17, 18, 19, 20, 21, 22, 23, 24, 25, 26, 27, 28, 29, 30, 31] rfl)
      have hD : va_D A (WS_X11_kept cI cJ cZ cY a0 a0_tape a0_firstTakes r0_saved r0_parser a1 a2 a2_codes r2_flight a3 a3_view a3_rays a4 a4_stack a4_letters a5 a5_rows a5_takes a6 a6_lensSide a6_lensWidth a6_pairA a6_pairB a6_pairDelay a7 a7_x a7_y a7_head a7_size a7_turns a8 a8_own a8_bodyX a8_bodyY a8_bodyWayX a8_bodyWayY a8_bodyMark v0 v1 v2 r_5.2.2.1 r_5.2.1 r_5.2.2.2 v6 v7 v8 ++ PL cI v9) := hD.part (cx := WS_X11_kept cI cJ cZ cY a0 a0_tape a0_firstTakes r0_saved r0_parser a1 a2 a2_codes r2_flight a3 a3_view a3_rays a4 a4_stack a4_letters a5 a5_rows a5_takes a6 a6_lensSide a6_lensWidth a6_pairA a6_pairB a6_pairDelay a7 a7_x a7_y a7_head a7_size a7_turns a8 a8_own a8_bodyX a8_bodyY a8_bodyWayX a8_bodyWayY a8_bodyMark v0 v1 v2 r_5.2.2.1 r_5.2.1 r_5.2.2.2 v6 v7 v8) [0, 1, 8, 9, 5, 6, 7, 2, 3, 4, 10, 11, 12, 13, 14, 15, 16, 17, 18, 19, 20, 21, 22, 23, 24, 25, 26, 27, 28, 29, 30, 31] (by decide) rfl
      obtain ⟨r_6, hr_6, hg⟩ := g_bd hg
      refine cc_iQ (va_runS (As := [.int r_5.1]) (rest := []) ⟨hx, hb, hml, hown, htb⟩ (k_J6_bitCount_0f7a4 r_5.1 r_6 hr_6) (cw_S 1 htb tg_868 tg_16 tg_866 tg_867 rfl rfl (by decide +kernel) ⟨Nat.le_of_ble_eq_true rfl, Nat.le_of_ble_eq_true rfl⟩) ⟨PC.blind, PC.pre hK hT hP hD hS hA [] rfl (by decide)⟩ rfl rfl hl.1 rfl (lv_room (Nat.le_of_ble_eq_true rfl)) dX11_kept_49 ⟨Nat.le_of_ble_eq_true rfl, Nat.le_of_ble_eq_true rfl⟩) hP hD hS hA [] [0, 1, 2, 3, 4, 5, 6, 7, 8, 9, 10, 11, 12, 13, 14, 15, 16, 17, 18, 19, 20, 21, 22, 23, 24, 25, 26, 27, 28, 29, 30, 31] rfl rfl (by decide) (by decide) rfl (fun r9 u9 H locs hw hP hD hS => ?_)
      have hw := hw.symm
      subst hw
      have hP : va_P D vwCl (WS_X11_kept cI cJ cZ cY a0 a0_tape a0_firstTakes r0_saved r0_parser a1 a2 a2_codes r2_flight a3 a3_view a3_rays a4 a4_stack a4_letters a5 a5_rows a5_takes a6 a6_lensSide a6_lensWidth a6_pairA a6_pairB a6_pairDelay a7 a7_x a7_y a7_head a7_size a7_turns a8 a8_own a8_bodyX a8_bodyY a8_bodyWayX a8_bodyWayY a8_bodyMark v0 v1 v2 r_5.2.2.1 r_5.2.1 r_5.2.2.2 v6 v7 v8 ++ PL cI v9) H := hP.by _ (va_part (cx := WS_X11_kept cI cJ cZ cY a0 a0_tape a0_firstTakes r0_saved r0_parser a1 a2 a2_codes r2_flight a3 a3_view a3_rays a4 a4_stack a4_letters a5 a5_rows a5_takes a6 a6_lensSide a6_lensWidth a6_pairA a6_pairB a6_pairDelay a7 a7_x a7_y a7_head a7_size a7_turns a8 a8_own a8_bodyX a8_bodyY a8_bodyWayX a8_bodyWayY a8_bodyMark v0 v1 v2 r_5.2.2.1 r_5.2.1 r_5.2.2.2 v6 v7 v8) [0, 1, 2, 3, 4, 5, 6, 7, 8, 9, 10, 11, 12, 13, 14, 15, 16, 17, 18, 19, 20, 21, 22, 23, 24, 25, 26, 27, 28, 29, 30, 31] rfl)
      have hD : va_D A (WS_X11_kept cI cJ cZ cY a0 a0_tape a0_firstTakes r0_saved r0_parser a1 a2 a2_codes r2_flight a3 a3_view a3_rays a4 a4_stack a4_letters a5 a5_rows a5_takes a6 a6_lensSide a6_lensWidth a6_pairA a6_pairB a6_pairDelay a7 a7_x a7_y a7_head a7_size a7_turns a8 a8_own a8_bodyX a8_bodyY a8_bodyWayX a8_bodyWayY a8_bodyMark v0 v1 v2 r_5.2.2.1 r_5.2.1 r_5.2.2.2 v6 v7 v8 ++ PL cI v9) := hD.part (cx := WS_X11_kept cI cJ cZ cY a0 a0_tape a0_firstTakes r0_saved r0_parser a1 a2 a2_codes r2_flight a3 a3_view a3_rays a4 a4_stack a4_letters a5 a5_rows a5_takes a6 a6_lensSide a6_lensWidth a6_pairA a6_pairB a6_pairDelay a7 a7_x a7_y a7_head a7_size a7_turns a8 a8_own a8_bodyX a8_bodyY a8_bodyWayX a8_bodyWayY a8_bodyMark v0 v1 v2 r_5.2.2.1 r_5.2.1 r_5.2.2.2 v6 v7 v8) [0, 1, 2, 3, 4, 5, 6, 7, 8, 9, 10, 11, 12, 13, 14, 15, 16, 17, 18, 19, 20, 21, 22, 23, 24, 25, 26, 27, 28, 29, 30, 31] (by decide) rfl
      refine lv_goto (tgt := 56) hx hb dX11_kept_52 (by decide) ?_
      have hg := Option.some.inj hg
      rw [hQ]
      exact W.iret (v := r_6) hx hb hr (fun t ht hW => ⟨⟨r_6, (r_5.2.2.1, r_5.2.1, r_5.2.2.2), rfl, ⟨by rw [← hg], by rw [← hg]⟩, by rw [ht]; exact hP, hD⟩, hS.F ht⟩) hS.2.2 dX11_kept_56
  · have hg := g_if hg c_3
    refine lv_aload_n hx hb dX11_kept_20 rfl (lv_at hl 0 rfl) ?_
    refine va_get (ci := 10) (v := .ref a1) (C := RX11) (T := TX11) (N := 9) hx hb htb uX11 hown hK.1 hP 0 rfl rfl 3 (by decide) (htb _ tg_415) (fun _ h9 => h9) rfl dX11_kept_21 ?_
    refine lv_iload_n hx hb dX11_kept_24 rfl (lv_at hl 1 rfl) ?_
    obtain ⟨r_7, hr_7, hg⟩ := g_bd hg
    refine cc_iP (va_runV (C := RX3) (As := [.int p0]) (rest := []) ⟨hx, hb, hml, hown, htb⟩ (k_X3_keepsAll a1 a4 a4_stack a4_letters a3 a3_view a3_rays a2 a2_codes r2_flight a5 a5_rows a5_takes a6 a6_lensSide a6_lensWidth a6_pairA a6_pairB a6_pairDelay a7 a7_x a7_y a7_head a7_size a7_turns a8 a8_own a8_bodyX a8_bodyY a8_bodyWayX a8_bodyWayY a8_bodyMark v1 r_1 v3 v2 v5 v6 v7 v8 v9 p0 r_7 hr_7) (cw_V 1 htb tg_859 tg_9 tg_856 tg_857 tg_858 rfl rfl (by decide +kernel) ⟨Nat.le_of_ble_eq_true rfl, Nat.le_of_ble_eq_true rfl⟩) ⟨PC.blind, va_recv hK.1 hP (ci := 2) (q0 := 1) rfl rfl, PC.preP hK hT hP hD hS hA [1, 7, 8, 9, 4, 5, 6, 2, 3, 10, 11, 12, 13, 14, 15, 16, 17, 18, 19, 20, 21, 22, 23, 24, 25, 26, 27, 28, 29, 30, 31] rfl (by decide)⟩ rfl rfl hl.1 rfl (lv_room (Nat.le_of_ble_eq_true rfl)) dX11_kept_25 ⟨Nat.le_of_ble_eq_true rfl, Nat.le_of_ble_eq_true rfl⟩) hP hD hS hA [1, 7, 8, 9, 4, 5, 6, 2, 3, 10, 11, 12, 13, 14, 15, 16, 17, 18, 19, 20, 21, 22, 23, 24, 25, 26, 27, 28, 29, 30, 31] [0] rfl rfl (by decide) (by decide) (fun r9 u9 H locs hw hP hD hS => ?_)
    obtain ⟨rfl, rfl⟩ := hw
    have hP : va_P D vwCl (WS_X11_kept cI cJ cZ cY a0 a0_tape a0_firstTakes r0_saved r0_parser a1 a2 a2_codes r2_flight a3 a3_view a3_rays a4 a4_stack a4_letters a5 a5_rows a5_takes a6 a6_lensSide a6_lensWidth a6_pairA a6_pairB a6_pairDelay a7 a7_x a7_y a7_head a7_size a7_turns a8 a8_own a8_bodyX a8_bodyY a8_bodyWayX a8_bodyWayY a8_bodyMark v0 v1 v2 r_7.2.2.1 r_7.2.1 r_7.2.2.2 v6 v7 v8 ++ PL cI v9) H := hP.by _ (va_part (cx := WS_X11_kept cI cJ cZ cY a0 a0_tape a0_firstTakes r0_saved r0_parser a1 a2 a2_codes r2_flight a3 a3_view a3_rays a4 a4_stack a4_letters a5 a5_rows a5_takes a6 a6_lensSide a6_lensWidth a6_pairA a6_pairB a6_pairDelay a7 a7_x a7_y a7_head a7_size a7_turns a8 a8_own a8_bodyX a8_bodyY a8_bodyWayX a8_bodyWayY a8_bodyMark v0 v1 v2 r_7.2.2.1 r_7.2.1 r_7.2.2.2 v6 v7 v8) [0, 1, 8, 9, 5, 6, 7, 2, 3, 4, 10, 11, 12, 13, 14, 15, 16, 17, 18, 19, 20, 21, 22, 23, 24, 25, 26, 27, 28, 29, 30, 31] rfl)
    have hD : va_D A (WS_X11_kept cI cJ cZ cY a0 a0_tape a0_firstTakes r0_saved r0_parser a1 a2 a2_codes r2_flight a3 a3_view a3_rays a4 a4_stack a4_letters a5 a5_rows a5_takes a6 a6_lensSide a6_lensWidth a6_pairA a6_pairB a6_pairDelay a7 a7_x a7_y a7_head a7_size a7_turns a8 a8_own a8_bodyX a8_bodyY a8_bodyWayX a8_bodyWayY a8_bodyMark v0 v1 v2 r_7.2.2.1 r_7.2.1 r_7.2.2.2 v6 v7 v8 ++ PL cI v9) := hD.part (cx := WS_X11_kept cI cJ cZ cY a0 a0_tape a0_firstTakes r0_saved r0_parser a1 a2 a2_codes r2_flight a3 a3_view a3_rays a4 a4_stack a4_letters a5 a5_rows a5_takes a6 a6_lensSide a6_lensWidth a6_pairA a6_pairB a6_pairDelay a7 a7_x a7_y a7_head a7_size a7_turns a8 a8_own a8_bodyX a8_bodyY a8_bodyWayX a8_bodyWayY a8_bodyMark v0 v1 v2 r_7.2.2.1 r_7.2.1 r_7.2.2.2 v6 v7 v8) [0, 1, 8, 9, 5, 6, 7, 2, 3, 4, 10, 11, 12, 13, 14, 15, 16, 17, 18, 19, 20, 21, 22, 23, 24, 25, 26, 27, 28, 29, 30, 31] (by decide) rfl
    refine lv_if_eq (tgt := 35) hx hb dX11_kept_28 (by decide) (fun c_8 => ?_) (fun c_8 => ?_)
    · have hg := g_it hg c_8
      refine lv_iconst (v := 0) hx hb dX11_kept_35 (by decide) ?_
      have hg := Option.some.inj hg
      rw [hQ]
      exact W.iret (v := 0) hx hb hr (fun t ht hW => ⟨⟨0, (r_7.2.2.1, r_7.2.1, r_7.2.2.2), rfl, ⟨by rw [← hg], by rw [← hg]⟩, by rw [ht]; exact hP, hD⟩, hS.F ht⟩) hS.2.2 dX11_kept_36
    · have hg := g_if hg c_8
      refine lv_iconst (v := 1) hx hb dX11_kept_31 (by decide) ?_
      refine lv_goto (tgt := 36) hx hb dX11_kept_32 (by decide) ?_
      have hg := Option.some.inj hg
      rw [hQ]
      exact W.iret (v := 1) hx hb hr (fun t ht hW => ⟨⟨1, (r_7.2.2.1, r_7.2.1, r_7.2.2.2), rfl, ⟨by rw [← hg], by rw [← hg]⟩, by rw [ht]; exact hP, hD⟩, hS.F ht⟩) hS.2.2 dX11_kept_36
