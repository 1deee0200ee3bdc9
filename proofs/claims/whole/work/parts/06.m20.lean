/-! ManyEyes$Tokens.split([II)V -/
def WS_X9_split (cI cJ cZ cY : ClassId) (a0 a1 a1_kinds a1_starts a1_values n0 : Nat) (v0 : (Nat → Int32)) (v1 : BX9) : va_W := (GA cI a0 n0 v0) ++ ((GX9 cI cJ cZ cY a1 a1_kinds a1_starts a1_values v1))
def f_X9_split_b130 (n0 : Nat) (v0 : (Nat → Int32)) (x2 : Int32) (v1 : BX9) : Option (BX9) := g_lt ((-1) : Int32) (fun x_1 => g_gd (inB (pX9_count v1) 301) (g_lt (sX9_kinds v1 (upd (pX9_kinds v1) ((pX9_count v1) : Int32).toNatClampNeg x_1)) (fun v1_3 => g_gd (inB (pX9_count v1_3) 301) (g_lt (sX9_starts v1_3 (upd (pX9_starts v1_3) ((pX9_count v1_3) : Int32).toNatClampNeg x2)) (fun v1_5 => (f_X9_advance v1_5).bind (fun r_6 => some (r_6)))))))
def f_X9_split_b121 (n0 : Nat) (v0 : (Nat → Int32)) (J15 : (Int32 × Int32 × Int32 × BX9) → Option (BX9)) (x2 : Int32) (x4 : Int32) (x5 : Int32) (v1 : BX9) : Option (BX9) := g_lt (x4 + 1 : Int32) (fun x4_7 => J15 (x2, x5, x4_7, v1))
def f_X9_split_b106 (n0 : Nat) (v0 : (Nat → Int32)) (J15 : (Int32 × Int32 × Int32 × BX9) → Option (BX9)) (x2 : Int32) (x4 : Int32) (x5 : Int32) (v1 : BX9) : Option (BX9) := if (x5 : Int32) = 0 then (f_X9_split_b121 n0 v0 J15 x2 x4 x5 v1) else (g_gd (inB x4 n0) ((f_X9_extend v1 x5 (v0 (x4 : Int32).toNatClampNeg)).bind (fun r_10 => f_X9_split_b121 n0 v0 J15 x2 x4 x5 r_10)))
def f_X9_split_b15B (n0 : Nat) (v0 : (Nat → Int32)) (J15 : Int32 × Int32 × Int32 × BX9 → Option (BX9)) (x2 : Int32) (x3 : Int32) (x4 : Int32) (v1 : BX9) : Option (BX9) := if (x2 : Int32) ≤ x4 then (f_X9_split_b130 n0 v0 x2 v1) else (if ((Int32.ofNat n0) : Int32) ≤ x4 then (f_X9_split_b130 n0 v0 x2 v1) else (if (300 : Int32) ≤ x4 then (f_X9_split_b130 n0 v0 x2 v1) else (g_gd (inB x4 n0) ((f_X9_sortOf (v0 (x4 : Int32).toNatClampNeg)).bind (fun r_15 => if (r_15 : Int32) = 0 then (f_X9_split_b106 n0 v0 J15 x2 x4 r_15 v1) else (g_gd (inB x4 n0) ((f_X9_goesOn v1 x3 r_15 (v0 (x4 : Int32).toNatClampNeg)).bind (fun r_18 => if (r_18 : Int32) = 0 then (g_lt ((-2) : Int32) (fun x_20 => g_gd (inB (pX9_count v1) 301) (g_lt (sX9_kinds v1 (upd (pX9_kinds v1) ((pX9_count v1) : Int32).toNatClampNeg x_20)) (fun v1_22 => g_gd (inB (pX9_count v1_22) 301) (g_lt (sX9_starts v1_22 (upd (pX9_starts v1_22) ((pX9_count v1_22) : Int32).toNatClampNeg x4)) (fun v1_24 => g_gd (inB (pX9_count v1_24) 301) (g_lt (sX9_values v1_24 (upd (pX9_values v1_24) ((pX9_count v1_24) : Int32).toNatClampNeg 0)) (fun v1_26 => g_lt (((pX9_count v1_26) + 1) : Int32) (fun x_27 => g_lt (sX9_count v1_26 x_27) (fun v1_28 => f_X9_split_b106 n0 v0 J15 x2 x4 r_15 v1_28)))))))))) else (f_X9_split_b106 n0 v0 J15 x2 x4 r_15 v1)))))))))
def f_X9_split_b15 (n0 : Nat) (v0 : (Nat → Int32)) : Nat → (Int32 × Int32 × Int32 × BX9) → Option (BX9) := g_lp (fun J z => f_X9_split_b15B n0 v0 J z.1 z.2.1 z.2.2.1 z.2.2.2)
def f_X9_split (n0 : Nat) (v0 : (Nat → Int32)) (v1 : BX9) (p1 : Int32) : Option (BX9) := g_lt (sX9_count v1 0) (fun v1_29 => g_lt (sX9_next v1_29 0) (fun v1_30 => f_X9_split_b15 n0 v0 fU (p1, 0, 0, v1_30)))
abbrev rm_X9_split : Room := { frames := 2, cells := 0, slots := 0, locals := 46 }
set_option maxHeartbeats 4000000 in
set_option maxRecDepth 100000 in
theorem k_X9_split {l : Launch} {D : va_G} {cI cJ cZ cY : ClassId} {tX tY : Nat} {sz : Nat} (a0 a1 a1_kinds a1_starts a1_values n0 : Nat) (v0 : (Nat → Int32)) (v1 : BX9) (p1 : Int32) (res : BX9) (hg : f_X9_split n0 v0 v1 p1 = some res) : Met l yX9_split (Cond.code yX9_split cX9_split 6 none :: TB) rm_X9_split (PC D cI cJ cZ cY tX tY [.ref a1, .ref a0, .int p1] (WS_X9_split cI cJ cZ cY a0 a1 a1_kinds a1_starts a1_values n0 v0 v1) sz) (va_Qv (fun (u : BX9) => u = res) (BC D (fun u : BX9 => WS_X9_split cI cJ cZ cY a0 a1 a1_kinds a1_starts a1_values n0 v0 u) (va_A (WS_X9_split cI cJ cZ cY a0 a1 a1_kinds a1_starts a1_values n0 v0 v1) sz)) (va_A (WS_X9_split cI cJ cZ cY a0 a1 a1_kinds a1_starts a1_values n0 v0 v1) sz)) 0 0 (va_A (WS_X9_split cI cJ cZ cY a0 a1 a1_kinds a1_starts a1_values n0 v0 v1) sz) := by
  refine Met.ofW (cc := cX9_split) (maxL := 6) (ret := none) (by decide) rfl ?_
  intro p e s m args below meth c s₁ B hml hv
  obtain ⟨hargs, hsz, hP, hK, hD0, hT⟩ := hv
  have hx := B.exec
  have hb := B.bytes
  have hr := B.returns
  have htb : ∀ w ∈ TB, w.before args s = true := fun w h => atoms_spec (ws := Cond.code yX9_split cX9_split 6 none :: TB) B.pre w (List.mem_cons_of_mem _ h)
  have hown : s.vm.findClass "ManyEyes$Tokens" = some m.cls := findClass_of_methodNamed B.named
  have hlocks := B.notSynchronized
  subst hsz
  have hD := hD0.self (sz := s.heap.size)
  generalize hAe : va_A (WS_X9_split cI cJ cZ cY a0 a1 a1_kinds a1_starts a1_values n0 v0 v1) s.heap.size = A at hD hT ⊢
  have hA : ∀ q : Nat, s.heap.size ≤ q → A q := fun q h => by rw [← hAe]; exact Or.inr h
  have hS : va_S A s.heap s.heap [] := va_S.rf
  have hl := lv_entry ([.ref a1, .ref a0, .int p1]) (n := 6) (Nat.le_of_ble_eq_true rfl)
  have he : entryFrame m args 6 = F0 m 0 (lg_sl ([.ref a1, .ref a0, .int p1]) ++ List.replicate (6 - (lg_sl ([.ref a1, .ref a0, .int p1])).length) Slot.unset).toArray [] := by rw [hargs, lg_entry_eq]
  rw [he]
  generalize (lg_sl ([.ref a1, .ref a0, .int p1]) ++ List.replicate (6 - (lg_sl ([.ref a1, .ref a0, .int p1])).length) Slot.unset).toArray = ls at hl ⊢
  have hl : lv_has ls 6 [(0, .ref a1), (1, .ref a0), (2, .int p1)] := hl
  show W p l e rm_X9_split s m args below meth c s.heap [] 0 0 _ _
  refine W.genQ (fun Q hQ => ?_)
  have b_130 : ∀ (x2 : Int32) (v1 : BX9) (H : Heap) (locs : List Loc) (ls : Array Slot), va_P D vwCl (WS_X9_split cI cJ cZ cY a0 a1 a1_kinds a1_starts a1_values n0 v0 v1) H → va_D A (WS_X9_split cI cJ cZ cY a0 a1 a1_kinds a1_starts a1_values n0 v0 v1) → va_S A s.heap H locs → lv_has ls 6 [(0, .ref a1), (2, .int x2)] → f_X9_split_b130 n0 v0 x2 v1 = some res → W p l e rm_X9_split s m args below meth c H locs 0 0 Q (F0 m 130 ls []) := by
    intro x2 v1 H locs ls hP hD hS hl hg
    unfold f_X9_split_b130 at hg
    refine lv_aload_n hx hb dX9_split_130 rfl (lv_at hl 0 rfl) ?_
    refine va_get (ci := 8) (v := .ref a1_kinds) (C := RX9) (T := TX9) (N := 8) hx hb htb uX9 hown hK.1 hP 1 rfl rfl 0 (by decide) (htb _ tg_357) (fun _ h9 => h9) rfl dX9_split_131 ?_
    refine lv_aload_n hx hb dX9_split_134 rfl (lv_at hl 0 rfl) ?_
    refine va_get (ci := 8) (v := .int (pX9_count v1)) (C := RX9) (T := TX9) (N := 8) hx hb htb uX9 hown hK.1 hP 1 rfl rfl 3 (by decide) (htb _ tg_360) (fun _ h9 => h9) rfl dX9_split_135 ?_
    refine lv_iconst (v := (-1)) hx hb dX9_split_138 (by decide) ?_
    refine lv_topi (fun x_1 ex_1 => ?_)
    have hg := g_lte hg x_1 ex_1
    obtain ⟨h_2, hg⟩ := g_gde hg
    refine va_iast hx hb hK.1 hP hD hS 2 0 rfl rfl (inB_vp h_2) dX9_split_139 (fun H locs hP hD hS => ?_)
    obtain ⟨v1_3, ev1_3⟩ : ∃ z, z = sX9_kinds v1 (upd (pX9_kinds v1) ((pX9_count v1) : Int32).toNatClampNeg x_1) := ⟨_, rfl⟩
    have hP : va_P D vwCl (WS_X9_split cI cJ cZ cY a0 a1 a1_kinds a1_starts a1_values n0 v0 v1_3) H := by rw [ev1_3]; exact hP
    have hD : va_D A (WS_X9_split cI cJ cZ cY a0 a1 a1_kinds a1_starts a1_values n0 v0 v1_3) := by rw [ev1_3]; exact hD
    have hg := g_lte hg v1_3 ev1_3
    refine lv_aload_n hx hb dX9_split_140 rfl (lv_at hl 0 rfl) ?_
    refine va_get (ci := 8) (v := .ref a1_starts) (C := RX9) (T := TX9) (N := 8) hx hb htb uX9 hown hK.1 hP 1 rfl rfl 1 (by decide) (htb _ tg_358) (fun _ h9 => h9) rfl dX9_split_141 ?_
    refine lv_aload_n hx hb dX9_split_144 rfl (lv_at hl 0 rfl) ?_
    refine va_get (ci := 8) (v := .int (pX9_count v1_3)) (C := RX9) (T := TX9) (N := 8) hx hb htb uX9 hown hK.1 hP 1 rfl rfl 3 (by decide) (htb _ tg_360) (fun _ h9 => h9) rfl dX9_split_145 ?_
    refine lv_iload_n hx hb dX9_split_148 rfl (lv_at hl 1 rfl) ?_
    obtain ⟨h_4, hg⟩ := g_gde hg
    refine va_iast hx hb hK.1 hP hD hS 3 0 rfl rfl (inB_vp h_4) dX9_split_149 (fun H locs hP hD hS => ?_)
    obtain ⟨v1_5, ev1_5⟩ : ∃ z, z = sX9_starts v1_3 (upd (pX9_starts v1_3) ((pX9_count v1_3) : Int32).toNatClampNeg x2) := ⟨_, rfl⟩
    have hP : va_P D vwCl (WS_X9_split cI cJ cZ cY a0 a1 a1_kinds a1_starts a1_values n0 v0 v1_5) H := by rw [ev1_5]; exact hP
    have hD : va_D A (WS_X9_split cI cJ cZ cY a0 a1 a1_kinds a1_starts a1_values n0 v0 v1_5) := by rw [ev1_5]; exact hD
    have hg := g_lte hg v1_5 ev1_5
    refine lv_aload_n hx hb dX9_split_150 rfl (lv_at hl 0 rfl) ?_
    obtain ⟨r_6, hr_6, hg⟩ := g_bd hg
    refine cc_v (va_runV (C := RX9) (As := []) (rest := []) ⟨hx, hb, hml, hown, htb⟩ (k_X9_advance a1 a1_kinds a1_starts a1_values v1_5 r_6 hr_6) (cw_V 0 htb tg_633 tg_12 tg_630 tg_631 tg_632 rfl rfl (by decide +kernel) ⟨Nat.le_of_ble_eq_true rfl, Nat.le_of_ble_eq_true rfl⟩) ⟨PC.blind, va_recv hK.1 hP (ci := 8) (q0 := 1) rfl rfl, PC.pre hK hT hP hD hS hA [1, 2, 3, 4] rfl (by decide)⟩ rfl rfl hl.1 rfl (lv_room (Nat.le_of_ble_eq_true rfl)) dX9_split_151 ⟨Nat.le_of_ble_eq_true rfl, Nat.le_of_ble_eq_true rfl⟩) hP hD hS hA [1, 2, 3, 4] [0] rfl rfl (by decide) (by decide) (fun u9 H locs hw hP hD hS => ?_)
    have hw := hw.symm
    subst hw
    have hP : va_P D vwCl (WS_X9_split cI cJ cZ cY a0 a1 a1_kinds a1_starts a1_values n0 v0 r_6) H := hP.sub [0, 1, 2, 3, 4] rfl
    have hD : va_D A (WS_X9_split cI cJ cZ cY a0 a1 a1_kinds a1_starts a1_values n0 v0 r_6) := hD.sub [0, 1, 2, 3, 4] (by decide) rfl
    have hg := Option.some.inj hg
    rw [hQ]
    exact W.vret hx hb hr (fun t ht hW => ⟨⟨(r_6), rfl, hg, by rw [ht]; exact hP, hD⟩, hS.F ht⟩) hS.2.2 dX9_split_154
  have b_121 : ∀ (J15 : (Int32 × Int32 × Int32 × BX9) → Option (BX9)) (hJ15 : ∀ (x2 : Int32) (x3 : Int32) (x4 : Int32) (v1 : BX9) (H : Heap) (locs : List Loc) (ls : Array Slot), va_P D vwCl (WS_X9_split cI cJ cZ cY a0 a1 a1_kinds a1_starts a1_values n0 v0 v1) H → va_D A (WS_X9_split cI cJ cZ cY a0 a1 a1_kinds a1_starts a1_values n0 v0 v1) → va_S A s.heap H locs → lv_has ls 6 [(0, .ref a1), (1, .ref a0), (2, .int x2), (3, .int x3), (4, .int x4)] → J15 (x2, x3, x4, v1) = some res → W p l e rm_X9_split s m args below meth c H locs 0 0 Q (F0 m 15 ls [])), ∀ (x2 : Int32) (x4 : Int32) (x5 : Int32) (v1 : BX9) (H : Heap) (locs : List Loc) (ls : Array Slot), va_P D vwCl (WS_X9_split cI cJ cZ cY a0 a1 a1_kinds a1_starts a1_values n0 v0 v1) H → va_D A (WS_X9_split cI cJ cZ cY a0 a1 a1_kinds a1_starts a1_values n0 v0 v1) → va_S A s.heap H locs → lv_has ls 6 [(0, .ref a1), (1, .ref a0), (2, .int x2), (4, .int x4), (5, .int x5)] → f_X9_split_b121 n0 v0 J15 x2 x4 x5 v1 = some res → W p l e rm_X9_split s m args below meth c H locs 0 0 Q (F0 m 121 ls []) := by
    intro J15 hJ15 x2 x4 x5 v1 H locs ls hP hD hS hl hg
    unfold f_X9_split_b121 at hg
    refine lv_iload hx hb dX9_split_121 (lv_at hl 4 rfl) ?_
    refine lv_istore_n (lv' := [(3, .int x5), (0, .ref a1), (1, .ref a0), (2, .int x2), (4, .int x4), (5, .int x5)]) hx hb dX9_split_123 rfl hl (by decide) rfl (fun ls hl => ?_)
    obtain ⟨x4_7, ex4_7⟩ : ∃ z : Int32, z = x4 + 1 := ⟨_, rfl⟩
    have hg := g_lte hg x4_7 ex4_7
    refine lv_iinc (v := x4_7) (lv' := [(4, .int x4_7), (3, .int x5), (0, .ref a1), (1, .ref a0), (2, .int x2), (5, .int x5)]) hx hb dX9_split_124 hl (k := 4) rfl (by rw [ex4_7]; rfl) (by decide) rfl (fun ls hl => ?_)
    refine lv_goto (tgt := 15) hx hb dX9_split_127 (by decide) ?_
    exact hJ15 x2 x5 x4_7 v1 H locs ls hP hD hS (lv_sub hl [2, 3, 4, 1, 0] rfl) hg
  have b_106 : ∀ (J15 : (Int32 × Int32 × Int32 × BX9) → Option (BX9)) (hJ15 : ∀ (x2 : Int32) (x3 : Int32) (x4 : Int32) (v1 : BX9) (H : Heap) (locs : List Loc) (ls : Array Slot), va_P D vwCl (WS_X9_split cI cJ cZ cY a0 a1 a1_kinds a1_starts a1_values n0 v0 v1) H → va_D A (WS_X9_split cI cJ cZ cY a0 a1 a1_kinds a1_starts a1_values n0 v0 v1) → va_S A s.heap H locs → lv_has ls 6 [(0, .ref a1), (1, .ref a0), (2, .int x2), (3, .int x3), (4, .int x4)] → J15 (x2, x3, x4, v1) = some res → W p l e rm_X9_split s m args below meth c H locs 0 0 Q (F0 m 15 ls [])), ∀ (x2 : Int32) (x4 : Int32) (x5 : Int32) (v1 : BX9) (H : Heap) (locs : List Loc) (ls : Array Slot), va_P D vwCl (WS_X9_split cI cJ cZ cY a0 a1 a1_kinds a1_starts a1_values n0 v0 v1) H → va_D A (WS_X9_split cI cJ cZ cY a0 a1 a1_kinds a1_starts a1_values n0 v0 v1) → va_S A s.heap H locs → lv_has ls 6 [(0, .ref a1), (1, .ref a0), (2, .int x2), (4, .int x4), (5, .int x5)] → f_X9_split_b106 n0 v0 J15 x2 x4 x5 v1 = some res → W p l e rm_X9_split s m args below meth c H locs 0 0 Q (F0 m 106 ls []) := by
    intro J15 hJ15 x2 x4 x5 v1 H locs ls hP hD hS hl hg
    unfold f_X9_split_b106 at hg
    refine lv_iload hx hb dX9_split_106 (lv_at hl 4 rfl) ?_
    refine lv_if_eq (tgt := 121) hx hb dX9_split_108 (by decide) (fun c_8 => ?_) (fun c_8 => ?_)
    · have hg := g_it hg c_8
      exact b_121 J15 hJ15 x2 x4 x5 v1 H locs ls hP hD hS (lv_sub hl [0, 1, 2, 3, 4] rfl) hg
    · have hg := g_if hg c_8
      refine lv_aload_n hx hb dX9_split_111 rfl (lv_at hl 0 rfl) ?_
      refine lv_iload hx hb dX9_split_112 (lv_at hl 4 rfl) ?_
      refine lv_aload_n hx hb dX9_split_114 rfl (lv_at hl 1 rfl) ?_
      refine lv_iload hx hb dX9_split_115 (lv_at hl 3 rfl) ?_
      obtain ⟨h_9, hg⟩ := g_gde hg
      refine va_iald hx hb hK.1 hP 0 0 rfl rfl (inB_vp h_9) dX9_split_117 ?_
      obtain ⟨r_10, hr_10, hg⟩ := g_bd hg
      refine cc_v (va_runV (C := RX9) (As := [.int x5, .int (v0 (x4 : Int32).toNatClampNeg)]) (rest := []) ⟨hx, hb, hml, hown, htb⟩ (k_X9_extend a1 a1_kinds a1_starts a1_values v1 x5 (v0 (x4 : Int32).toNatClampNeg) r_10 hr_10) (cw_V 2 htb tg_627 tg_12 tg_624 tg_626 ts_5 rfl rfl (by decide +kernel) ⟨Nat.le_of_ble_eq_true rfl, Nat.le_of_ble_eq_true rfl⟩) ⟨PC.blind, va_recv hK.1 hP (ci := 8) (q0 := 1) rfl rfl, PC.pre hK hT hP hD hS hA [1, 2, 3, 4] rfl (by decide)⟩ rfl rfl hl.1 rfl (lv_room (Nat.le_of_ble_eq_true rfl)) dX9_split_118 ⟨Nat.le_of_ble_eq_true rfl, Nat.le_of_ble_eq_true rfl⟩) hP hD hS hA [1, 2, 3, 4] [0] rfl rfl (by decide) (by decide) (fun u9 H locs hw hP hD hS => ?_)
      have hw := hw.symm
      subst hw
      have hP : va_P D vwCl (WS_X9_split cI cJ cZ cY a0 a1 a1_kinds a1_starts a1_values n0 v0 r_10) H := hP.sub [0, 1, 2, 3, 4] rfl
      have hD : va_D A (WS_X9_split cI cJ cZ cY a0 a1 a1_kinds a1_starts a1_values n0 v0 r_10) := hD.sub [0, 1, 2, 3, 4] (by decide) rfl
      exact b_121 J15 hJ15 x2 x4 x5 r_10 H locs ls hP hD hS (lv_sub hl [0, 1, 2, 3, 4] rfl) hg
  have b_15 : ∀ (n : Nat), ∀ (x2 : Int32) (x3 : Int32) (x4 : Int32) (v1 : BX9) (H : Heap) (locs : List Loc) (ls : Array Slot), va_P D vwCl (WS_X9_split cI cJ cZ cY a0 a1 a1_kinds a1_starts a1_values n0 v0 v1) H → va_D A (WS_X9_split cI cJ cZ cY a0 a1 a1_kinds a1_starts a1_values n0 v0 v1) → va_S A s.heap H locs → lv_has ls 6 [(0, .ref a1), (1, .ref a0), (2, .int x2), (3, .int x3), (4, .int x4)] → f_X9_split_b15 n0 v0 n (x2, x3, x4, v1) = some res → W p l e rm_X9_split s m args below meth c H locs 0 0 Q (F0 m 15 ls []) := by
    intro n
    induction n with
    | zero =>
      intro x2 x3 x4 v1 H locs ls hP hD hS hl hg
      exact (g_lp0 hg).elim
    | succ n ih =>
      intro x2 x3 x4 v1 H locs ls hP hD hS hl hg
      have hg : f_X9_split_b15B n0 v0 (f_X9_split_b15 n0 v0 n) x2 x3 x4 v1 = some res := hg
      unfold f_X9_split_b15B at hg
      refine lv_iload hx hb dX9_split_15 (lv_at hl 4 rfl) ?_
      refine lv_iload_n hx hb dX9_split_17 rfl (lv_at hl 2 rfl) ?_
      refine lv_icmp_ge (tgt := 130) hx hb dX9_split_18 (by decide) (fun c_11 => ?_) (fun c_11 => ?_)
      · have hg := g_it hg c_11
        exact b_130 x2 v1 H locs ls hP hD hS (lv_sub hl [0, 2] rfl) hg
      · have hg := g_if hg c_11
        refine lv_iload hx hb dX9_split_21 (lv_at hl 4 rfl) ?_
        refine lv_aload_n hx hb dX9_split_23 rfl (lv_at hl 1 rfl) ?_
        refine va_alen (v := (Int32.ofNat n0)) hx hb hK.1 hP 0 0 rfl rfl rfl dX9_split_24 ?_
        refine lv_icmp_ge (tgt := 130) hx hb dX9_split_25 (by decide) (fun c_12 => ?_) (fun c_12 => ?_)
        · have hg := g_it hg c_12
          exact b_130 x2 v1 H locs ls hP hD hS (lv_sub hl [0, 2] rfl) hg
        · have hg := g_if hg c_12
          refine lv_iload hx hb dX9_split_28 (lv_at hl 4 rfl) ?_
          refine lv_sipush (v := 300) hx hb dX9_split_30 (by decide) ?_
          refine lv_icmp_ge (tgt := 130) hx hb dX9_split_33 (by decide) (fun c_13 => ?_) (fun c_13 => ?_)
          · have hg := g_it hg c_13
            exact b_130 x2 v1 H locs ls hP hD hS (lv_sub hl [0, 2] rfl) hg
          · have hg := g_if hg c_13
            refine lv_aload_n hx hb dX9_split_36 rfl (lv_at hl 1 rfl) ?_
            refine lv_iload hx hb dX9_split_37 (lv_at hl 4 rfl) ?_
            obtain ⟨h_14, hg⟩ := g_gde hg
            refine va_iald hx hb hK.1 hP 0 0 rfl rfl (inB_vp h_14) dX9_split_39 ?_
            obtain ⟨r_15, hr_15, hg⟩ := g_bd hg
            refine cc_i (va_runS (As := [.int (v0 (x4 : Int32).toNatClampNeg)]) (rest := []) ⟨hx, hb, hml, hown, htb⟩ (k_X9_sortOf (v0 (x4 : Int32).toNatClampNeg) r_15 hr_15) (cw_S 1 htb tg_618 tg_12 tg_616 tg_617 rfl rfl (by decide +kernel) ⟨Nat.le_of_ble_eq_true rfl, Nat.le_of_ble_eq_true rfl⟩) ⟨PC.blind, PC.pre hK hT hP hD hS hA [] rfl (by decide)⟩ rfl rfl hl.1 rfl (lv_room (Nat.le_of_ble_eq_true rfl)) dX9_split_40 ⟨Nat.le_of_ble_eq_true rfl, Nat.le_of_ble_eq_true rfl⟩) hP hD hS hA [] [0, 1, 2, 3, 4] rfl rfl (by decide) (by decide) (fun r9 u9 H locs hw hP hD hS => ?_)
            have hw := hw.symm
            subst hw
            have hP : va_P D vwCl (WS_X9_split cI cJ cZ cY a0 a1 a1_kinds a1_starts a1_values n0 v0 v1) H := hP.sub [0, 1, 2, 3, 4] rfl
            have hD : va_D A (WS_X9_split cI cJ cZ cY a0 a1 a1_kinds a1_starts a1_values n0 v0 v1) := hD.sub [0, 1, 2, 3, 4] (by decide) rfl
            refine lv_istore (lv' := [(5, .int r_15), (0, .ref a1), (1, .ref a0), (2, .int x2), (3, .int x3), (4, .int x4)]) hx hb dX9_split_43 hl (by decide) rfl (fun ls hl => ?_)
            refine lv_iload hx hb dX9_split_45 (lv_at hl 0 rfl) ?_
            refine lv_if_eq (tgt := 106) hx hb dX9_split_47 (by decide) (fun c_16 => ?_) (fun c_16 => ?_)
            · have hg := g_it hg c_16
              exact b_106 (f_X9_split_b15 n0 v0 n) ih x2 x4 r_15 v1 H locs ls hP hD hS (lv_sub hl [1, 2, 3, 5, 0] rfl) hg
            · have hg := g_if hg c_16
              refine lv_aload_n hx hb dX9_split_50 rfl (lv_at hl 1 rfl) ?_
              refine lv_iload_n hx hb dX9_split_51 rfl (lv_at hl 4 rfl) ?_
              refine lv_iload hx hb dX9_split_52 (lv_at hl 0 rfl) ?_
              refine lv_aload_n hx hb dX9_split_54 rfl (lv_at hl 2 rfl) ?_
              refine lv_iload hx hb dX9_split_55 (lv_at hl 5 rfl) ?_
              obtain ⟨h_17, hg⟩ := g_gde hg
              refine va_iald hx hb hK.1 hP 0 0 rfl rfl (inB_vp h_17) dX9_split_57 ?_
              obtain ⟨r_18, hr_18, hg⟩ := g_bd hg
              refine cc_i (va_runV (C := RX9) (As := [.int x3, .int r_15, .int (v0 (x4 : Int32).toNatClampNeg)]) (rest := []) ⟨hx, hb, hml, hown, htb⟩ (k_X9_goesOn a1 a1_kinds a1_starts a1_values v1 x3 r_15 (v0 (x4 : Int32).toNatClampNeg) r_18 hr_18) (cw_V 3 htb tg_623 tg_12 tg_620 tg_622 ts_4 rfl rfl (by decide +kernel) ⟨Nat.le_of_ble_eq_true rfl, Nat.le_of_ble_eq_true rfl⟩) ⟨PC.blind, va_recv hK.1 hP (ci := 8) (q0 := 1) rfl rfl, PC.pre hK hT hP hD hS hA [1, 2, 3, 4] rfl (by decide)⟩ rfl rfl hl.1 rfl (lv_room (Nat.le_of_ble_eq_true rfl)) dX9_split_58 ⟨Nat.le_of_ble_eq_true rfl, Nat.le_of_ble_eq_true rfl⟩) hP hD hS hA [1, 2, 3, 4] [0] rfl rfl (by decide) (by decide) (fun r9 u9 H locs hw hP hD hS => ?_)
              have hw := hw.symm
              subst hw
              have hP : va_P D vwCl (WS_X9_split cI cJ cZ cY a0 a1 a1_kinds a1_starts a1_values n0 v0 v1) H := hP.sub [0, 1, 2, 3, 4] rfl
              have hD : va_D A (WS_X9_split cI cJ cZ cY a0 a1 a1_kinds a1_starts a1_values n0 v0 v1) := hD.sub [0, 1, 2, 3, 4] (by decide) rfl
              refine lv_if_ne (tgt := 106) hx hb dX9_split_61 (by decide) (fun c_19 => ?_) (fun c_19 => ?_)
              · have hg := g_if hg c_19
                exact b_106 (f_X9_split_b15 n0 v0 n) ih x2 x4 r_15 v1 H locs ls hP hD hS (lv_sub hl [1, 2, 3, 5, 0] rfl) hg
              · have hg := g_it hg c_19
                refine lv_aload_n hx hb dX9_split_64 rfl (lv_at hl 1 rfl) ?_
                refine va_get (ci := 8) (v := .ref a1_kinds) (C := RX9) (T := TX9) (N := 8) hx hb htb uX9 hown hK.1 hP 1 rfl rfl 0 (by decide) (htb _ tg_357) (fun _ h9 => h9) rfl dX9_split_65 ?_
                refine lv_aload_n hx hb dX9_split_68 rfl (lv_at hl 1 rfl) ?_
                refine va_get (ci := 8) (v := .int (pX9_count v1)) (C := RX9) (T := TX9) (N := 8) hx hb htb uX9 hown hK.1 hP 1 rfl rfl 3 (by decide) (htb _ tg_360) (fun _ h9 => h9) rfl dX9_split_69 ?_
                refine lv_bipush (v := (-2)) hx hb dX9_split_72 (by decide) ?_
                refine lv_topi (fun x_20 ex_20 => ?_)
                have hg := g_lte hg x_20 ex_20
                obtain ⟨h_21, hg⟩ := g_gde hg
                refine va_iast hx hb hK.1 hP hD hS 2 0 rfl rfl (inB_vp h_21) dX9_split_74 (fun H locs hP hD hS => ?_)
                obtain ⟨v1_22, ev1_22⟩ : ∃ z, z = sX9_kinds v1 (upd (pX9_kinds v1) ((pX9_count v1) : Int32).toNatClampNeg x_20) := ⟨_, rfl⟩
                have hP : va_P D vwCl (WS_X9_split cI cJ cZ cY a0 a1 a1_kinds a1_starts a1_values n0 v0 v1_22) H := by rw [ev1_22]; exact hP
                have hD : va_D A (WS_X9_split cI cJ cZ cY a0 a1 a1_kinds a1_starts a1_values n0 v0 v1_22) := by rw [ev1_22]; exact hD
                have hg := g_lte hg v1_22 ev1_22
                refine lv_aload_n hx hb dX9_split_75 rfl (lv_at hl 1 rfl) ?_
                refine va_get (ci := 8) (v := .ref a1_starts) (C := RX9) (T := TX9) (N := 8) hx hb htb uX9 hown hK.1 hP 1 rfl rfl 1 (by decide) (htb _ tg_358) (fun _ h9 => h9) rfl dX9_split_76 ?_
                refine lv_aload_n hx hb dX9_split_79 rfl (lv_at hl 1 rfl) ?_
                refine va_get (ci := 8) (v := .int (pX9_count v1_22)) (C := RX9) (T := TX9) (N := 8) hx hb htb uX9 hown hK.1 hP 1 rfl rfl 3 (by decide) (htb _ tg_360) (fun _ h9 => h9) rfl dX9_split_80 ?_
                refine lv_iload hx hb dX9_split_83 (lv_at hl 5 rfl) ?_
                obtain ⟨h_23, hg⟩ := g_gde hg
                refine va_iast hx hb hK.1 hP hD hS 3 0 rfl rfl (inB_vp h_23) dX9_split_85 (fun H locs hP hD hS => ?_)
                obtain ⟨v1_24, ev1_24⟩ : ∃ z, z = sX9_starts v1_22 (upd (pX9_starts v1_22) ((pX9_count v1_22) : Int32).toNatClampNeg x4) := ⟨_, rfl⟩
                have hP : va_P D vwCl (WS_X9_split cI cJ cZ cY a0 a1 a1_kinds a1_starts a1_values n0 v0 v1_24) H := by rw [ev1_24]; exact hP
                have hD : va_D A (WS_X9_split cI cJ cZ cY a0 a1 a1_kinds a1_starts a1_values n0 v0 v1_24) := by rw [ev1_24]; exact hD
                have hg := g_lte hg v1_24 ev1_24
                refine lv_aload_n hx hb dX9_split_86 rfl (lv_at hl 1 rfl) ?_
                refine va_get (ci := 8) (v := .ref a1_values) (C := RX9) (T := TX9) (N := 8) hx hb htb uX9 hown hK.1 hP 1 rfl rfl 2 (by decide) (htb _ tg_359) (fun _ h9 => h9) rfl dX9_split_87 ?_
                refine lv_aload_n hx hb dX9_split_90 rfl (lv_at hl 1 rfl) ?_
                refine va_get (ci := 8) (v := .int (pX9_count v1_24)) (C := RX9) (T := TX9) (N := 8) hx hb htb uX9 hown hK.1 hP 1 rfl rfl 3 (by decide) (htb _ tg_360) (fun _ h9 => h9) rfl dX9_split_91 ?_
                refine lv_iconst (v := 0) hx hb dX9_split_94 (by decide) ?_
                obtain ⟨h_25, hg⟩ := g_gde hg
                refine va_iast hx hb hK.1 hP hD hS 4 0 rfl rfl (inB_vp h_25) dX9_split_95 (fun H locs hP hD hS => ?_)
                obtain ⟨v1_26, ev1_26⟩ : ∃ z, z = sX9_values v1_24 (upd (pX9_values v1_24) ((pX9_count v1_24) : Int32).toNatClampNeg 0) := ⟨_, rfl⟩
                have hP : va_P D vwCl (WS_X9_split cI cJ cZ cY a0 a1 a1_kinds a1_starts a1_values n0 v0 v1_26) H := by rw [ev1_26]; exact hP
                have hD : va_D A (WS_X9_split cI cJ cZ cY a0 a1 a1_kinds a1_starts a1_values n0 v0 v1_26) := by rw [ev1_26]; exact hD
                have hg := g_lte hg v1_26 ev1_26
                refine lv_aload_n hx hb dX9_split_96 rfl (lv_at hl 1 rfl) ?_
                refine lv_dup hx hb dX9_split_97 rfl ?_
                refine va_get (ci := 8) (v := .int (pX9_count v1_26)) (C := RX9) (T := TX9) (N := 8) hx hb htb uX9 hown hK.1 hP 1 rfl rfl 3 (by decide) (htb _ tg_360) (fun _ h9 => h9) rfl dX9_split_98 ?_
                refine lv_iconst (v := 1) hx hb dX9_split_101 (by decide) ?_
                refine lv_iadd hx hb dX9_split_102 ?_
                refine lv_topi (fun x_27 ex_27 => ?_)
                have hg := g_lte hg x_27 ex_27
                refine va_put (ci := 8) (v := .int x_27) (ty := .int) (C := RX9) (T := TX9) (N := 8) hx hb htb uX9 tyX9 tyX9_ok nmX9 hown hK.1 hP hD hS 1 rfl rfl 3 (by decide) (htb _ tg_360) (fun _ h9 => h9) rfl (by decide +kernel) rfl rfl (Nat.le_of_ble_eq_true rfl) dX9_split_103 (fun H locs hP hD hS => ?_)
                obtain ⟨v1_28, ev1_28⟩ : ∃ z, z = sX9_count v1_26 x_27 := ⟨_, rfl⟩
                have hP : va_P D vwCl (WS_X9_split cI cJ cZ cY a0 a1 a1_kinds a1_starts a1_values n0 v0 v1_28) H := by rw [ev1_28]; exact hP
                have hD : va_D A (WS_X9_split cI cJ cZ cY a0 a1 a1_kinds a1_starts a1_values n0 v0 v1_28) := by rw [ev1_28]; exact hD
                have hg := g_lte hg v1_28 ev1_28
                exact b_106 (f_X9_split_b15 n0 v0 n) ih x2 x4 r_15 v1_28 H locs ls hP hD hS (lv_sub hl [1, 2, 3, 5, 0] rfl) hg
  generalize hHe : s.heap = H at hP ⊢
  have hS : va_S A s.heap H [] := by rw [← hHe]; exact va_S.rf
  generalize ([] : List Loc) = locs at hS ⊢
  unfold f_X9_split at hg
  refine lv_aload_n hx hb dX9_split_0 rfl (lv_at hl 0 rfl) ?_
  refine lv_iconst (v := 0) hx hb dX9_split_1 (by decide) ?_
  refine va_put (ci := 8) (v := .int 0) (ty := .int) (C := RX9) (T := TX9) (N := 8) hx hb htb uX9 tyX9 tyX9_ok nmX9 hown hK.1 hP hD hS 1 rfl rfl 3 (by decide) (htb _ tg_360) (fun _ h9 => h9) rfl (by decide +kernel) rfl rfl (Nat.le_of_ble_eq_true rfl) dX9_split_2 (fun H locs hP hD hS => ?_)
  obtain ⟨v1_29, ev1_29⟩ : ∃ z, z = sX9_count v1 0 := ⟨_, rfl⟩
  have hP : va_P D vwCl (WS_X9_split cI cJ cZ cY a0 a1 a1_kinds a1_starts a1_values n0 v0 v1_29) H := by rw [ev1_29]; exact hP
  have hD : va_D A (WS_X9_split cI cJ cZ cY a0 a1 a1_kinds a1_starts a1_values n0 v0 v1_29) := by rw [ev1_29]; exact hD
  have hg := g_lte hg v1_29 ev1_29
  refine lv_aload_n hx hb dX9_split_5 rfl (lv_at hl 0 rfl) ?_
  refine lv_iconst (v := 0) hx hb dX9_split_6 (by decide) ?_
  refine va_put (ci := 8) (v := .int 0) (ty := .int) (C := RX9) (T := TX9) (N := 8) hx hb htb uX9 tyX9 tyX9_ok nmX9 hown hK.1 hP hD hS 1 rfl rfl 4 (by decide) (htb _ tg_361) (fun _ h9 => h9) rfl (by decide +kernel) rfl rfl (Nat.le_of_ble_eq_true rfl) dX9_split_7 (fun H locs hP hD hS => ?_)
  obtain ⟨v1_30, ev1_30⟩ : ∃ z, z = sX9_next v1_29 0 := ⟨_, rfl⟩
  have hP : va_P D vwCl (WS_X9_split cI cJ cZ cY a0 a1 a1_kinds a1_starts a1_values n0 v0 v1_30) H := by rw [ev1_30]; exact hP
  have hD : va_D A (WS_X9_split cI cJ cZ cY a0 a1 a1_kinds a1_starts a1_values n0 v0 v1_30) := by rw [ev1_30]; exact hD
  have hg := g_lte hg v1_30 ev1_30
  refine lv_iconst (v := 0) hx hb dX9_split_10 (by decide) ?_
  refine lv_istore_n (lv' := [(3, .int 0), (0, .ref a1), (1, .ref a0), (2, .int p1)]) hx hb dX9_split_11 rfl hl (by decide) rfl (fun ls hl => ?_)
  refine lv_iconst (v := 0) hx hb dX9_split_12 (by decide) ?_
  refine lv_istore (lv' := [(4, .int 0), (3, .int 0), (0, .ref a1), (1, .ref a0), (2, .int p1)]) hx hb dX9_split_13 hl (by decide) rfl (fun ls hl => ?_)
  exact b_15 fU p1 0 0 v1_30 H locs ls hP hD hS (lv_sub hl [2, 3, 4, 1, 0] rfl) hg

/-! ManyEyes$World.isFree(III)Z -/
def WS_X10_isFree (cI cJ cZ cY : ClassId) (a0 a0_own a0_bodyX a0_bodyY a0_bodyWayX a0_bodyWayY a0_bodyMark : Nat) (v0 : BX10) : va_W := (GX10 cI cJ cZ cY a0 a0_own a0_bodyX a0_bodyY a0_bodyWayX a0_bodyWayY a0_bodyMark v0)
def f_X10_isFree (v0 : BX10) (p0 : Int32) (p1 : Int32) (p2 : Int32) : Option (Int32) := (f_X10_isPlace v0 p0 p1).bind (fun r_1 => if (r_1 : Int32) = 0 then (some 0) else ((f_X10_seenMark v0 (((p1 / 16) * (pX10_w v0)) + (p0 / 16)) p2).bind (fun r_5 => if (r_5 : Int32) = 0 then (some 1) else (some 0))))
abbrev rm_X10_isFree : Room := { frames := 3, cells := 0, slots := 0, locals := 66 }
set_option maxHeartbeats 4000000 in
set_option maxRecDepth 100000 in
theorem k_X10_isFree {l : Launch} {D : va_G} {cI cJ cZ cY : ClassId} {tX tY : Nat} {sz : Nat} (a0 a0_own a0_bodyX a0_bodyY a0_bodyWayX a0_bodyWayY a0_bodyMark : Nat) (v0 : BX10) (p0 : Int32) (p1 : Int32) (p2 : Int32) (res : Int32) (hg : f_X10_isFree v0 p0 p1 p2 = some res) : Met l yX10_isFree (Cond.code yX10_isFree cX10_isFree 4 (some .boolean) :: TB) rm_X10_isFree (PC D cI cJ cZ cY tX tY [.ref a0, .int p0, .int p1, .int p2] (WS_X10_isFree cI cJ cZ cY a0 a0_own a0_bodyX a0_bodyY a0_bodyWayX a0_bodyWayY a0_bodyMark v0) sz) (va_Qi (fun (r : Int32) (_ : Unit) => r = res) (BC D (fun _ : Unit => WS_X10_isFree cI cJ cZ cY a0 a0_own a0_bodyX a0_bodyY a0_bodyWayX a0_bodyWayY a0_bodyMark v0) (va_A (WS_X10_isFree cI cJ cZ cY a0 a0_own a0_bodyX a0_bodyY a0_bodyWayX a0_bodyWayY a0_bodyMark v0) sz)) (va_A (WS_X10_isFree cI cJ cZ cY a0 a0_own a0_bodyX a0_bodyY a0_bodyWayX a0_bodyWayY a0_bodyMark v0) sz)) 0 0 (va_A (WS_X10_isFree cI cJ cZ cY a0 a0_own a0_bodyX a0_bodyY a0_bodyWayX a0_bodyWayY a0_bodyMark v0) sz) := by
  refine Met.ofW (cc := cX10_isFree) (maxL := 4) (ret := (some .boolean)) (by decide) rfl ?_
  intro p e s m args below meth c s₁ B hml hv
  obtain ⟨hargs, hsz, hP, hK, hD0, hT⟩ := hv
  have hx := B.exec
  have hb := B.bytes
  have hr := B.returns
  have htb : ∀ w ∈ TB, w.before args s = true := fun w h => atoms_spec (ws := Cond.code yX10_isFree cX10_isFree 4 (some .boolean) :: TB) B.pre w (List.mem_cons_of_mem _ h)
  have hown : s.vm.findClass "ManyEyes$World" = some m.cls := findClass_of_methodNamed B.named
  have hlocks := B.notSynchronized
  subst hsz
  have hD := hD0.self (sz := s.heap.size)
  generalize hAe : va_A (WS_X10_isFree cI cJ cZ cY a0 a0_own a0_bodyX a0_bodyY a0_bodyWayX a0_bodyWayY a0_bodyMark v0) s.heap.size = A at hD hT ⊢
  have hA : ∀ q : Nat, s.heap.size ≤ q → A q := fun q h => by rw [← hAe]; exact Or.inr h
  have hS : va_S A s.heap s.heap [] := va_S.rf
  have hl := lv_entry ([.ref a0, .int p0, .int p1, .int p2]) (n := 4) (Nat.le_of_ble_eq_true rfl)
  have he : entryFrame m args 4 = F0 m 0 (lg_sl ([.ref a0, .int p0, .int p1, .int p2]) ++ List.replicate (4 - (lg_sl ([.ref a0, .int p0, .int p1, .int p2])).length) Slot.unset).toArray [] := by rw [hargs, lg_entry_eq]
  rw [he]
  generalize (lg_sl ([.ref a0, .int p0, .int p1, .int p2]) ++ List.replicate (4 - (lg_sl ([.ref a0, .int p0, .int p1, .int p2])).length) Slot.unset).toArray = ls at hl ⊢
  have hl : lv_has ls 4 [(0, .ref a0), (1, .int p0), (2, .int p1), (3, .int p2)] := hl
  show W p l e rm_X10_isFree s m args below meth c s.heap [] 0 0 _ _
  refine W.genQ (fun Q hQ => ?_)
  generalize hHe : s.heap = H at hP ⊢
  have hS : va_S A s.heap H [] := by rw [← hHe]; exact va_S.rf
  generalize ([] : List Loc) = locs at hS ⊢
  unfold f_X10_isFree at hg
  refine lv_aload_n hx hb dX10_isFree_0 rfl (lv_at hl 0 rfl) ?_
  refine lv_iload_n hx hb dX10_isFree_1 rfl (lv_at hl 1 rfl) ?_
  refine lv_iload_n hx hb dX10_isFree_2 rfl (lv_at hl 2 rfl) ?_
  obtain ⟨r_1, hr_1, hg⟩ := g_bd hg
  refine cc_i (va_runV (C := RX10) (As := [.int p0, .int p1]) (rest := []) ⟨hx, hb, hml, hown, htb⟩ (k_X10_isPlace a0 a0_own a0_bodyX a0_bodyY a0_bodyWayX a0_bodyWayY a0_bodyMark v0 p0 p1 r_1 hr_1) (cw_V 2 htb tg_499 tg_3 tg_742 tg_497 tg_498 rfl rfl (by decide +kernel) ⟨Nat.le_of_ble_eq_true rfl, Nat.le_of_ble_eq_true rfl⟩) ⟨PC.blind, va_recv hK.1 hP (ci := 9) (q0 := 0) rfl rfl, PC.pre hK hT hP hD hS hA [0, 1, 2, 3, 4, 5, 6] rfl (by decide)⟩ rfl rfl hl.1 rfl (lv_room (Nat.le_of_ble_eq_true rfl)) dX10_isFree_3 ⟨Nat.le_of_ble_eq_true rfl, Nat.le_of_ble_eq_true rfl⟩) hP hD hS hA [0, 1, 2, 3, 4, 5, 6] [] rfl rfl (by decide) (by decide) (fun r9 u9 H locs hw hP hD hS => ?_)
  have hw := hw.symm
  subst hw
  have hP : va_P D vwCl (WS_X10_isFree cI cJ cZ cY a0 a0_own a0_bodyX a0_bodyY a0_bodyWayX a0_bodyWayY a0_bodyMark v0) H := hP.sub [0, 1, 2, 3, 4, 5, 6] rfl
  have hD : va_D A (WS_X10_isFree cI cJ cZ cY a0 a0_own a0_bodyX a0_bodyY a0_bodyWayX a0_bodyWayY a0_bodyMark v0) := hD.sub [0, 1, 2, 3, 4, 5, 6] (by decide) rfl
  refine lv_if_eq (tgt := 35) hx hb dX10_isFree_6 (by decide) (fun c_2 => ?_) (fun c_2 => ?_)
  · have hg := g_it hg c_2
    refine lv_iconst (v := 0) hx hb dX10_isFree_35 (by decide) ?_
    have hg := Option.some.inj hg
    rw [hQ]
    exact W.zret (v := 0) (ty := .boolean) hx hb hr rfl (fun t ht hW => ⟨⟨0, (), rfl, hg, by rw [ht]; exact hP, hD⟩, hS.F ht⟩) hS.2.2 dX10_isFree_36
  · have hg := g_if hg c_2
    refine lv_aload_n hx hb dX10_isFree_9 rfl (lv_at hl 0 rfl) ?_
    refine lv_iload_n hx hb dX10_isFree_10 rfl (lv_at hl 2 rfl) ?_
    refine lv_bipush (v := 16) hx hb dX10_isFree_11 (by decide) ?_
    refine lv_idiv hx hb dX10_isFree_13 (by decide) ?_
    refine lv_aload_n hx hb dX10_isFree_14 rfl (lv_at hl 0 rfl) ?_
    refine va_get (ci := 9) (v := .int (pX10_w v0)) (C := RX10) (T := TX10) (N := 9) hx hb htb uX10 hown hK.1 hP 0 rfl rfl 0 (by decide) (htb _ tg_43) (fun _ h9 => h9) rfl dX10_isFree_15 ?_
    refine lv_imul hx hb dX10_isFree_18 ?_
    refine lv_iload_n hx hb dX10_isFree_19 rfl (lv_at hl 1 rfl) ?_
    refine lv_bipush (v := 16) hx hb dX10_isFree_20 (by decide) ?_
    refine lv_idiv hx hb dX10_isFree_22 (by decide) ?_
    refine lv_iadd hx hb dX10_isFree_23 ?_
    refine lv_iload_n hx hb dX10_isFree_24 rfl (lv_at hl 3 rfl) ?_
    obtain ⟨r_5, hr_5, hg⟩ := g_bd hg
    refine cc_i (va_runV (C := RX10) (As := [.int (((p1 / 16) * (pX10_w v0)) + (p0 / 16)), .int p2]) (rest := []) ⟨hx, hb, hml, hown, htb⟩ (k_X10_seenMark a0 a0_own a0_bodyX a0_bodyY a0_bodyWayX a0_bodyWayY a0_bodyMark v0 (((p1 / 16) * (pX10_w v0)) + (p0 / 16)) p2 r_5 hr_5) (cw_V 2 htb tg_470 tg_3 tg_743 tg_468 tg_469 rfl rfl (by decide +kernel) ⟨Nat.le_of_ble_eq_true rfl, Nat.le_of_ble_eq_true rfl⟩) ⟨PC.blind, va_recv hK.1 hP (ci := 9) (q0 := 0) rfl rfl, PC.pre hK hT hP hD hS hA [0, 1, 2, 3, 4, 5, 6] rfl (by decide)⟩ rfl rfl hl.1 rfl (lv_room (Nat.le_of_ble_eq_true rfl)) dX10_isFree_25 ⟨Nat.le_of_ble_eq_true rfl, Nat.le_of_ble_eq_true rfl⟩) hP hD hS hA [0, 1, 2, 3, 4, 5, 6] [] rfl rfl (by decide) (by decide) (fun r9 u9 H locs hw hP hD hS => ?_)
    have hw := hw.symm
    subst hw
    have hP : va_P D vwCl (WS_X10_isFree cI cJ cZ cY a0 a0_own a0_bodyX a0_bodyY a0_bodyWayX a0_bodyWayY a0_bodyMark v0) H := hP.sub [0, 1, 2, 3, 4, 5, 6] rfl
    have hD : va_D A (WS_X10_isFree cI cJ cZ cY a0 a0_own a0_bodyX a0_bodyY a0_bodyWayX a0_bodyWayY a0_bodyMark v0) := hD.sub [0, 1, 2, 3, 4, 5, 6] (by decide) rfl
    refine lv_if_ne (tgt := 35) hx hb dX10_isFree_28 (by decide) (fun c_6 => ?_) (fun c_6 => ?_)
    · have hg := g_if hg c_6
      refine lv_iconst (v := 0) hx hb dX10_isFree_35 (by decide) ?_
      have hg := Option.some.inj hg
      rw [hQ]
      exact W.zret (v := 0) (ty := .boolean) hx hb hr rfl (fun t ht hW => ⟨⟨0, (), rfl, hg, by rw [ht]; exact hP, hD⟩, hS.F ht⟩) hS.2.2 dX10_isFree_36
    · have hg := g_it hg c_6
      refine lv_iconst (v := 1) hx hb dX10_isFree_31 (by decide) ?_
      refine lv_goto (tgt := 36) hx hb dX10_isFree_32 (by decide) ?_
      have hg := Option.some.inj hg
      rw [hQ]
      exact W.zret (v := 1) (ty := .boolean) hx hb hr rfl (fun t ht hW => ⟨⟨1, (), rfl, hg, by rw [ht]; exact hP, hD⟩, hS.F ht⟩) hS.2.2 dX10_isFree_36

/-! ManyEyes.take(IIIII)I -/
def WS_X11_take (cI cJ cZ cY : ClassId) (a0 a0_tape a0_firstTakes r0_saved r0_flyer r0_parser a1 a1_codes r1_reads r1_flight a2 a2_view a2_rays a3 a3_lensSide a3_lensWidth a3_pairA a3_pairB a3_pairDelay a4 a4_own a4_bodyX a4_bodyY a4_bodyWayX a4_bodyWayY a4_bodyMark : Nat) (v0 : BX11) (v1 : BX8) (v2 : BX7) (v3 : BX1) (v4 : BX10) : va_W := (GX11o cI cJ cZ cY a0 a0_tape a0_firstTakes a1 r0_saved a2 r0_flyer r0_parser v0) ++ ((GX8 cI cJ cZ cY a1 a1_codes a4 a3 r1_reads r1_flight v1) ++ ((GX7 cI cJ cZ cY a2 a2_view a2_rays a4 v2) ++ ((GX1 cI cJ cZ cY a3 a3_lensSide a3_lensWidth a3_pairA a3_pairB a3_pairDelay v3) ++ ((GX10 cI cJ cZ cY a4 a4_own a4_bodyX a4_bodyY a4_bodyWayX a4_bodyWayY a4_bodyMark v4)))))
def f_X11_take (v0 : BX11) (v1 : BX8) (v2 : BX7) (v3 : BX1) (v4 : BX10) (p0 : Int32) (p1 : Int32) (p2 : Int32) (p3 : Int32) (p4 : Int32) : Option (Int32 × BX7) := (f_X1_isLens v3 p0).bind (fun r_1 => if (r_1 : Int32) = 0 then (some ((-1), v2)) else ((f_X11_isStanding v0 v1 v4 p1 p2 p3).bind (fun r_3 => if (r_3 : Int32) = 0 then (some ((-1), v2)) else ((f_X11_isTick p4).bind (fun r_5 => if (r_5 : Int32) = 0 then (some ((-1), v2)) else ((f_X7_look v2 v4 p1 p2 p4).bind (fun r_7 => g_gd (inB p0 16) (g_gd (inB p0 16) ((f_X7_weigh r_7 v4 ((pX1_lensSide v3) (p0 : Int32).toNatClampNeg) ((pX1_lensWidth v3) (p0 : Int32).toNatClampNeg) p3).bind (fun r_10 => some (r_10.1, r_10.2)))))))))))
abbrev rm_X11_take : Room := { frames := 3, cells := 0, slots := 0, locals := 89 }
set_option maxHeartbeats 4000000 in
set_option maxRecDepth 100000 in
theorem k_X11_take {l : Launch} {D : va_G} {cI cJ cZ cY : ClassId} {tX tY : Nat} {sz : Nat} (a0 a0_tape a0_firstTakes r0_saved r0_flyer r0_parser a1 a1_codes r1_reads r1_flight a2 a2_view a2_rays a3 a3_lensSide a3_lensWidth a3_pairA a3_pairB a3_pairDelay a4 a4_own a4_bodyX a4_bodyY a4_bodyWayX a4_bodyWayY a4_bodyMark : Nat) (v0 : BX11) (v1 : BX8) (v2 : BX7) (v3 : BX1) (v4 : BX10) (p0 : Int32) (p1 : Int32) (p2 : Int32) (p3 : Int32) (p4 : Int32) (res : Int32 × BX7) (hg : f_X11_take v0 v1 v2 v3 v4 p0 p1 p2 p3 p4 = some res) : Met l yX11_take (Cond.code yX11_take cX11_take 7 (some .int) :: TB) rm_X11_take (PC D cI cJ cZ cY tX tY [.ref a0, .int p0, .int p1, .int p2, .int p3, .int p4] (WS_X11_take cI cJ cZ cY a0 a0_tape a0_firstTakes r0_saved r0_flyer r0_parser a1 a1_codes r1_reads r1_flight a2 a2_view a2_rays a3 a3_lensSide a3_lensWidth a3_pairA a3_pairB a3_pairDelay a4 a4_own a4_bodyX a4_bodyY a4_bodyWayX a4_bodyWayY a4_bodyMark v0 v1 v2 v3 v4) sz) (va_Qi (fun (r : Int32) (u : BX7) => r = res.1 ∧ u = res.2) (BC D (fun u : BX7 => WS_X11_take cI cJ cZ cY a0 a0_tape a0_firstTakes r0_saved r0_flyer r0_parser a1 a1_codes r1_reads r1_flight a2 a2_view a2_rays a3 a3_lensSide a3_lensWidth a3_pairA a3_pairB a3_pairDelay a4 a4_own a4_bodyX a4_bodyY a4_bodyWayX a4_bodyWayY a4_bodyMark v0 v1 u v3 v4) (va_A (WS_X11_take cI cJ cZ cY a0 a0_tape a0_firstTakes r0_saved r0_flyer r0_parser a1 a1_codes r1_reads r1_flight a2 a2_view a2_rays a3 a3_lensSide a3_lensWidth a3_pairA a3_pairB a3_pairDelay a4 a4_own a4_bodyX a4_bodyY a4_bodyWayX a4_bodyWayY a4_bodyMark v0 v1 v2 v3 v4) sz)) (va_A (WS_X11_take cI cJ cZ cY a0 a0_tape a0_firstTakes r0_saved r0_flyer r0_parser a1 a1_codes r1_reads r1_flight a2 a2_view a2_rays a3 a3_lensSide a3_lensWidth a3_pairA a3_pairB a3_pairDelay a4 a4_own a4_bodyX a4_bodyY a4_bodyWayX a4_bodyWayY a4_bodyMark v0 v1 v2 v3 v4) sz)) 0 0 (va_A (WS_X11_take cI cJ cZ cY a0 a0_tape a0_firstTakes r0_saved r0_flyer r0_parser a1 a1_codes r1_reads r1_flight a2 a2_view a2_rays a3 a3_lensSide a3_lensWidth a3_pairA a3_pairB a3_pairDelay a4 a4_own a4_bodyX a4_bodyY a4_bodyWayX a4_bodyWayY a4_bodyMark v0 v1 v2 v3 v4) sz) := by
  refine Met.ofW (cc := cX11_take) (maxL := 7) (ret := (some .int)) (by decide) rfl ?_
  intro p e s m args below meth c s₁ B hml hv
  obtain ⟨hargs, hsz, hP, hK, hD0, hT⟩ := hv
  have hx := B.exec
  have hb := B.bytes
  have hr := B.returns
  have htb : ∀ w ∈ TB, w.before args s = true := fun w h => atoms_spec (ws := Cond.code yX11_take cX11_take 7 (some .int) :: TB) B.pre w (List.mem_cons_of_mem _ h)
  have hown : s.vm.findClass "ManyEyes" = some m.cls := findClass_of_methodNamed B.named
  have hlocks := B.notSynchronized
  subst hsz
  have hD := hD0.self (sz := s.heap.size)
  generalize hAe : va_A (WS_X11_take cI cJ cZ cY a0 a0_tape a0_firstTakes r0_saved r0_flyer r0_parser a1 a1_codes r1_reads r1_flight a2 a2_view a2_rays a3 a3_lensSide a3_lensWidth a3_pairA a3_pairB a3_pairDelay a4 a4_own a4_bodyX a4_bodyY a4_bodyWayX a4_bodyWayY a4_bodyMark v0 v1 v2 v3 v4) s.heap.size = A at hD hT ⊢
  have hA : ∀ q : Nat, s.heap.size ≤ q → A q := fun q h => by rw [← hAe]; exact Or.inr h
  have hS : va_S A s.heap s.heap [] := va_S.rf
  have hl := lv_entry ([.ref a0, .int p0, .int p1, .int p2, .int p3, .int p4]) (n := 7) (Nat.le_of_ble_eq_true rfl)
  have he : entryFrame m args 7 = F0 m 0 (lg_sl ([.ref a0, .int p0, .int p1, .int p2, .int p3, .int p4]) ++ List.replicate (7 - (lg_sl ([.ref a0, .int p0, .int p1, .int p2, .int p3, .int p4])).length) Slot.unset).toArray [] := by rw [hargs, lg_entry_eq]
  rw [he]
  generalize (lg_sl ([.ref a0, .int p0, .int p1, .int p2, .int p3, .int p4]) ++ List.replicate (7 - (lg_sl ([.ref a0, .int p0, .int p1, .int p2, .int p3, .int p4])).length) Slot.unset).toArray = ls at hl ⊢
  have hl : lv_has ls 7 [(0, .ref a0), (1, .int p0), (2, .int p1), (3, .int p2), (4, .int p3), (5, .int p4)] := hl
  show W p l e rm_X11_take s m args below meth c s.heap [] 0 0 _ _
  refine W.genQ (fun Q hQ => ?_)
  generalize hHe : s.heap = H at hP ⊢
  have hS : va_S A s.heap H [] := by rw [← hHe]; exact va_S.rf
  generalize ([] : List Loc) = locs at hS ⊢
  unfold f_X11_take at hg
  refine lv_aload_n hx hb dX11_take_0 rfl (lv_at hl 0 rfl) ?_
  refine va_get (ci := 10) (v := .ref a1) (C := RX11) (T := TX11) (N := 9) hx hb htb uX11 hown hK.1 hP 0 rfl rfl 0 (by decide) (htb _ tg_412) (fun _ h9 => h9) rfl dX11_take_1 ?_
  refine va_get (ci := 7) (v := .ref a3) (C := RX8) (T := TX8) (N := 6) hx hb htb uX8 hown hK.1 hP 1 rfl rfl 1 (by decide) (htb _ tg_237) (fun _ h9 => h9) rfl dX11_take_4 ?_
  refine lv_astore (lv' := [(6, .ref a3), (0, .ref a0), (1, .int p0), (2, .int p1), (3, .int p2), (4, .int p3), (5, .int p4)]) hx hb dX11_take_7 hl (by decide) rfl (fun ls hl => ?_)
  refine lv_aload hx hb dX11_take_9 (lv_at hl 0 rfl) ?_
  refine lv_iload_n hx hb dX11_take_11 rfl (lv_at hl 2 rfl) ?_
  obtain ⟨r_1, hr_1, hg⟩ := g_bd hg
  refine cc_i (va_runV (C := RX1) (As := [.int p0]) (rest := []) ⟨hx, hb, hml, hown, htb⟩ (k_X1_isLens a3 a3_lensSide a3_lensWidth a3_pairA a3_pairB a3_pairDelay v3 p0 r_1 hr_1) (cw_V 1 htb tg_490 tg_5 tg_487 tg_488 tg_489 rfl rfl (by decide +kernel) ⟨Nat.le_of_ble_eq_true rfl, Nat.le_of_ble_eq_true rfl⟩) ⟨PC.blind, va_recv hK.1 hP (ci := 0) (q0 := 6) rfl rfl, PC.pre hK hT hP hD hS hA [6, 7, 8, 9, 10, 11] rfl (by decide)⟩ rfl rfl hl.1 rfl (lv_room (Nat.le_of_ble_eq_true rfl)) dX11_take_12 ⟨Nat.le_of_ble_eq_true rfl, Nat.le_of_ble_eq_true rfl⟩) hP hD hS hA [6, 7, 8, 9, 10, 11] [0, 1, 2, 3, 4, 5, 12, 13, 14, 15, 16, 17, 18] rfl rfl (by decide) (by decide) (fun r9 u9 H locs hw hP hD hS => ?_)
  have hw := hw.symm
  subst hw
  have hP : va_P D vwCl (WS_X11_take cI cJ cZ cY a0 a0_tape a0_firstTakes r0_saved r0_flyer r0_parser a1 a1_codes r1_reads r1_flight a2 a2_view a2_rays a3 a3_lensSide a3_lensWidth a3_pairA a3_pairB a3_pairDelay a4 a4_own a4_bodyX a4_bodyY a4_bodyWayX a4_bodyWayY a4_bodyMark v0 v1 v2 v3 v4) H := hP.sub [0, 1, 2, 3, 4, 5, 13, 14, 15, 16, 17, 18, 6, 7, 8, 9, 10, 11, 12] rfl
  have hD : va_D A (WS_X11_take cI cJ cZ cY a0 a0_tape a0_firstTakes r0_saved r0_flyer r0_parser a1 a1_codes r1_reads r1_flight a2 a2_view a2_rays a3 a3_lensSide a3_lensWidth a3_pairA a3_pairB a3_pairDelay a4 a4_own a4_bodyX a4_bodyY a4_bodyWayX a4_bodyWayY a4_bodyMark v0 v1 v2 v3 v4) := hD.sub [0, 1, 2, 3, 4, 5, 13, 14, 15, 16, 17, 18, 6, 7, 8, 9, 10, 11, 12] (by decide) rfl
  refine lv_if_eq (tgt := 37) hx hb dX11_take_15 (by decide) (fun c_2 => ?_) (fun c_2 => ?_)
  · have hg := g_it hg c_2
    refine lv_iconst (v := (-1)) hx hb dX11_take_37 (by decide) ?_
    have hg := Option.some.inj hg
    rw [hQ]
    exact W.iret (v := (-1)) hx hb hr (fun t ht hW => ⟨⟨(-1), (v2), rfl, ⟨by rw [← hg], by rw [← hg]⟩, by rw [ht]; exact hP, hD⟩, hS.F ht⟩) hS.2.2 dX11_take_38
  · have hg := g_if hg c_2
    refine lv_aload_n hx hb dX11_take_18 rfl (lv_at hl 1 rfl) ?_
    refine lv_iload_n hx hb dX11_take_19 rfl (lv_at hl 3 rfl) ?_
    refine lv_iload_n hx hb dX11_take_20 rfl (lv_at hl 4 rfl) ?_
    refine lv_iload hx hb dX11_take_21 (lv_at hl 5 rfl) ?_
    obtain ⟨r_3, hr_3, hg⟩ := g_bd hg
    refine cc_i (va_runV (C := RX11) (As := [.int p1, .int p2, .int p3]) (rest := []) ⟨hx, hb, hml, hown, htb⟩ (k_X11_isStanding a0 a0_tape a0_firstTakes r0_saved a2 r0_flyer r0_parser a1 a1_codes a3 r1_reads r1_flight a4 a4_own a4_bodyX a4_bodyY a4_bodyWayX a4_bodyWayY a4_bodyMark v0 v1 v4 p1 p2 p3 r_3 hr_3) (cw_V 3 htb tg_526 tg_1 tg_523 tg_525 ts_0 rfl rfl (by decide +kernel) ⟨Nat.le_of_ble_eq_true rfl, Nat.le_of_ble_eq_true rfl⟩) ⟨PC.blind, va_recv hK.1 hP (ci := 10) (q0 := 0) rfl rfl, PC.pre hK hT hP hD hS hA [0, 1, 2, 12, 13, 14, 15, 16, 17, 18] rfl (by decide)⟩ rfl rfl hl.1 rfl (lv_room (Nat.le_of_ble_eq_true rfl)) dX11_take_23 ⟨Nat.le_of_ble_eq_true rfl, Nat.le_of_ble_eq_true rfl⟩) hP hD hS hA [0, 1, 2, 12, 13, 14, 15, 16, 17, 18] [3, 4, 5, 6, 7, 8, 9, 10, 11] rfl rfl (by decide) (by decide) (fun r9 u9 H locs hw hP hD hS => ?_)
    have hw := hw.symm
    subst hw
    have hP : va_P D vwCl (WS_X11_take cI cJ cZ cY a0 a0_tape a0_firstTakes r0_saved r0_flyer r0_parser a1 a1_codes r1_reads r1_flight a2 a2_view a2_rays a3 a3_lensSide a3_lensWidth a3_pairA a3_pairB a3_pairDelay a4 a4_own a4_bodyX a4_bodyY a4_bodyWayX a4_bodyWayY a4_bodyMark v0 v1 v2 v3 v4) H := hP.sub [9, 10, 11, 0, 1, 2, 3, 4, 5, 6, 7, 8, 12, 13, 14, 15, 16, 17, 18] rfl
    have hD : va_D A (WS_X11_take cI cJ cZ cY a0 a0_tape a0_firstTakes r0_saved r0_flyer r0_parser a1 a1_codes r1_reads r1_flight a2 a2_view a2_rays a3 a3_lensSide a3_lensWidth a3_pairA a3_pairB a3_pairDelay a4 a4_own a4_bodyX a4_bodyY a4_bodyWayX a4_bodyWayY a4_bodyMark v0 v1 v2 v3 v4) := hD.sub [9, 10, 11, 0, 1, 2, 3, 4, 5, 6, 7, 8, 12, 13, 14, 15, 16, 17, 18] (by decide) rfl
    refine lv_if_eq (tgt := 37) hx hb dX11_take_26 (by decide) (fun c_4 => ?_) (fun c_4 => ?_)
    · have hg := g_it hg c_4
      refine lv_iconst (v := (-1)) hx hb dX11_take_37 (by decide) ?_
      have hg := Option.some.inj hg
      rw [hQ]
      exact W.iret (v := (-1)) hx hb hr (fun t ht hW => ⟨⟨(-1), (v2), rfl, ⟨by rw [← hg], by rw [← hg]⟩, by rw [ht]; exact hP, hD⟩, hS.F ht⟩) hS.2.2 dX11_take_38
    · have hg := g_if hg c_4
      refine lv_iload hx hb dX11_take_29 (lv_at hl 6 rfl) ?_
      obtain ⟨r_5, hr_5, hg⟩ := g_bd hg
      refine cc_i (va_runS (As := [.int p4]) (rest := []) ⟨hx, hb, hml, hown, htb⟩ (k_X11_isTick p4 r_5 hr_5) (cw_S 1 htb tg_466 tg_1 tg_464 tg_465 rfl rfl (by decide +kernel) ⟨Nat.le_of_ble_eq_true rfl, Nat.le_of_ble_eq_true rfl⟩) ⟨PC.blind, PC.pre hK hT hP hD hS hA [] rfl (by decide)⟩ rfl rfl hl.1 rfl (lv_room (Nat.le_of_ble_eq_true rfl)) dX11_take_31 ⟨Nat.le_of_ble_eq_true rfl, Nat.le_of_ble_eq_true rfl⟩) hP hD hS hA [] [0, 1, 2, 3, 4, 5, 6, 7, 8, 9, 10, 11, 12, 13, 14, 15, 16, 17, 18] rfl rfl (by decide) (by decide) (fun r9 u9 H locs hw hP hD hS => ?_)
      have hw := hw.symm
      subst hw
      have hP : va_P D vwCl (WS_X11_take cI cJ cZ cY a0 a0_tape a0_firstTakes r0_saved r0_flyer r0_parser a1 a1_codes r1_reads r1_flight a2 a2_view a2_rays a3 a3_lensSide a3_lensWidth a3_pairA a3_pairB a3_pairDelay a4 a4_own a4_bodyX a4_bodyY a4_bodyWayX a4_bodyWayY a4_bodyMark v0 v1 v2 v3 v4) H := hP.sub [0, 1, 2, 3, 4, 5, 6, 7, 8, 9, 10, 11, 12, 13, 14, 15, 16, 17, 18] rfl
      have hD : va_D A (WS_X11_take cI cJ cZ cY a0 a0_tape a0_firstTakes r0_saved r0_flyer r0_parser a1 a1_codes r1_reads r1_flight a2 a2_view a2_rays a3 a3_lensSide a3_lensWidth a3_pairA a3_pairB a3_pairDelay a4 a4_own a4_bodyX a4_bodyY a4_bodyWayX a4_bodyWayY a4_bodyMark v0 v1 v2 v3 v4) := hD.sub [0, 1, 2, 3, 4, 5, 6, 7, 8, 9, 10, 11, 12, 13, 14, 15, 16, 17, 18] (by decide) rfl
      refine lv_if_ne (tgt := 39) hx hb dX11_take_34 (by decide) (fun c_6 => ?_) (fun c_6 => ?_)
      · have hg := g_if hg c_6
        refine lv_aload_n hx hb dX11_take_39 rfl (lv_at hl 1 rfl) ?_
        refine va_get (ci := 10) (v := .ref a2) (C := RX11) (T := TX11) (N := 9) hx hb htb uX11 hown hK.1 hP 0 rfl rfl 2 (by decide) (htb _ tg_414) (fun _ h9 => h9) rfl dX11_take_40 ?_
        refine lv_iload_n hx hb dX11_take_43 rfl (lv_at hl 3 rfl) ?_
        refine lv_iload_n hx hb dX11_take_44 rfl (lv_at hl 4 rfl) ?_
        refine lv_iload hx hb dX11_take_45 (lv_at hl 6 rfl) ?_
        obtain ⟨r_7, hr_7, hg⟩ := g_bd hg
        refine cc_v (va_runV (C := RX7) (As := [.int p1, .int p2, .int p4]) (rest := []) ⟨hx, hb, hml, hown, htb⟩ (k_X7_look a2 a2_view a2_rays a4 a4_own a4_bodyX a4_bodyY a4_bodyWayX a4_bodyWayY a4_bodyMark v2 v4 p1 p2 p4 r_7 hr_7) (cw_V 3 htb tg_503 tg_8 tg_500 tg_501 tg_502 rfl rfl (by decide +kernel) ⟨Nat.le_of_ble_eq_true rfl, Nat.le_of_ble_eq_true rfl⟩) ⟨PC.blind, va_recv hK.1 hP (ci := 6) (q0 := 3) rfl rfl, PC.pre hK hT hP hD hS hA [3, 4, 5, 12, 13, 14, 15, 16, 17, 18] rfl (by decide)⟩ rfl rfl hl.1 rfl (lv_room (Nat.le_of_ble_eq_true rfl)) dX11_take_47 ⟨Nat.le_of_ble_eq_true rfl, Nat.le_of_ble_eq_true rfl⟩) hP hD hS hA [3, 4, 5, 12, 13, 14, 15, 16, 17, 18] [0, 1, 2, 6, 7, 8, 9, 10, 11] rfl rfl (by decide) (by decide) (fun u9 H locs hw hP hD hS => ?_)
        have hw := hw.symm
        subst hw
        have hP : va_P D vwCl (WS_X11_take cI cJ cZ cY a0 a0_tape a0_firstTakes r0_saved r0_flyer r0_parser a1 a1_codes r1_reads r1_flight a2 a2_view a2_rays a3 a3_lensSide a3_lensWidth a3_pairA a3_pairB a3_pairDelay a4 a4_own a4_bodyX a4_bodyY a4_bodyWayX a4_bodyWayY a4_bodyMark v0 v1 r_7 v3 v4) H := hP.sub [0, 1, 2, 9, 10, 11, 3, 4, 5, 6, 7, 8, 12, 13, 14, 15, 16, 17, 18] rfl
        have hD : va_D A (WS_X11_take cI cJ cZ cY a0 a0_tape a0_firstTakes r0_saved r0_flyer r0_parser a1 a1_codes r1_reads r1_flight a2 a2_view a2_rays a3 a3_lensSide a3_lensWidth a3_pairA a3_pairB a3_pairDelay a4 a4_own a4_bodyX a4_bodyY a4_bodyWayX a4_bodyWayY a4_bodyMark v0 v1 r_7 v3 v4) := hD.sub [0, 1, 2, 9, 10, 11, 3, 4, 5, 6, 7, 8, 12, 13, 14, 15, 16, 17, 18] (by decide) rfl
        refine lv_aload_n hx hb dX11_take_50 rfl (lv_at hl 1 rfl) ?_
        refine va_get (ci := 10) (v := .ref a2) (C := RX11) (T := TX11) (N := 9) hx hb htb uX11 hown hK.1 hP 0 rfl rfl 2 (by decide) (htb _ tg_414) (fun _ h9 => h9) rfl dX11_take_51 ?_
        refine lv_aload hx hb dX11_take_54 (lv_at hl 0 rfl) ?_
        refine va_get (ci := 0) (v := .ref a3_lensSide) (C := RX1) (T := TX1) (N := 7) hx hb htb uX1 hown hK.1 hP 6 rfl rfl 0 (by decide) (htb _ tg_93) (fun _ h9 => h9) rfl dX11_take_56 ?_
        refine lv_iload_n hx hb dX11_take_59 rfl (lv_at hl 2 rfl) ?_
        obtain ⟨h_8, hg⟩ := g_gde hg
        refine va_iald hx hb hK.1 hP 7 0 rfl rfl (inB_vp h_8) dX11_take_60 ?_
        refine lv_aload hx hb dX11_take_61 (lv_at hl 0 rfl) ?_
        refine va_get (ci := 0) (v := .ref a3_lensWidth) (C := RX1) (T := TX1) (N := 7) hx hb htb uX1 hown hK.1 hP 6 rfl rfl 1 (by decide) (htb _ tg_96) (fun _ h9 => h9) rfl dX11_take_63 ?_
        refine lv_iload_n hx hb dX11_take_66 rfl (lv_at hl 2 rfl) ?_
        obtain ⟨h_9, hg⟩ := g_gde hg
        refine va_iald hx hb hK.1 hP 8 0 rfl rfl (inB_vp h_9) dX11_take_67 ?_
        refine lv_iload hx hb dX11_take_68 (lv_at hl 5 rfl) ?_
        obtain ⟨r_10, hr_10, hg⟩ := g_bd hg
        refine cc_i (va_runV (C := RX7) (As := [.int ((pX1_lensSide v3) (p0 : Int32).toNatClampNeg), .int ((pX1_lensWidth v3) (p0 : Int32).toNatClampNeg), .int p3]) (rest := []) ⟨hx, hb, hml, hown, htb⟩ (k_X7_weigh a2 a2_view a2_rays a4 a4_own a4_bodyX a4_bodyY a4_bodyWayX a4_bodyWayY a4_bodyMark r_7 v4 ((pX1_lensSide v3) (p0 : Int32).toNatClampNeg) ((pX1_lensWidth v3) (p0 : Int32).toNatClampNeg) p3 r_10 hr_10) (cw_V 3 htb tg_530 tg_8 tg_527 tg_528 tg_529 rfl rfl (by decide +kernel) ⟨Nat.le_of_ble_eq_true rfl, Nat.le_of_ble_eq_true rfl⟩) ⟨PC.blind, va_recv hK.1 hP (ci := 6) (q0 := 3) rfl rfl, PC.pre hK hT hP hD hS hA [3, 4, 5, 12, 13, 14, 15, 16, 17, 18] rfl (by decide)⟩ rfl rfl hl.1 rfl (lv_room (Nat.le_of_ble_eq_true rfl)) dX11_take_70 ⟨Nat.le_of_ble_eq_true rfl, Nat.le_of_ble_eq_true rfl⟩) hP hD hS hA [3, 4, 5, 12, 13, 14, 15, 16, 17, 18] [0, 1, 2, 6, 7, 8, 9, 10, 11] rfl rfl (by decide) (by decide) (fun r9 u9 H locs hw hP hD hS => ?_)
        obtain ⟨rfl, rfl⟩ := hw
        have hP : va_P D vwCl (WS_X11_take cI cJ cZ cY a0 a0_tape a0_firstTakes r0_saved r0_flyer r0_parser a1 a1_codes r1_reads r1_flight a2 a2_view a2_rays a3 a3_lensSide a3_lensWidth a3_pairA a3_pairB a3_pairDelay a4 a4_own a4_bodyX a4_bodyY a4_bodyWayX a4_bodyWayY a4_bodyMark v0 v1 r_10.2 v3 v4) H := hP.sub [0, 1, 2, 9, 10, 11, 3, 4, 5, 6, 7, 8, 12, 13, 14, 15, 16, 17, 18] rfl
        have hD : va_D A (WS_X11_take cI cJ cZ cY a0 a0_tape a0_firstTakes r0_saved r0_flyer r0_parser a1 a1_codes r1_reads r1_flight a2 a2_view a2_rays a3 a3_lensSide a3_lensWidth a3_pairA a3_pairB a3_pairDelay a4 a4_own a4_bodyX a4_bodyY a4_bodyWayX a4_bodyWayY a4_bodyMark v0 v1 r_10.2 v3 v4) := hD.sub [0, 1, 2, 9, 10, 11, 3, 4, 5, 6, 7, 8, 12, 13, 14, 15, 16, 17, 18] (by decide) rfl
        have hg := Option.some.inj hg
        rw [hQ]
        exact W.iret (v := r_10.1) hx hb hr (fun t ht hW => ⟨⟨r_10.1, (r_10.2), rfl, ⟨by rw [← hg], by rw [← hg]⟩, by rw [ht]; exact hP, hD⟩, hS.F ht⟩) hS.2.2 dX11_take_73
      · have hg := g_it hg c_6
        refine lv_iconst (v := (-1)) hx hb dX11_take_37 (by decide) ?_
        have hg := Option.some.inj hg
        rw [hQ]
        exact W.iret (v := (-1)) hx hb hr (fun t ht hW => ⟨⟨(-1), (v2), rfl, ⟨by rw [← hg], by rw [← hg]⟩, by rw [ht]; exact hP, hD⟩, hS.F ht⟩) hS.2.2 dX11_take_38

/-! ManyEyes.ends(IIIIZ)I -/
def WS_X11_ends (cI cJ cZ cY : ClassId) (a0 a0_tape a0_firstTakes r0_saved r0_flyer r0_parser a1 a1_codes r1_reads r1_flight a2 a2_view a2_rays a3 a3_lensSide a3_lensWidth a3_pairA a3_pairB a3_pairDelay a4 a4_own a4_bodyX a4_bodyY a4_bodyWayX a4_bodyWayY a4_bodyMark : Nat) (v0 : BX11) (v1 : BX8) (v2 : BX7) (v3 : BX1) (v4 : BX10) : va_W := (GX11o cI cJ cZ cY a0 a0_tape a0_firstTakes a1 r0_saved a2 r0_flyer r0_parser v0) ++ ((GX8 cI cJ cZ cY a1 a1_codes a4 a3 r1_reads r1_flight v1) ++ ((GX7 cI cJ cZ cY a2 a2_view a2_rays a4 v2) ++ ((GX1 cI cJ cZ cY a3 a3_lensSide a3_lensWidth a3_pairA a3_pairB a3_pairDelay v3) ++ ((GX10 cI cJ cZ cY a4 a4_own a4_bodyX a4_bodyY a4_bodyWayX a4_bodyWayY a4_bodyMark v4)))))
def f_X11_ends_b161 (v0 : BX11) (v1 : BX8) (v3 : BX1) (v4 : BX10) (J50 : (Int32 × Int32 × Int32 × Int32 × Int32 × Int32 × BX7) → Option (Int32 × BX7)) (x1 : Int32) (x4 : Int32) (x5 : Int32) (x7 : Int32) (x8 : Int32) (x9 : Int32) (v2 : BX7) : Option (Int32 × BX7) := g_lt (x9 + 1 : Int32) (fun x9_1 => J50 (x1, x4, x5, x7, x8, x9_1, v2))
def f_X11_ends_b50B (v0 : BX11) (v1 : BX8) (v3 : BX1) (v4 : BX10) (J50 : Int32 × Int32 × Int32 × Int32 × Int32 × Int32 × BX7 → Option (Int32 × BX7)) (x1 : Int32) (x4 : Int32) (x5 : Int32) (x7 : Int32) (x8 : Int32) (x9 : Int32) (v2 : BX7) : Option (Int32 × BX7) := if ((pX1_lenses v3) : Int32) ≤ x9 then (if (x5 : Int32) = 0 then (some (x7, v2)) else (some (x8, v2))) else ((f_X1_weightOf v3 x9 x1).bind (fun r_4 => if (r_4 : Int32) ≤ 0 then (f_X11_ends_b161 v0 v1 v3 v4 J50 x1 x4 x5 x7 x8 x9 v2) else (g_gd (inB x9 16) ((f_X1_allWeights ((pX1_lensWidth v3) (x9 : Int32).toNatClampNeg)).bind (fun r_7 => g_gd (inB x9 16) (g_gd (inB x9 16) ((f_X7_weigh v2 v4 ((pX1_lensSide v3) (x9 : Int32).toNatClampNeg) ((pX1_lensWidth v3) (x9 : Int32).toNatClampNeg) x4).bind (fun r_10 => (f_X11_ceilDiv ((r_10.1 * r_7) - ((255 : Int32) * (r_7 - r_4))) r_4).bind (fun r_11 => g_lt ((if (x7 : Int32) < r_11 then r_11 else x7) : Int32) (fun x7_12 => g_gd (¬ (r_4 : Int32) = 0) (g_lt ((if (((((r_10.1 + 1) * r_7) - 1) / r_4) : Int32) < x8 then ((((r_10.1 + 1) * r_7) - 1) / r_4) else x8) : Int32) (fun x8_14 => f_X11_ends_b161 v0 v1 v3 v4 J50 x1 x4 x5 x7_12 x8_14 x9 r_10.2))))))))))))
def f_X11_ends_b50 (v0 : BX11) (v1 : BX8) (v3 : BX1) (v4 : BX10) : Nat → (Int32 × Int32 × Int32 × Int32 × Int32 × Int32 × BX7) → Option (Int32 × BX7) := g_lp (fun J z => f_X11_ends_b50B v0 v1 v3 v4 J z.1 z.2.1 z.2.2.1 z.2.2.2.1 z.2.2.2.2.1 z.2.2.2.2.2.1 z.2.2.2.2.2.2)
def f_X11_ends (v0 : BX11) (v1 : BX8) (v2 : BX7) (v3 : BX1) (v4 : BX10) (p0 : Int32) (p1 : Int32) (p2 : Int32) (p3 : Int32) (p4 : Int32) : Option (Int32 × BX7) := (f_X11_isSide p0).bind (fun r_15 => if (r_15 : Int32) = 0 then (some ((-1), v2)) else ((f_X11_isStanding v0 v1 v4 p1 p2 p3).bind (fun r_17 => if (r_17 : Int32) = 0 then (some ((-1), v2)) else ((f_X7_look v2 v4 p1 p2 0).bind (fun r_19 => f_X11_ends_b50 v0 v1 v3 v4 fU (p0, p3, p4, 0, 255, 0, r_19))))))
abbrev rm_X11_ends : Room := { frames := 3, cells := 0, slots := 0, locals := 89 }
set_option maxHeartbeats 4000000 in
set_option maxRecDepth 100000 in
theorem k_X11_ends {l : Launch} {D : va_G} {cI cJ cZ cY : ClassId} {tX tY : Nat} {sz : Nat} (a0 a0_tape a0_firstTakes r0_saved r0_flyer r0_parser a1 a1_codes r1_reads r1_flight a2 a2_view a2_rays a3 a3_lensSide a3_lensWidth a3_pairA a3_pairB a3_pairDelay a4 a4_own a4_bodyX a4_bodyY a4_bodyWayX a4_bodyWayY a4_bodyMark : Nat) (v0 : BX11) (v1 : BX8) (v2 : BX7) (v3 : BX1) (v4 : BX10) (p0 : Int32) (p1 : Int32) (p2 : Int32) (p3 : Int32) (p4 : Int32) (res : Int32 × BX7) (hg : f_X11_ends v0 v1 v2 v3 v4 p0 p1 p2 p3 p4 = some res) : Met l yX11_ends (Cond.code yX11_ends cX11_ends 13 (some .int) :: TB) rm_X11_ends (PC D cI cJ cZ cY tX tY [.ref a0, .int p0, .int p1, .int p2, .int p3, .int p4] (WS_X11_ends cI cJ cZ cY a0 a0_tape a0_firstTakes r0_saved r0_flyer r0_parser a1 a1_codes r1_reads r1_flight a2 a2_view a2_rays a3 a3_lensSide a3_lensWidth a3_pairA a3_pairB a3_pairDelay a4 a4_own a4_bodyX a4_bodyY a4_bodyWayX a4_bodyWayY a4_bodyMark v0 v1 v2 v3 v4) sz) (va_Qi (fun (r : Int32) (u : BX7) => r = res.1 ∧ u = res.2) (BC D (fun u : BX7 => WS_X11_ends cI cJ cZ cY a0 a0_tape a0_firstTakes r0_saved r0_flyer r0_parser a1 a1_codes r1_reads r1_flight a2 a2_view a2_rays a3 a3_lensSide a3_lensWidth a3_pairA a3_pairB a3_pairDelay a4 a4_own a4_bodyX a4_bodyY a4_bodyWayX a4_bodyWayY a4_bodyMark v0 v1 u v3 v4) (va_A (WS_X11_ends cI cJ cZ cY a0 a0_tape a0_firstTakes r0_saved r0_flyer r0_parser a1 a1_codes r1_reads r1_flight a2 a2_view a2_rays a3 a3_lensSide a3_lensWidth a3_pairA a3_pairB a3_pairDelay a4 a4_own a4_bodyX a4_bodyY a4_bodyWayX a4_bodyWayY a4_bodyMark v0 v1 v2 v3 v4) sz)) (va_A (WS_X11_ends cI cJ cZ cY a0 a0_tape a0_firstTakes r0_saved r0_flyer r0_parser a1 a1_codes r1_reads r1_flight a2 a2_view a2_rays a3 a3_lensSide a3_lensWidth a3_pairA a3_pairB a3_pairDelay a4 a4_own a4_bodyX a4_bodyY a4_bodyWayX a4_bodyWayY a4_bodyMark v0 v1 v2 v3 v4) sz)) 0 0 (va_A (WS_X11_ends cI cJ cZ cY a0 a0_tape a0_firstTakes r0_saved r0_flyer r0_parser a1 a1_codes r1_reads r1_flight a2 a2_view a2_rays a3 a3_lensSide a3_lensWidth a3_pairA a3_pairB a3_pairDelay a4 a4_own a4_bodyX a4_bodyY a4_bodyWayX a4_bodyWayY a4_bodyMark v0 v1 v2 v3 v4) sz) := by
  refine Met.ofW (cc := cX11_ends) (maxL := 13) (ret := (some .int)) (by decide) rfl ?_
  intro p e s m args below meth c s₁ B hml hv
  obtain ⟨hargs, hsz, hP, hK, hD0, hT⟩ := hv
  have hx := B.exec
  have hb := B.bytes
  have hr := B.returns
  have htb : ∀ w ∈ TB, w.before args s = true := fun w h => atoms_spec (ws := Cond.code yX11_ends cX11_ends 13 (some .int) :: TB) B.pre w (List.mem_cons_of_mem _ h)
  have hown : s.vm.findClass "ManyEyes" = some m.cls := findClass_of_methodNamed B.named
  have hlocks := B.notSynchronized
  subst hsz
  have hD := hD0.self (sz := s.heap.size)
  generalize hAe : va_A (WS_X11_ends cI cJ cZ cY a0 a0_tape a0_firstTakes r0_saved r0_flyer r0_parser a1 a1_codes r1_reads r1_flight a2 a2_view a2_rays a3 a3_lensSide a3_lensWidth a3_pairA a3_pairB a3_pairDelay a4 a4_own a4_bodyX a4_bodyY a4_bodyWayX a4_bodyWayY a4_bodyMark v0 v1 v2 v3 v4) s.heap.size = A at hD hT ⊢
  have hA : ∀ q : Nat, s.heap.size ≤ q → A q := fun q h => by rw [← hAe]; exact Or.inr h
  have hS : va_S A s.heap s.heap [] := va_S.rf
  have hl := lv_entry ([.ref a0, .int p0, .int p1, .int p2, .int p3, .int p4]) (n := 13) (Nat.le_of_ble_eq_true rfl)
  have he : entryFrame m args 13 = F0 m 0 (lg_sl ([.ref a0, .int p0, .int p1, .int p2, .int p3, .int p4]) ++ List.replicate (13 - (lg_sl ([.ref a0, .int p0, .int p1, .int p2, .int p3, .int p4])).length) Slot.unset).toArray [] := by rw [hargs, lg_entry_eq]
  rw [he]
  generalize (lg_sl ([.ref a0, .int p0, .int p1, .int p2, .int p3, .int p4]) ++ List.replicate (13 - (lg_sl ([.ref a0, .int p0, .int p1, .int p2, .int p3, .int p4])).length) Slot.unset).toArray = ls at hl ⊢
  have hl : lv_has ls 13 [(0, .ref a0), (1, .int p0), (2, .int p1), (3, .int p2), (4, .int p3), (5, .int p4)] := hl
  show W p l e rm_X11_ends s m args below meth c s.heap [] 0 0 _ _
  refine W.genQ (fun Q hQ => ?_)
  have b_161 : ∀ (J50 : (Int32 × Int32 × Int32 × Int32 × Int32 × Int32 × BX7) → Option (Int32 × BX7)) (hJ50 : ∀ (x1 : Int32) (x4 : Int32) (x5 : Int32) (x7 : Int32) (x8 : Int32) (x9 : Int32) (v2 : BX7) (H : Heap) (locs : List Loc) (ls : Array Slot), va_P D vwCl (WS_X11_ends cI cJ cZ cY a0 a0_tape a0_firstTakes r0_saved r0_flyer r0_parser a1 a1_codes r1_reads r1_flight a2 a2_view a2_rays a3 a3_lensSide a3_lensWidth a3_pairA a3_pairB a3_pairDelay a4 a4_own a4_bodyX a4_bodyY a4_bodyWayX a4_bodyWayY a4_bodyMark v0 v1 v2 v3 v4) H → va_D A (WS_X11_ends cI cJ cZ cY a0 a0_tape a0_firstTakes r0_saved r0_flyer r0_parser a1 a1_codes r1_reads r1_flight a2 a2_view a2_rays a3 a3_lensSide a3_lensWidth a3_pairA a3_pairB a3_pairDelay a4 a4_own a4_bodyX a4_bodyY a4_bodyWayX a4_bodyWayY a4_bodyMark v0 v1 v2 v3 v4) → va_S A s.heap H locs → lv_has ls 13 [(0, .ref a0), (1, .int x1), (4, .int x4), (5, .int x5), (6, .ref a3), (7, .int x7), (8, .int x8), (9, .int x9)] → J50 (x1, x4, x5, x7, x8, x9, v2) = some res → W p l e rm_X11_ends s m args below meth c H locs 0 0 Q (F0 m 50 ls [])), ∀ (x1 : Int32) (x4 : Int32) (x5 : Int32) (x7 : Int32) (x8 : Int32) (x9 : Int32) (v2 : BX7) (H : Heap) (locs : List Loc) (ls : Array Slot), va_P D vwCl (WS_X11_ends cI cJ cZ cY a0 a0_tape a0_firstTakes r0_saved r0_flyer r0_parser a1 a1_codes r1_reads r1_flight a2 a2_view a2_rays a3 a3_lensSide a3_lensWidth a3_pairA a3_pairB a3_pairDelay a4 a4_own a4_bodyX a4_bodyY a4_bodyWayX a4_bodyWayY a4_bodyMark v0 v1 v2 v3 v4) H → va_D A (WS_X11_ends cI cJ cZ cY a0 a0_tape a0_firstTakes r0_saved r0_flyer r0_parser a1 a1_codes r1_reads r1_flight a2 a2_view a2_rays a3 a3_lensSide a3_lensWidth a3_pairA a3_pairB a3_pairDelay a4 a4_own a4_bodyX a4_bodyY a4_bodyWayX a4_bodyWayY a4_bodyMark v0 v1 v2 v3 v4) → va_S A s.heap H locs → lv_has ls 13 [(0, .ref a0), (1, .int x1), (4, .int x4), (5, .int x5), (6, .ref a3), (7, .int x7), (8, .int x8), (9, .int x9)] → f_X11_ends_b161 v0 v1 v3 v4 J50 x1 x4 x5 x7 x8 x9 v2 = some res → W p l e rm_X11_ends s m args below meth c H locs 0 0 Q (F0 m 161 ls []) := by
    intro J50 hJ50 x1 x4 x5 x7 x8 x9 v2 H locs ls hP hD hS hl hg
    unfold f_X11_ends_b161 at hg
    obtain ⟨x9_1, ex9_1⟩ : ∃ z : Int32, z = x9 + 1 := ⟨_, rfl⟩
    have hg := g_lte hg x9_1 ex9_1
    refine lv_iinc (v := x9_1) (lv' := [(9, .int x9_1), (0, .ref a0), (1, .int x1), (4, .int x4), (5, .int x5), (6, .ref a3), (7, .int x7), (8, .int x8)]) hx hb dX11_ends_161 hl (k := 7) rfl (by rw [ex9_1]; rfl) (by decide) rfl (fun ls hl => ?_)
    refine lv_goto (tgt := 50) hx hb dX11_ends_164 (by decide) ?_
    exact hJ50 x1 x4 x5 x7 x8 x9_1 v2 H locs ls hP hD hS (lv_sub hl [1, 2, 3, 4, 5, 6, 7, 0] rfl) hg
  have b_50 : ∀ (n : Nat), ∀ (x1 : Int32) (x4 : Int32) (x5 : Int32) (x7 : Int32) (x8 : Int32) (x9 : Int32) (v2 : BX7) (H : Heap) (locs : List Loc) (ls : Array Slot), va_P D vwCl (WS_X11_ends cI cJ cZ cY a0 a0_tape a0_firstTakes r0_saved r0_flyer r0_parser a1 a1_codes r1_reads r1_flight a2 a2_view a2_rays a3 a3_lensSide a3_lensWidth a3_pairA a3_pairB a3_pairDelay a4 a4_own a4_bodyX a4_bodyY a4_bodyWayX a4_bodyWayY a4_bodyMark v0 v1 v2 v3 v4) H → va_D A (WS_X11_ends cI cJ cZ cY a0 a0_tape a0_firstTakes r0_saved r0_flyer r0_parser a1 a1_codes r1_reads r1_flight a2 a2_view a2_rays a3 a3_lensSide a3_lensWidth a3_pairA a3_pairB a3_pairDelay a4 a4_own a4_bodyX a4_bodyY a4_bodyWayX a4_bodyWayY a4_bodyMark v0 v1 v2 v3 v4) → va_S A s.heap H locs → lv_has ls 13 [(0, .ref a0), (1, .int x1), (4, .int x4), (5, .int x5), (6, .ref a3), (7, .int x7), (8, .int x8), (9, .int x9)] → f_X11_ends_b50 v0 v1 v3 v4 n (x1, x4, x5, x7, x8, x9, v2) = some res → W p l e rm_X11_ends s m args below meth c H locs 0 0 Q (F0 m 50 ls []) := by
    intro n
    induction n with
    | zero =>
      intro x1 x4 x5 x7 x8 x9 v2 H locs ls hP hD hS hl hg
      exact (g_lp0 hg).elim
    | succ n ih =>
      intro x1 x4 x5 x7 x8 x9 v2 H locs ls hP hD hS hl hg
      have hg : f_X11_ends_b50B v0 v1 v3 v4 (f_X11_ends_b50 v0 v1 v3 v4 n) x1 x4 x5 x7 x8 x9 v2 = some res := hg
      unfold f_X11_ends_b50B at hg
      refine lv_iload hx hb dX11_ends_50 (lv_at hl 7 rfl) ?_
      refine lv_aload hx hb dX11_ends_52 (lv_at hl 4 rfl) ?_
      refine va_get (ci := 0) (v := .int (pX1_lenses v3)) (C := RX1) (T := TX1) (N := 7) hx hb htb uX1 hown hK.1 hP 6 rfl rfl 5 (by decide) (htb _ tg_109) (fun _ h9 => h9) rfl dX11_ends_54 ?_
      refine lv_icmp_ge (tgt := 167) hx hb dX11_ends_57 (by decide) (fun c_2 => ?_) (fun c_2 => ?_)
      · have hg := g_it hg c_2
        refine lv_iload hx hb dX11_ends_167 (lv_at hl 3 rfl) ?_
        refine lv_if_eq (tgt := 177) hx hb dX11_ends_169 (by decide) (fun c_3 => ?_) (fun c_3 => ?_)
        · have hg := g_it hg c_3
          refine lv_iload hx hb dX11_ends_177 (lv_at hl 5 rfl) ?_
          have hg := Option.some.inj hg
          rw [hQ]
          exact W.iret (v := x7) hx hb hr (fun t ht hW => ⟨⟨x7, (v2), rfl, ⟨by rw [← hg], by rw [← hg]⟩, by rw [ht]; exact hP, hD⟩, hS.F ht⟩) hS.2.2 dX11_ends_179
        · have hg := g_if hg c_3
          refine lv_iload hx hb dX11_ends_172 (lv_at hl 6 rfl) ?_
          refine lv_goto (tgt := 179) hx hb dX11_ends_174 (by decide) ?_
          have hg := Option.some.inj hg
          rw [hQ]
          exact W.iret (v := x8) hx hb hr (fun t ht hW => ⟨⟨x8, (v2), rfl, ⟨by rw [← hg], by rw [← hg]⟩, by rw [ht]; exact hP, hD⟩, hS.F ht⟩) hS.2.2 dX11_ends_179
      · have hg := g_if hg c_2
        refine lv_aload hx hb dX11_ends_60 (lv_at hl 4 rfl) ?_
        refine lv_iload hx hb dX11_ends_62 (lv_at hl 7 rfl) ?_
        refine lv_iload_n hx hb dX11_ends_64 rfl (lv_at hl 1 rfl) ?_
        obtain ⟨r_4, hr_4, hg⟩ := g_bd hg
        refine cc_i (va_runV (C := RX1) (As := [.int x9, .int x1]) (rest := []) ⟨hx, hb, hml, hown, htb⟩ (k_X1_weightOf a3 a3_lensSide a3_lensWidth a3_pairA a3_pairB a3_pairDelay v3 x9 x1 r_4 hr_4) (cw_V 2 htb tg_549 tg_5 tg_561 tg_547 tg_548 rfl rfl (by decide +kernel) ⟨Nat.le_of_ble_eq_true rfl, Nat.le_of_ble_eq_true rfl⟩) ⟨PC.blind, va_recv hK.1 hP (ci := 0) (q0 := 6) rfl rfl, PC.pre hK hT hP hD hS hA [6, 7, 8, 9, 10, 11] rfl (by decide)⟩ rfl rfl hl.1 rfl (lv_room (Nat.le_of_ble_eq_true rfl)) dX11_ends_65 ⟨Nat.le_of_ble_eq_true rfl, Nat.le_of_ble_eq_true rfl⟩) hP hD hS hA [6, 7, 8, 9, 10, 11] [0, 1, 2, 3, 4, 5, 12, 13, 14, 15, 16, 17, 18] rfl rfl (by decide) (by decide) (fun r9 u9 H locs hw hP hD hS => ?_)
        have hw := hw.symm
        subst hw
        have hP : va_P D vwCl (WS_X11_ends cI cJ cZ cY a0 a0_tape a0_firstTakes r0_saved r0_flyer r0_parser a1 a1_codes r1_reads r1_flight a2 a2_view a2_rays a3 a3_lensSide a3_lensWidth a3_pairA a3_pairB a3_pairDelay a4 a4_own a4_bodyX a4_bodyY a4_bodyWayX a4_bodyWayY a4_bodyMark v0 v1 v2 v3 v4) H := hP.sub [0, 1, 2, 3, 4, 5, 13, 14, 15, 16, 17, 18, 6, 7, 8, 9, 10, 11, 12] rfl
        have hD : va_D A (WS_X11_ends cI cJ cZ cY a0 a0_tape a0_firstTakes r0_saved r0_flyer r0_parser a1 a1_codes r1_reads r1_flight a2 a2_view a2_rays a3 a3_lensSide a3_lensWidth a3_pairA a3_pairB a3_pairDelay a4 a4_own a4_bodyX a4_bodyY a4_bodyWayX a4_bodyWayY a4_bodyMark v0 v1 v2 v3 v4) := hD.sub [0, 1, 2, 3, 4, 5, 13, 14, 15, 16, 17, 18, 6, 7, 8, 9, 10, 11, 12] (by decide) rfl
        refine lv_istore (lv' := [(10, .int r_4), (0, .ref a0), (1, .int x1), (4, .int x4), (5, .int x5), (6, .ref a3), (7, .int x7), (8, .int x8), (9, .int x9)]) hx hb dX11_ends_68 hl (by decide) rfl (fun ls hl => ?_)
        refine lv_iload hx hb dX11_ends_70 (lv_at hl 0 rfl) ?_
        refine lv_if_le (tgt := 161) hx hb dX11_ends_72 (by decide) (fun c_5 => ?_) (fun c_5 => ?_)
        · have hg := g_it hg c_5
          exact b_161 (f_X11_ends_b50 v0 v1 v3 v4 n) ih x1 x4 x5 x7 x8 x9 v2 H locs ls hP hD hS (lv_sub hl [1, 2, 3, 4, 5, 6, 7, 8] rfl) hg
        · have hg := g_if hg c_5
          refine lv_aload hx hb dX11_ends_75 (lv_at hl 5 rfl) ?_
          refine va_get (ci := 0) (v := .ref a3_lensWidth) (C := RX1) (T := TX1) (N := 7) hx hb htb uX1 hown hK.1 hP 6 rfl rfl 1 (by decide) (htb _ tg_96) (fun _ h9 => h9) rfl dX11_ends_77 ?_
          refine lv_iload hx hb dX11_ends_80 (lv_at hl 8 rfl) ?_
          obtain ⟨h_6, hg⟩ := g_gde hg
          refine va_iald hx hb hK.1 hP 8 0 rfl rfl (inB_vp h_6) dX11_ends_82 ?_
          obtain ⟨r_7, hr_7, hg⟩ := g_bd hg
          refine cc_i (va_runS (As := [.int ((pX1_lensWidth v3) (x9 : Int32).toNatClampNeg)]) (rest := []) ⟨hx, hb, hml, hown, htb⟩ (k_X1_allWeights ((pX1_lensWidth v3) (x9 : Int32).toNatClampNeg) r_7 hr_7) (cw_S 1 htb tg_537 tg_5 tg_562 tg_536 rfl rfl (by decide +kernel) ⟨Nat.le_of_ble_eq_true rfl, Nat.le_of_ble_eq_true rfl⟩) ⟨PC.blind, PC.pre hK hT hP hD hS hA [] rfl (by decide)⟩ rfl rfl hl.1 rfl (lv_room (Nat.le_of_ble_eq_true rfl)) dX11_ends_83 ⟨Nat.le_of_ble_eq_true rfl, Nat.le_of_ble_eq_true rfl⟩) hP hD hS hA [] [0, 1, 2, 3, 4, 5, 6, 7, 8, 9, 10, 11, 12, 13, 14, 15, 16, 17, 18] rfl rfl (by decide) (by decide) (fun r9 u9 H locs hw hP hD hS => ?_)
          have hw := hw.symm
          subst hw
          have hP : va_P D vwCl (WS_X11_ends cI cJ cZ cY a0 a0_tape a0_firstTakes r0_saved r0_flyer r0_parser a1 a1_codes r1_reads r1_flight a2 a2_view a2_rays a3 a3_lensSide a3_lensWidth a3_pairA a3_pairB a3_pairDelay a4 a4_own a4_bodyX a4_bodyY a4_bodyWayX a4_bodyWayY a4_bodyMark v0 v1 v2 v3 v4) H := hP.sub [0, 1, 2, 3, 4, 5, 6, 7, 8, 9, 10, 11, 12, 13, 14, 15, 16, 17, 18] rfl
          have hD : va_D A (WS_X11_ends cI cJ cZ cY a0 a0_tape a0_firstTakes r0_saved r0_flyer r0_parser a1 a1_codes r1_reads r1_flight a2 a2_view a2_rays a3 a3_lensSide a3_lensWidth a3_pairA a3_pairB a3_pairDelay a4 a4_own a4_bodyX a4_bodyY a4_bodyWayX a4_bodyWayY a4_bodyMark v0 v1 v2 v3 v4) := hD.sub [0, 1, 2, 3, 4, 5, 6, 7, 8, 9, 10, 11, 12, 13, 14, 15, 16, 17, 18] (by decide) rfl
          refine lv_istore (lv' := [(11, .int r_7), (10, .int r_4), (0, .ref a0), (1, .int x1), (4, .int x4), (5, .int x5), (6, .ref a3), (7, .int x7), (8, .int x8), (9, .int x9)]) hx hb dX11_ends_86 hl (by decide) rfl (fun ls hl => ?_)
          refine lv_aload_n hx hb dX11_ends_88 rfl (lv_at hl 2 rfl) ?_
          refine va_get (ci := 10) (v := .ref a2) (C := RX11) (T := TX11) (N := 9) hx hb htb uX11 hown hK.1 hP 0 rfl rfl 2 (by decide) (htb _ tg_414) (fun _ h9 => h9) rfl dX11_ends_89 ?_
          refine lv_aload hx hb dX11_ends_92 (lv_at hl 6 rfl) ?_
          refine va_get (ci := 0) (v := .ref a3_lensSide) (C := RX1) (T := TX1) (N := 7) hx hb htb uX1 hown hK.1 hP 6 rfl rfl 0 (by decide) (htb _ tg_93) (fun _ h9 => h9) rfl dX11_ends_94 ?_
          refine lv_iload hx hb dX11_ends_97 (lv_at hl 9 rfl) ?_
          obtain ⟨h_8, hg⟩ := g_gde hg
          refine va_iald hx hb hK.1 hP 7 0 rfl rfl (inB_vp h_8) dX11_ends_99 ?_
          refine lv_aload hx hb dX11_ends_100 (lv_at hl 6 rfl) ?_
          refine va_get (ci := 0) (v := .ref a3_lensWidth) (C := RX1) (T := TX1) (N := 7) hx hb htb uX1 hown hK.1 hP 6 rfl rfl 1 (by decide) (htb _ tg_96) (fun _ h9 => h9) rfl dX11_ends_102 ?_
          refine lv_iload hx hb dX11_ends_105 (lv_at hl 9 rfl) ?_
          obtain ⟨h_9, hg⟩ := g_gde hg
          refine va_iald hx hb hK.1 hP 8 0 rfl rfl (inB_vp h_9) dX11_ends_107 ?_
          refine lv_iload hx hb dX11_ends_108 (lv_at hl 4 rfl) ?_
          obtain ⟨r_10, hr_10, hg⟩ := g_bd hg
          refine cc_i (va_runV (C := RX7) (As := [.int ((pX1_lensSide v3) (x9 : Int32).toNatClampNeg), .int ((pX1_lensWidth v3) (x9 : Int32).toNatClampNeg), .int x4]) (rest := []) ⟨hx, hb, hml, hown, htb⟩ (k_X7_weigh a2 a2_view a2_rays a4 a4_own a4_bodyX a4_bodyY a4_bodyWayX a4_bodyWayY a4_bodyMark v2 v4 ((pX1_lensSide v3) (x9 : Int32).toNatClampNeg) ((pX1_lensWidth v3) (x9 : Int32).toNatClampNeg) x4 r_10 hr_10) (cw_V 3 htb tg_530 tg_8 tg_527 tg_528 tg_529 rfl rfl (by decide +kernel) ⟨Nat.le_of_ble_eq_true rfl, Nat.le_of_ble_eq_true rfl⟩) ⟨PC.blind, va_recv hK.1 hP (ci := 6) (q0 := 3) rfl rfl, PC.pre hK hT hP hD hS hA [3, 4, 5, 12, 13, 14, 15, 16, 17, 18] rfl (by decide)⟩ rfl rfl hl.1 rfl (lv_room (Nat.le_of_ble_eq_true rfl)) dX11_ends_110 ⟨Nat.le_of_ble_eq_true rfl, Nat.le_of_ble_eq_true rfl⟩) hP hD hS hA [3, 4, 5, 12, 13, 14, 15, 16, 17, 18] [0, 1, 2, 6, 7, 8, 9, 10, 11] rfl rfl (by decide) (by decide) (fun r9 u9 H locs hw hP hD hS => ?_)
          obtain ⟨rfl, rfl⟩ := hw
          have hP : va_P D vwCl (WS_X11_ends cI cJ cZ cY a0 a0_tape a0_firstTakes r0_saved r0_flyer r0_parser a1 a1_codes r1_reads r1_flight a2 a2_view a2_rays a3 a3_lensSide a3_lensWidth a3_pairA a3_pairB a3_pairDelay a4 a4_own a4_bodyX a4_bodyY a4_bodyWayX a4_bodyWayY a4_bodyMark v0 v1 r_10.2 v3 v4) H := hP.sub [0, 1, 2, 9, 10, 11, 3, 4, 5, 6, 7, 8, 12, 13, 14, 15, 16, 17, 18] rfl
          have hD : va_D A (WS_X11_ends cI cJ cZ cY a0 a0_tape a0_firstTakes r0_saved r0_flyer r0_parser a1 a1_codes r1_reads r1_flight a2 a2_view a2_rays a3 a3_lensSide a3_lensWidth a3_pairA a3_pairB a3_pairDelay a4 a4_own a4_bodyX a4_bodyY a4_bodyWayX a4_bodyWayY a4_bodyMark v0 v1 r_10.2 v3 v4) := hD.sub [0, 1, 2, 9, 10, 11, 3, 4, 5, 6, 7, 8, 12, 13, 14, 15, 16, 17, 18] (by decide) rfl
          refine lv_istore (lv' := [(12, .int r_10.1), (11, .int r_7), (10, .int r_4), (0, .ref a0), (1, .int x1), (4, .int x4), (5, .int x5), (6, .ref a3), (7, .int x7), (8, .int x8), (9, .int x9)]) hx hb dX11_ends_113 hl (by decide) rfl (fun ls hl => ?_)
          refine lv_iload hx hb dX11_ends_115 (lv_at hl 8 rfl) ?_
          refine lv_iload hx hb dX11_ends_117 (lv_at hl 0 rfl) ?_
          refine lv_iload hx hb dX11_ends_119 (lv_at hl 1 rfl) ?_
          refine lv_imul hx hb dX11_ends_121 ?_
          refine lv_sipush (v := 255) hx hb dX11_ends_122 (by decide) ?_
          refine lv_iload hx hb dX11_ends_125 (lv_at hl 1 rfl) ?_
          refine lv_iload hx hb dX11_ends_127 (lv_at hl 2 rfl) ?_
          refine lv_isub hx hb dX11_ends_129 ?_
          refine lv_imul hx hb dX11_ends_130 ?_
          refine lv_isub hx hb dX11_ends_131 ?_
          refine lv_iload hx hb dX11_ends_132 (lv_at hl 2 rfl) ?_
          obtain ⟨r_11, hr_11, hg⟩ := g_bd hg
          refine cc_i (va_runS (As := [.int ((r_10.1 * r_7) - ((255 : Int32) * (r_7 - r_4))), .int r_4]) (rest := [.int x7]) ⟨hx, hb, hml, hown, htb⟩ (k_X11_ceilDiv ((r_10.1 * r_7) - ((255 : Int32) * (r_7 - r_4))) r_4 r_11 hr_11) (cw_S 2 htb tg_565 tg_1 tg_563 tg_564 rfl rfl (by decide +kernel) ⟨Nat.le_of_ble_eq_true rfl, Nat.le_of_ble_eq_true rfl⟩) ⟨PC.blind, PC.pre hK hT hP hD hS hA [] rfl (by decide)⟩ rfl rfl hl.1 rfl (lv_room (Nat.le_of_ble_eq_true rfl)) dX11_ends_134 ⟨Nat.le_of_ble_eq_true rfl, Nat.le_of_ble_eq_true rfl⟩) hP hD hS hA [] [0, 1, 2, 3, 4, 5, 6, 7, 8, 9, 10, 11, 12, 13, 14, 15, 16, 17, 18] rfl rfl (by decide) (by decide) (fun r9 u9 H locs hw hP hD hS => ?_)
          have hw := hw.symm
          subst hw
          have hP : va_P D vwCl (WS_X11_ends cI cJ cZ cY a0 a0_tape a0_firstTakes r0_saved r0_flyer r0_parser a1 a1_codes r1_reads r1_flight a2 a2_view a2_rays a3 a3_lensSide a3_lensWidth a3_pairA a3_pairB a3_pairDelay a4 a4_own a4_bodyX a4_bodyY a4_bodyWayX a4_bodyWayY a4_bodyMark v0 v1 r_10.2 v3 v4) H := hP.sub [0, 1, 2, 3, 4, 5, 6, 7, 8, 9, 10, 11, 12, 13, 14, 15, 16, 17, 18] rfl
          have hD : va_D A (WS_X11_ends cI cJ cZ cY a0 a0_tape a0_firstTakes r0_saved r0_flyer r0_parser a1 a1_codes r1_reads r1_flight a2 a2_view a2_rays a3 a3_lensSide a3_lensWidth a3_pairA a3_pairB a3_pairDelay a4 a4_own a4_bodyX a4_bodyY a4_bodyWayX a4_bodyWayY a4_bodyMark v0 v1 r_10.2 v3 v4) := hD.sub [0, 1, 2, 3, 4, 5, 6, 7, 8, 9, 10, 11, 12, 13, 14, 15, 16, 17, 18] (by decide) rfl
          refine va_mmax hx hb (hml.trans hl.1.symm) hown (htb _ tg_569) (htb _ tg_41) (htb _ tg_4) (htb _ tg_42) (Nat.le_of_ble_eq_true rfl) (Nat.le_of_ble_eq_true rfl) (Nat.le_of_ble_eq_true rfl) (Nat.le_of_ble_eq_true rfl) dX11_ends_137 ?_
          refine lv_topi (fun x7_12 ex7_12 => ?_)
          have hg := g_lte hg x7_12 ex7_12
          refine lv_istore (lv' := [(7, .int x7_12), (12, .int r_10.1), (11, .int r_7), (10, .int r_4), (0, .ref a0), (1, .int x1), (4, .int x4), (5, .int x5), (6, .ref a3), (8, .int x8), (9, .int x9)]) hx hb dX11_ends_140 hl (by decide) rfl (fun ls hl => ?_)
          refine lv_iload hx hb dX11_ends_142 (lv_at hl 9 rfl) ?_
          refine lv_iload hx hb dX11_ends_144 (lv_at hl 1 rfl) ?_
          refine lv_iconst (v := 1) hx hb dX11_ends_146 (by decide) ?_
          refine lv_iadd hx hb dX11_ends_147 ?_
          refine lv_iload hx hb dX11_ends_148 (lv_at hl 2 rfl) ?_
          refine lv_imul hx hb dX11_ends_150 ?_
          refine lv_iconst (v := 1) hx hb dX11_ends_151 (by decide) ?_
          refine lv_isub hx hb dX11_ends_152 ?_
          refine lv_iload hx hb dX11_ends_153 (lv_at hl 3 rfl) ?_
          obtain ⟨h_13, hg⟩ := g_gde hg
          refine lv_idiv hx hb dX11_ends_155 h_13 ?_
          refine va_mmin hx hb (hml.trans hl.1.symm) hown (htb _ tg_570) (htb _ tg_38) (htb _ tg_4) (htb _ tg_39) (Nat.le_of_ble_eq_true rfl) (Nat.le_of_ble_eq_true rfl) (Nat.le_of_ble_eq_true rfl) (Nat.le_of_ble_eq_true rfl) dX11_ends_156 ?_
          refine lv_topi (fun x8_14 ex8_14 => ?_)
          have hg := g_lte hg x8_14 ex8_14
          refine lv_istore (lv' := [(8, .int x8_14), (7, .int x7_12), (12, .int r_10.1), (11, .int r_7), (10, .int r_4), (0, .ref a0), (1, .int x1), (4, .int x4), (5, .int x5), (6, .ref a3), (9, .int x9)]) hx hb dX11_ends_159 hl (by decide) rfl (fun ls hl => ?_)
          exact b_161 (f_X11_ends_b50 v0 v1 v3 v4 n) ih x1 x4 x5 x7_12 x8_14 x9 r_10.2 H locs ls hP hD hS (lv_sub hl [5, 6, 7, 8, 9, 1, 0, 10] rfl) hg
  generalize hHe : s.heap = H at hP ⊢
  have hS : va_S A s.heap H [] := by rw [← hHe]; exact va_S.rf
  generalize ([] : List Loc) = locs at hS ⊢
  unfold f_X11_ends at hg
  refine lv_iload_n hx hb dX11_ends_0 rfl (lv_at hl 1 rfl) ?_
  obtain ⟨r_15, hr_15, hg⟩ := g_bd hg
  refine cc_i (va_runS (As := [.int p0]) (rest := []) ⟨hx, hb, hml, hown, htb⟩ (k_X11_isSide p0 r_15 hr_15) (cw_S 1 htb tg_482 tg_1 tg_480 tg_481 rfl rfl (by decide +kernel) ⟨Nat.le_of_ble_eq_true rfl, Nat.le_of_ble_eq_true rfl⟩) ⟨PC.blind, PC.pre hK hT hP hD hS hA [] rfl (by decide)⟩ rfl rfl hl.1 rfl (lv_room (Nat.le_of_ble_eq_true rfl)) dX11_ends_1 ⟨Nat.le_of_ble_eq_true rfl, Nat.le_of_ble_eq_true rfl⟩) hP hD hS hA [] [0, 1, 2, 3, 4, 5, 6, 7, 8, 9, 10, 11, 12, 13, 14, 15, 16, 17, 18] rfl rfl (by decide) (by decide) (fun r9 u9 H locs hw hP hD hS => ?_)
  have hw := hw.symm
  subst hw
  have hP : va_P D vwCl (WS_X11_ends cI cJ cZ cY a0 a0_tape a0_firstTakes r0_saved r0_flyer r0_parser a1 a1_codes r1_reads r1_flight a2 a2_view a2_rays a3 a3_lensSide a3_lensWidth a3_pairA a3_pairB a3_pairDelay a4 a4_own a4_bodyX a4_bodyY a4_bodyWayX a4_bodyWayY a4_bodyMark v0 v1 v2 v3 v4) H := hP.sub [0, 1, 2, 3, 4, 5, 6, 7, 8, 9, 10, 11, 12, 13, 14, 15, 16, 17, 18] rfl
  have hD : va_D A (WS_X11_ends cI cJ cZ cY a0 a0_tape a0_firstTakes r0_saved r0_flyer r0_parser a1 a1_codes r1_reads r1_flight a2 a2_view a2_rays a3 a3_lensSide a3_lensWidth a3_pairA a3_pairB a3_pairDelay a4 a4_own a4_bodyX a4_bodyY a4_bodyWayX a4_bodyWayY a4_bodyMark v0 v1 v2 v3 v4) := hD.sub [0, 1, 2, 3, 4, 5, 6, 7, 8, 9, 10, 11, 12, 13, 14, 15, 16, 17, 18] (by decide) rfl
  refine lv_if_eq (tgt := 18) hx hb dX11_ends_4 (by decide) (fun c_16 => ?_) (fun c_16 => ?_)
  · have hg := g_it hg c_16
    refine lv_iconst (v := (-1)) hx hb dX11_ends_18 (by decide) ?_
    have hg := Option.some.inj hg
    rw [hQ]
    exact W.iret (v := (-1)) hx hb hr (fun t ht hW => ⟨⟨(-1), (v2), rfl, ⟨by rw [← hg], by rw [← hg]⟩, by rw [ht]; exact hP, hD⟩, hS.F ht⟩) hS.2.2 dX11_ends_19
  · have hg := g_if hg c_16
    refine lv_aload_n hx hb dX11_ends_7 rfl (lv_at hl 0 rfl) ?_
    refine lv_iload_n hx hb dX11_ends_8 rfl (lv_at hl 2 rfl) ?_
    refine lv_iload_n hx hb dX11_ends_9 rfl (lv_at hl 3 rfl) ?_
    refine lv_iload hx hb dX11_ends_10 (lv_at hl 4 rfl) ?_
    obtain ⟨r_17, hr_17, hg⟩ := g_bd hg
    refine cc_i (va_runV (C := RX11) (As := [.int p1, .int p2, .int p3]) (rest := []) ⟨hx, hb, hml, hown, htb⟩ (k_X11_isStanding a0 a0_tape a0_firstTakes r0_saved a2 r0_flyer r0_parser a1 a1_codes a3 r1_reads r1_flight a4 a4_own a4_bodyX a4_bodyY a4_bodyWayX a4_bodyWayY a4_bodyMark v0 v1 v4 p1 p2 p3 r_17 hr_17) (cw_V 3 htb tg_526 tg_1 tg_523 tg_525 ts_0 rfl rfl (by decide +kernel) ⟨Nat.le_of_ble_eq_true rfl, Nat.le_of_ble_eq_true rfl⟩) ⟨PC.blind, va_recv hK.1 hP (ci := 10) (q0 := 0) rfl rfl, PC.pre hK hT hP hD hS hA [0, 1, 2, 12, 13, 14, 15, 16, 17, 18] rfl (by decide)⟩ rfl rfl hl.1 rfl (lv_room (Nat.le_of_ble_eq_true rfl)) dX11_ends_12 ⟨Nat.le_of_ble_eq_true rfl, Nat.le_of_ble_eq_true rfl⟩) hP hD hS hA [0, 1, 2, 12, 13, 14, 15, 16, 17, 18] [3, 4, 5, 6, 7, 8, 9, 10, 11] rfl rfl (by decide) (by decide) (fun r9 u9 H locs hw hP hD hS => ?_)
    have hw := hw.symm
    subst hw
    have hP : va_P D vwCl (WS_X11_ends cI cJ cZ cY a0 a0_tape a0_firstTakes r0_saved r0_flyer r0_parser a1 a1_codes r1_reads r1_flight a2 a2_view a2_rays a3 a3_lensSide a3_lensWidth a3_pairA a3_pairB a3_pairDelay a4 a4_own a4_bodyX a4_bodyY a4_bodyWayX a4_bodyWayY a4_bodyMark v0 v1 v2 v3 v4) H := hP.sub [9, 10, 11, 0, 1, 2, 3, 4, 5, 6, 7, 8, 12, 13, 14, 15, 16, 17, 18] rfl
    have hD : va_D A (WS_X11_ends cI cJ cZ cY a0 a0_tape a0_firstTakes r0_saved r0_flyer r0_parser a1 a1_codes r1_reads r1_flight a2 a2_view a2_rays a3 a3_lensSide a3_lensWidth a3_pairA a3_pairB a3_pairDelay a4 a4_own a4_bodyX a4_bodyY a4_bodyWayX a4_bodyWayY a4_bodyMark v0 v1 v2 v3 v4) := hD.sub [9, 10, 11, 0, 1, 2, 3, 4, 5, 6, 7, 8, 12, 13, 14, 15, 16, 17, 18] (by decide) rfl
    refine lv_if_ne (tgt := 20) hx hb dX11_ends_15 (by decide) (fun c_18 => ?_) (fun c_18 => ?_)
    · have hg := g_if hg c_18
      refine lv_aload_n hx hb dX11_ends_20 rfl (lv_at hl 0 rfl) ?_
      refine va_get (ci := 10) (v := .ref a2) (C := RX11) (T := TX11) (N := 9) hx hb htb uX11 hown hK.1 hP 0 rfl rfl 2 (by decide) (htb _ tg_414) (fun _ h9 => h9) rfl dX11_ends_21 ?_
      refine lv_iload_n hx hb dX11_ends_24 rfl (lv_at hl 2 rfl) ?_
      refine lv_iload_n hx hb dX11_ends_25 rfl (lv_at hl 3 rfl) ?_
      refine lv_iconst (v := 0) hx hb dX11_ends_26 (by decide) ?_
      obtain ⟨r_19, hr_19, hg⟩ := g_bd hg
      refine cc_v (va_runV (C := RX7) (As := [.int p1, .int p2, .int 0]) (rest := []) ⟨hx, hb, hml, hown, htb⟩ (k_X7_look a2 a2_view a2_rays a4 a4_own a4_bodyX a4_bodyY a4_bodyWayX a4_bodyWayY a4_bodyMark v2 v4 p1 p2 0 r_19 hr_19) (cw_V 3 htb tg_503 tg_8 tg_500 tg_501 tg_502 rfl rfl (by decide +kernel) ⟨Nat.le_of_ble_eq_true rfl, Nat.le_of_ble_eq_true rfl⟩) ⟨PC.blind, va_recv hK.1 hP (ci := 6) (q0 := 3) rfl rfl, PC.pre hK hT hP hD hS hA [3, 4, 5, 12, 13, 14, 15, 16, 17, 18] rfl (by decide)⟩ rfl rfl hl.1 rfl (lv_room (Nat.le_of_ble_eq_true rfl)) dX11_ends_27 ⟨Nat.le_of_ble_eq_true rfl, Nat.le_of_ble_eq_true rfl⟩) hP hD hS hA [3, 4, 5, 12, 13, 14, 15, 16, 17, 18] [0, 1, 2, 6, 7, 8, 9, 10, 11] rfl rfl (by decide) (by decide) (fun u9 H locs hw hP hD hS => ?_)
      have hw := hw.symm
      subst hw
      have hP : va_P D vwCl (WS_X11_ends cI cJ cZ cY a0 a0_tape a0_firstTakes r0_saved r0_flyer r0_parser a1 a1_codes r1_reads r1_flight a2 a2_view a2_rays a3 a3_lensSide a3_lensWidth a3_pairA a3_pairB a3_pairDelay a4 a4_own a4_bodyX a4_bodyY a4_bodyWayX a4_bodyWayY a4_bodyMark v0 v1 r_19 v3 v4) H := hP.sub [0, 1, 2, 9, 10, 11, 3, 4, 5, 6, 7, 8, 12, 13, 14, 15, 16, 17, 18] rfl
      have hD : va_D A (WS_X11_ends cI cJ cZ cY a0 a0_tape a0_firstTakes r0_saved r0_flyer r0_parser a1 a1_codes r1_reads r1_flight a2 a2_view a2_rays a3 a3_lensSide a3_lensWidth a3_pairA a3_pairB a3_pairDelay a4 a4_own a4_bodyX a4_bodyY a4_bodyWayX a4_bodyWayY a4_bodyMark v0 v1 r_19 v3 v4) := hD.sub [0, 1, 2, 9, 10, 11, 3, 4, 5, 6, 7, 8, 12, 13, 14, 15, 16, 17, 18] (by decide) rfl
      refine lv_aload_n hx hb dX11_ends_30 rfl (lv_at hl 0 rfl) ?_
      refine va_get (ci := 10) (v := .ref a1) (C := RX11) (T := TX11) (N := 9) hx hb htb uX11 hown hK.1 hP 0 rfl rfl 0 (by decide) (htb _ tg_412) (fun _ h9 => h9) rfl dX11_ends_31 ?_
      refine va_get (ci := 7) (v := .ref a3) (C := RX8) (T := TX8) (N := 6) hx hb htb uX8 hown hK.1 hP 1 rfl rfl 1 (by decide) (htb _ tg_237) (fun _ h9 => h9) rfl dX11_ends_34 ?_
      refine lv_astore (lv' := [(6, .ref a3), (0, .ref a0), (1, .int p0), (2, .int p1), (3, .int p2), (4, .int p3), (5, .int p4)]) hx hb dX11_ends_37 hl (by decide) rfl (fun ls hl => ?_)
      refine lv_iconst (v := 0) hx hb dX11_ends_39 (by decide) ?_
      refine lv_istore (lv' := [(7, .int 0), (6, .ref a3), (0, .ref a0), (1, .int p0), (2, .int p1), (3, .int p2), (4, .int p3), (5, .int p4)]) hx hb dX11_ends_40 hl (by decide) rfl (fun ls hl => ?_)
      refine lv_sipush (v := 255) hx hb dX11_ends_42 (by decide) ?_
      refine lv_istore (lv' := [(8, .int 255), (7, .int 0), (6, .ref a3), (0, .ref a0), (1, .int p0), (2, .int p1), (3, .int p2), (4, .int p3), (5, .int p4)]) hx hb dX11_ends_45 hl (by decide) rfl (fun ls hl => ?_)
      refine lv_iconst (v := 0) hx hb dX11_ends_47 (by decide) ?_
      refine lv_istore (lv' := [(9, .int 0), (8, .int 255), (7, .int 0), (6, .ref a3), (0, .ref a0), (1, .int p0), (2, .int p1), (3, .int p2), (4, .int p3), (5, .int p4)]) hx hb dX11_ends_48 hl (by decide) rfl (fun ls hl => ?_)
      exact b_50 fU p0 p3 p4 0 255 0 r_19 H locs ls hP hD hS (lv_sub hl [4, 5, 8, 9, 3, 2, 1, 0] rfl) hg
    · have hg := g_it hg c_18
      refine lv_iconst (v := (-1)) hx hb dX11_ends_18 (by decide) ?_
      have hg := Option.some.inj hg
      rw [hQ]
      exact W.iret (v := (-1)) hx hb hr (fun t ht hW => ⟨⟨(-1), (v2), rfl, ⟨by rw [← hg], by rw [← hg]⟩, by rw [ht]; exact hP, hD⟩, hS.F ht⟩) hS.2.2 dX11_ends_19

/-! ManyEyes.width(IIIII)I -/
def WS_X11_width (cI cJ cZ cY : ClassId) (a0 a0_tape a0_firstTakes r0_saved r0_flyer r0_parser a1 a1_codes r1_eye r1_reads r1_flight a2 a2_view a2_rays a3 a3_own a3_bodyX a3_bodyY a3_bodyWayX a3_bodyWayY a3_bodyMark : Nat) (v0 : BX11) (v1 : BX8) (v2 : BX7) (v3 : BX10) : va_W := (GX11o cI cJ cZ cY a0 a0_tape a0_firstTakes a1 r0_saved a2 r0_flyer r0_parser v0) ++ ((GX8 cI cJ cZ cY a1 a1_codes a3 r1_eye r1_reads r1_flight v1) ++ ((GX7 cI cJ cZ cY a2 a2_view a2_rays a3 v2) ++ ((GX10 cI cJ cZ cY a3 a3_own a3_bodyX a3_bodyY a3_bodyWayX a3_bodyWayY a3_bodyMark v3))))
def f_X11_width_b100 (v0 : BX11) (v1 : BX8) (v3 : BX10) (J48 : (Int32 × Int32 × Int32 × Int32 × Int32 × Int32 × BX7) → Option (Int32 × BX7)) (x1 : Int32) (x2 : Int32) (x5 : Int32) (x6 : Int32) (x7 : Int32) (x8 : Int32) (v2 : BX7) : Option (Int32 × BX7) := g_lt (x8 + 1 : Int32) (fun x8_1 => J48 (x1, x2, x5, x6, x7, x8_1, v2))
def f_X11_width_b48B (v0 : BX11) (v1 : BX8) (v3 : BX10) (J48 : Int32 × Int32 × Int32 × Int32 × Int32 × Int32 × BX7 → Option (Int32 × BX7)) (x1 : Int32) (x2 : Int32) (x5 : Int32) (x6 : Int32) (x7 : Int32) (x8 : Int32) (v2 : BX7) : Option (Int32 × BX7) := if (7 : Int32) < x8 then (some (x6, v2)) else ((f_X7_weigh v2 v3 x1 x8 x5).bind (fun r_3 => (f_X7_weigh r_3.2 v3 x2 x8 x5).bind (fun r_4 => g_lt ((if (0 : Int32) ≤ (r_3.1 - r_4.1) then (r_3.1 - r_4.1) else 0 - (r_3.1 - r_4.1)) : Int32) (fun x9_5 => if (x9_5 : Int32) ≤ x7 then (f_X11_width_b100 v0 v1 v3 J48 x1 x2 x5 x6 x7 x8 r_4.2) else (f_X11_width_b100 v0 v1 v3 J48 x1 x2 x5 x8 x9_5 x8 r_4.2)))))
def f_X11_width_b48 (v0 : BX11) (v1 : BX8) (v3 : BX10) : Nat → (Int32 × Int32 × Int32 × Int32 × Int32 × Int32 × BX7) → Option (Int32 × BX7) := g_lp (fun J z => f_X11_width_b48B v0 v1 v3 J z.1 z.2.1 z.2.2.1 z.2.2.2.1 z.2.2.2.2.1 z.2.2.2.2.2.1 z.2.2.2.2.2.2)
def f_X11_width (v0 : BX11) (v1 : BX8) (v2 : BX7) (v3 : BX10) (p0 : Int32) (p1 : Int32) (p2 : Int32) (p3 : Int32) (p4 : Int32) : Option (Int32 × BX7) := (f_X11_isSide p0).bind (fun r_7 => if (r_7 : Int32) = 0 then (some ((-1), v2)) else ((f_X11_isSide p1).bind (fun r_9 => if (r_9 : Int32) = 0 then (some ((-1), v2)) else ((f_X11_isStanding v0 v1 v3 p2 p3 p4).bind (fun r_11 => if (r_11 : Int32) = 0 then (some ((-1), v2)) else ((f_X7_look v2 v3 p2 p3 0).bind (fun r_13 => g_lt ((-1) : Int32) (fun x6_14 => g_lt ((-1) : Int32) (fun x7_15 => f_X11_width_b48 v0 v1 v3 fU (p0, p1, p4, x6_14, x7_15, 0, r_13))))))))))
abbrev rm_X11_width : Room := { frames := 3, cells := 0, slots := 0, locals := 89 }
set_option maxHeartbeats 4000000 in
set_option maxRecDepth 100000 in
theorem k_X11_width {l : Launch} {D : va_G} {cI cJ cZ cY : ClassId} {tX tY : Nat} {sz : Nat} (a0 a0_tape a0_firstTakes r0_saved r0_flyer r0_parser a1 a1_codes r1_eye r1_reads r1_flight a2 a2_view a2_rays a3 a3_own a3_bodyX a3_bodyY a3_bodyWayX a3_bodyWayY a3_bodyMark : Nat) (v0 : BX11) (v1 : BX8) (v2 : BX7) (v3 : BX10) (p0 : Int32) (p1 : Int32) (p2 : Int32) (p3 : Int32) (p4 : Int32) (res : Int32 × BX7) (hg : f_X11_width v0 v1 v2 v3 p0 p1 p2 p3 p4 = some res) : Met l yX11_width (Cond.code yX11_width cX11_width 10 (some .int) :: TB) rm_X11_width (PC D cI cJ cZ cY tX tY [.ref a0, .int p0, .int p1, .int p2, .int p3, .int p4] (WS_X11_width cI cJ cZ cY a0 a0_tape a0_firstTakes r0_saved r0_flyer r0_parser a1 a1_codes r1_eye r1_reads r1_flight a2 a2_view a2_rays a3 a3_own a3_bodyX a3_bodyY a3_bodyWayX a3_bodyWayY a3_bodyMark v0 v1 v2 v3) sz) (va_Qi (fun (r : Int32) (u : BX7) => r = res.1 ∧ u = res.2) (BC D (fun u : BX7 => WS_X11_width cI cJ cZ cY a0 a0_tape a0_firstTakes r0_saved r0_flyer r0_parser a1 a1_codes r1_eye r1_reads r1_flight a2 a2_view a2_rays a3 a3_own a3_bodyX a3_bodyY a3_bodyWayX a3_bodyWayY a3_bodyMark v0 v1 u v3) (va_A (WS_X11_width cI cJ cZ cY a0 a0_tape a0_firstTakes r0_saved r0_flyer r0_parser a1 a1_codes r1_eye r1_reads r1_flight a2 a2_view a2_rays a3 a3_own a3_bodyX a3_bodyY a3_bodyWayX a3_bodyWayY a3_bodyMark v0 v1 v2 v3) sz)) (va_A (WS_X11_width cI cJ cZ cY a0 a0_tape a0_firstTakes r0_saved r0_flyer r0_parser a1 a1_codes r1_eye r1_reads r1_flight a2 a2_view a2_rays a3 a3_own a3_bodyX a3_bodyY a3_bodyWayX a3_bodyWayY a3_bodyMark v0 v1 v2 v3) sz)) 0 0 (va_A (WS_X11_width cI cJ cZ cY a0 a0_tape a0_firstTakes r0_saved r0_flyer r0_parser a1 a1_codes r1_eye r1_reads r1_flight a2 a2_view a2_rays a3 a3_own a3_bodyX a3_bodyY a3_bodyWayX a3_bodyWayY a3_bodyMark v0 v1 v2 v3) sz) := by
  refine Met.ofW (cc := cX11_width) (maxL := 10) (ret := (some .int)) (by decide) rfl ?_
  intro p e s m args below meth c s₁ B hml hv
  obtain ⟨hargs, hsz, hP, hK, hD0, hT⟩ := hv
  have hx := B.exec
  have hb := B.bytes
  have hr := B.returns
  have htb : ∀ w ∈ TB, w.before args s = true := fun w h => atoms_spec (ws := Cond.code yX11_width cX11_width 10 (some .int) :: TB) B.pre w (List.mem_cons_of_mem _ h)
  have hown : s.vm.findClass "ManyEyes" = some m.cls := findClass_of_methodNamed B.named
  have hlocks := B.notSynchronized
  subst hsz
  have hD := hD0.self (sz := s.heap.size)
  generalize hAe : va_A (WS_X11_width cI cJ cZ cY a0 a0_tape a0_firstTakes r0_saved r0_flyer r0_parser a1 a1_codes r1_eye r1_reads r1_flight a2 a2_view a2_rays a3 a3_own a3_bodyX a3_bodyY a3_bodyWayX a3_bodyWayY a3_bodyMark v0 v1 v2 v3) s.heap.size = A at hD hT ⊢
  have hA : ∀ q : Nat, s.heap.size ≤ q → A q := fun q h => by rw [← hAe]; exact Or.inr h
  have hS : va_S A s.heap s.heap [] := va_S.rf
  have hl := lv_entry ([.ref a0, .int p0, .int p1, .int p2, .int p3, .int p4]) (n := 10) (Nat.le_of_ble_eq_true rfl)
  have he : entryFrame m args 10 = F0 m 0 (lg_sl ([.ref a0, .int p0, .int p1, .int p2, .int p3, .int p4]) ++ List.replicate (10 - (lg_sl ([.ref a0, .int p0, .int p1, .int p2, .int p3, .int p4])).length) Slot.unset).toArray [] := by rw [hargs, lg_entry_eq]
  rw [he]
  generalize (lg_sl ([.ref a0, .int p0, .int p1, .int p2, .int p3, .int p4]) ++ List.replicate (10 - (lg_sl ([.ref a0, .int p0, .int p1, .int p2, .int p3, .int p4])).length) Slot.unset).toArray = ls at hl ⊢
  have hl : lv_has ls 10 [(0, .ref a0), (1, .int p0), (2, .int p1), (3, .int p2), (4, .int p3), (5, .int p4)] := hl
  show W p l e rm_X11_width s m args below meth c s.heap [] 0 0 _ _
  refine W.genQ (fun Q hQ => ?_)
  have b_100 : ∀ (J48 : (Int32 × Int32 × Int32 × Int32 × Int32 × Int32 × BX7) → Option (Int32 × BX7)) (hJ48 : ∀ (x1 : Int32) (x2 : Int32) (x5 : Int32) (x6 : Int32) (x7 : Int32) (x8 : Int32) (v2 : BX7) (H : Heap) (locs : List Loc) (ls : Array Slot), va_P D vwCl (WS_X11_width cI cJ cZ cY a0 a0_tape a0_firstTakes r0_saved r0_flyer r0_parser a1 a1_codes r1_eye r1_reads r1_flight a2 a2_view a2_rays a3 a3_own a3_bodyX a3_bodyY a3_bodyWayX a3_bodyWayY a3_bodyMark v0 v1 v2 v3) H → va_D A (WS_X11_width cI cJ cZ cY a0 a0_tape a0_firstTakes r0_saved r0_flyer r0_parser a1 a1_codes r1_eye r1_reads r1_flight a2 a2_view a2_rays a3 a3_own a3_bodyX a3_bodyY a3_bodyWayX a3_bodyWayY a3_bodyMark v0 v1 v2 v3) → va_S A s.heap H locs → lv_has ls 10 [(0, .ref a0), (1, .int x1), (2, .int x2), (5, .int x5), (6, .int x6), (7, .int x7), (8, .int x8)] → J48 (x1, x2, x5, x6, x7, x8, v2) = some res → W p l e rm_X11_width s m args below meth c H locs 0 0 Q (F0 m 48 ls [])), ∀ (x1 : Int32) (x2 : Int32) (x5 : Int32) (x6 : Int32) (x7 : Int32) (x8 : Int32) (v2 : BX7) (H : Heap) (locs : List Loc) (ls : Array Slot), va_P D vwCl (WS_X11_width cI cJ cZ cY a0 a0_tape a0_firstTakes r0_saved r0_flyer r0_parser a1 a1_codes r1_eye r1_reads r1_flight a2 a2_view a2_rays a3 a3_own a3_bodyX a3_bodyY a3_bodyWayX a3_bodyWayY a3_bodyMark v0 v1 v2 v3) H → va_D A (WS_X11_width cI cJ cZ cY a0 a0_tape a0_firstTakes r0_saved r0_flyer r0_parser a1 a1_codes r1_eye r1_reads r1_flight a2 a2_view a2_rays a3 a3_own a3_bodyX a3_bodyY a3_bodyWayX a3_bodyWayY a3_bodyMark v0 v1 v2 v3) → va_S A s.heap H locs → lv_has ls 10 [(0, .ref a0), (1, .int x1), (2, .int x2), (5, .int x5), (6, .int x6), (7, .int x7), (8, .int x8)] → f_X11_width_b100 v0 v1 v3 J48 x1 x2 x5 x6 x7 x8 v2 = some res → W p l e rm_X11_width s m args below meth c H locs 0 0 Q (F0 m 100 ls []) := by
    intro J48 hJ48 x1 x2 x5 x6 x7 x8 v2 H locs ls hP hD hS hl hg
    unfold f_X11_width_b100 at hg
    obtain ⟨x8_1, ex8_1⟩ : ∃ z : Int32, z = x8 + 1 := ⟨_, rfl⟩
    have hg := g_lte hg x8_1 ex8_1
    refine lv_iinc (v := x8_1) (lv' := [(8, .int x8_1), (0, .ref a0), (1, .int x1), (2, .int x2), (5, .int x5), (6, .int x6), (7, .int x7)]) hx hb dX11_width_100 hl (k := 6) rfl (by rw [ex8_1]; rfl) (by decide) rfl (fun ls hl => ?_)
    refine lv_goto (tgt := 48) hx hb dX11_width_103 (by decide) ?_
    exact hJ48 x1 x2 x5 x6 x7 x8_1 v2 H locs ls hP hD hS (lv_sub hl [1, 2, 3, 4, 5, 6, 0] rfl) hg
  have b_48 : ∀ (n : Nat), ∀ (x1 : Int32) (x2 : Int32) (x5 : Int32) (x6 : Int32) (x7 : Int32) (x8 : Int32) (v2 : BX7) (H : Heap) (locs : List Loc) (ls : Array Slot), va_P D vwCl (WS_X11_width cI cJ cZ cY a0 a0_tape a0_firstTakes r0_saved r0_flyer r0_parser a1 a1_codes r1_eye r1_reads r1_flight a2 a2_view a2_rays a3 a3_own a3_bodyX a3_bodyY a3_bodyWayX a3_bodyWayY a3_bodyMark v0 v1 v2 v3) H → va_D A (WS_X11_width cI cJ cZ cY a0 a0_tape a0_firstTakes r0_saved r0_flyer r0_parser a1 a1_codes r1_eye r1_reads r1_flight a2 a2_view a2_rays a3 a3_own a3_bodyX a3_bodyY a3_bodyWayX a3_bodyWayY a3_bodyMark v0 v1 v2 v3) → va_S A s.heap H locs → lv_has ls 10 [(0, .ref a0), (1, .int x1), (2, .int x2), (5, .int x5), (6, .int x6), (7, .int x7), (8, .int x8)] → f_X11_width_b48 v0 v1 v3 n (x1, x2, x5, x6, x7, x8, v2) = some res → W p l e rm_X11_width s m args below meth c H locs 0 0 Q (F0 m 48 ls []) := by
    intro n
    induction n with
    | zero =>
      intro x1 x2 x5 x6 x7 x8 v2 H locs ls hP hD hS hl hg
      exact (g_lp0 hg).elim
    | succ n ih =>
      intro x1 x2 x5 x6 x7 x8 v2 H locs ls hP hD hS hl hg
      have hg : f_X11_width_b48B v0 v1 v3 (f_X11_width_b48 v0 v1 v3 n) x1 x2 x5 x6 x7 x8 v2 = some res := hg
      unfold f_X11_width_b48B at hg
      refine lv_iload hx hb dX11_width_48 (lv_at hl 6 rfl) ?_
      refine lv_bipush (v := 7) hx hb dX11_width_50 (by decide) ?_
      refine lv_icmp_gt (tgt := 106) hx hb dX11_width_52 (by decide) (fun c_2 => ?_) (fun c_2 => ?_)
      · have hg := g_it hg c_2
        refine lv_iload hx hb dX11_width_106 (lv_at hl 4 rfl) ?_
        have hg := Option.some.inj hg
        rw [hQ]
        exact W.iret (v := x6) hx hb hr (fun t ht hW => ⟨⟨x6, (v2), rfl, ⟨by rw [← hg], by rw [← hg]⟩, by rw [ht]; exact hP, hD⟩, hS.F ht⟩) hS.2.2 dX11_width_108
      · have hg := g_if hg c_2
        refine lv_aload_n hx hb dX11_width_55 rfl (lv_at hl 0 rfl) ?_
        refine va_get (ci := 10) (v := .ref a2) (C := RX11) (T := TX11) (N := 9) hx hb htb uX11 hown hK.1 hP 0 rfl rfl 2 (by decide) (htb _ tg_414) (fun _ h9 => h9) rfl dX11_width_56 ?_
        refine lv_iload_n hx hb dX11_width_59 rfl (lv_at hl 1 rfl) ?_
        refine lv_iload hx hb dX11_width_60 (lv_at hl 6 rfl) ?_
        refine lv_iload hx hb dX11_width_62 (lv_at hl 3 rfl) ?_
        obtain ⟨r_3, hr_3, hg⟩ := g_bd hg
        refine cc_i (va_runV (C := RX7) (As := [.int x1, .int x8, .int x5]) (rest := []) ⟨hx, hb, hml, hown, htb⟩ (k_X7_weigh a2 a2_view a2_rays a3 a3_own a3_bodyX a3_bodyY a3_bodyWayX a3_bodyWayY a3_bodyMark v2 v3 x1 x8 x5 r_3 hr_3) (cw_V 3 htb tg_530 tg_8 tg_527 tg_528 tg_529 rfl rfl (by decide +kernel) ⟨Nat.le_of_ble_eq_true rfl, Nat.le_of_ble_eq_true rfl⟩) ⟨PC.blind, va_recv hK.1 hP (ci := 6) (q0 := 3) rfl rfl, PC.pre hK hT hP hD hS hA [3, 4, 5, 6, 7, 8, 9, 10, 11, 12] rfl (by decide)⟩ rfl rfl hl.1 rfl (lv_room (Nat.le_of_ble_eq_true rfl)) dX11_width_64 ⟨Nat.le_of_ble_eq_true rfl, Nat.le_of_ble_eq_true rfl⟩) hP hD hS hA [3, 4, 5, 6, 7, 8, 9, 10, 11, 12] [0, 1, 2] rfl rfl (by decide) (by decide) (fun r9 u9 H locs hw hP hD hS => ?_)
        obtain ⟨rfl, rfl⟩ := hw
        have hP : va_P D vwCl (WS_X11_width cI cJ cZ cY a0 a0_tape a0_firstTakes r0_saved r0_flyer r0_parser a1 a1_codes r1_eye r1_reads r1_flight a2 a2_view a2_rays a3 a3_own a3_bodyX a3_bodyY a3_bodyWayX a3_bodyWayY a3_bodyMark v0 v1 r_3.2 v3) H := hP.sub [0, 1, 2, 3, 4, 5, 6, 7, 8, 9, 10, 11, 12] rfl
        have hD : va_D A (WS_X11_width cI cJ cZ cY a0 a0_tape a0_firstTakes r0_saved r0_flyer r0_parser a1 a1_codes r1_eye r1_reads r1_flight a2 a2_view a2_rays a3 a3_own a3_bodyX a3_bodyY a3_bodyWayX a3_bodyWayY a3_bodyMark v0 v1 r_3.2 v3) := hD.sub [0, 1, 2, 3, 4, 5, 6, 7, 8, 9, 10, 11, 12] (by decide) rfl
        refine lv_aload_n hx hb dX11_width_67 rfl (lv_at hl 0 rfl) ?_
        refine va_get (ci := 10) (v := .ref a2) (C := RX11) (T := TX11) (N := 9) hx hb htb uX11 hown hK.1 hP 0 rfl rfl 2 (by decide) (htb _ tg_414) (fun _ h9 => h9) rfl dX11_width_68 ?_
        refine lv_iload_n hx hb dX11_width_71 rfl (lv_at hl 2 rfl) ?_
        refine lv_iload hx hb dX11_width_72 (lv_at hl 6 rfl) ?_
        refine lv_iload hx hb dX11_width_74 (lv_at hl 3 rfl) ?_
        obtain ⟨r_4, hr_4, hg⟩ := g_bd hg
        refine cc_i (va_runV (C := RX7) (As := [.int x2, .int x8, .int x5]) (rest := [.int r_3.1]) ⟨hx, hb, hml, hown, htb⟩ (k_X7_weigh a2 a2_view a2_rays a3 a3_own a3_bodyX a3_bodyY a3_bodyWayX a3_bodyWayY a3_bodyMark r_3.2 v3 x2 x8 x5 r_4 hr_4) (cw_V 3 htb tg_530 tg_8 tg_527 tg_528 tg_529 rfl rfl (by decide +kernel) ⟨Nat.le_of_ble_eq_true rfl, Nat.le_of_ble_eq_true rfl⟩) ⟨PC.blind, va_recv hK.1 hP (ci := 6) (q0 := 3) rfl rfl, PC.pre hK hT hP hD hS hA [3, 4, 5, 6, 7, 8, 9, 10, 11, 12] rfl (by decide)⟩ rfl rfl hl.1 rfl (lv_room (Nat.le_of_ble_eq_true rfl)) dX11_width_76 ⟨Nat.le_of_ble_eq_true rfl, Nat.le_of_ble_eq_true rfl⟩) hP hD hS hA [3, 4, 5, 6, 7, 8, 9, 10, 11, 12] [0, 1, 2] rfl rfl (by decide) (by decide) (fun r9 u9 H locs hw hP hD hS => ?_)
        obtain ⟨rfl, rfl⟩ := hw
        have hP : va_P D vwCl (WS_X11_width cI cJ cZ cY a0 a0_tape a0_firstTakes r0_saved r0_flyer r0_parser a1 a1_codes r1_eye r1_reads r1_flight a2 a2_view a2_rays a3 a3_own a3_bodyX a3_bodyY a3_bodyWayX a3_bodyWayY a3_bodyMark v0 v1 r_4.2 v3) H := hP.sub [0, 1, 2, 3, 4, 5, 6, 7, 8, 9, 10, 11, 12] rfl
        have hD : va_D A (WS_X11_width cI cJ cZ cY a0 a0_tape a0_firstTakes r0_saved r0_flyer r0_parser a1 a1_codes r1_eye r1_reads r1_flight a2 a2_view a2_rays a3 a3_own a3_bodyX a3_bodyY a3_bodyWayX a3_bodyWayY a3_bodyMark v0 v1 r_4.2 v3) := hD.sub [0, 1, 2, 3, 4, 5, 6, 7, 8, 9, 10, 11, 12] (by decide) rfl
        refine lv_isub hx hb dX11_width_79 ?_
        refine va_mabs hx hb (hml.trans hl.1.symm) hown (htb _ tg_575) (htb _ tg_533) (htb _ tg_4) (htb _ tg_534) (Nat.le_of_ble_eq_true rfl) (Nat.le_of_ble_eq_true rfl) (Nat.le_of_ble_eq_true rfl) (Nat.le_of_ble_eq_true rfl) dX11_width_80 ?_
        refine lv_topi (fun x9_5 ex9_5 => ?_)
        have hg := g_lte hg x9_5 ex9_5
        refine lv_istore (lv' := [(9, .int x9_5), (0, .ref a0), (1, .int x1), (2, .int x2), (5, .int x5), (6, .int x6), (7, .int x7), (8, .int x8)]) hx hb dX11_width_83 hl (by decide) rfl (fun ls hl => ?_)
        refine lv_iload hx hb dX11_width_85 (lv_at hl 0 rfl) ?_
        refine lv_iload hx hb dX11_width_87 (lv_at hl 6 rfl) ?_
        refine lv_icmp_le (tgt := 100) hx hb dX11_width_89 (by decide) (fun c_6 => ?_) (fun c_6 => ?_)
        · have hg := g_it hg c_6
          exact b_100 (f_X11_width_b48 v0 v1 v3 n) ih x1 x2 x5 x6 x7 x8 r_4.2 H locs ls hP hD hS (lv_sub hl [1, 2, 3, 4, 5, 6, 7] rfl) hg
        · have hg := g_if hg c_6
          refine lv_iload hx hb dX11_width_92 (lv_at hl 0 rfl) ?_
          refine lv_istore (lv' := [(7, .int x9_5), (9, .int x9_5), (0, .ref a0), (1, .int x1), (2, .int x2), (5, .int x5), (6, .int x6), (8, .int x8)]) hx hb dX11_width_94 hl (by decide) rfl (fun ls hl => ?_)
          refine lv_iload hx hb dX11_width_96 (lv_at hl 7 rfl) ?_
          refine lv_istore (lv' := [(6, .int x8), (7, .int x9_5), (9, .int x9_5), (0, .ref a0), (1, .int x1), (2, .int x2), (5, .int x5), (8, .int x8)]) hx hb dX11_width_98 hl (by decide) rfl (fun ls hl => ?_)
          exact b_100 (f_X11_width_b48 v0 v1 v3 n) ih x1 x2 x5 x8 x9_5 x8 r_4.2 H locs ls hP hD hS (lv_sub hl [3, 4, 5, 6, 0, 1, 7] rfl) hg
  generalize hHe : s.heap = H at hP ⊢
  have hS : va_S A s.heap H [] := by rw [← hHe]; exact va_S.rf
  generalize ([] : List Loc) = locs at hS ⊢
  unfold f_X11_width at hg
  refine lv_iload_n hx hb dX11_width_0 rfl (lv_at hl 1 rfl) ?_
  obtain ⟨r_7, hr_7, hg⟩ := g_bd hg
  refine cc_i (va_runS (As := [.int p0]) (rest := []) ⟨hx, hb, hml, hown, htb⟩ (k_X11_isSide p0 r_7 hr_7) (cw_S 1 htb tg_482 tg_1 tg_480 tg_481 rfl rfl (by decide +kernel) ⟨Nat.le_of_ble_eq_true rfl, Nat.le_of_ble_eq_true rfl⟩) ⟨PC.blind, PC.pre hK hT hP hD hS hA [] rfl (by decide)⟩ rfl rfl hl.1 rfl (lv_room (Nat.le_of_ble_eq_true rfl)) dX11_width_1 ⟨Nat.le_of_ble_eq_true rfl, Nat.le_of_ble_eq_true rfl⟩) hP hD hS hA [] [0, 1, 2, 3, 4, 5, 6, 7, 8, 9, 10, 11, 12] rfl rfl (by decide) (by decide) (fun r9 u9 H locs hw hP hD hS => ?_)
  have hw := hw.symm
  subst hw
  have hP : va_P D vwCl (WS_X11_width cI cJ cZ cY a0 a0_tape a0_firstTakes r0_saved r0_flyer r0_parser a1 a1_codes r1_eye r1_reads r1_flight a2 a2_view a2_rays a3 a3_own a3_bodyX a3_bodyY a3_bodyWayX a3_bodyWayY a3_bodyMark v0 v1 v2 v3) H := hP.sub [0, 1, 2, 3, 4, 5, 6, 7, 8, 9, 10, 11, 12] rfl
  have hD : va_D A (WS_X11_width cI cJ cZ cY a0 a0_tape a0_firstTakes r0_saved r0_flyer r0_parser a1 a1_codes r1_eye r1_reads r1_flight a2 a2_view a2_rays a3 a3_own a3_bodyX a3_bodyY a3_bodyWayX a3_bodyWayY a3_bodyMark v0 v1 v2 v3) := hD.sub [0, 1, 2, 3, 4, 5, 6, 7, 8, 9, 10, 11, 12] (by decide) rfl
  refine lv_if_eq (tgt := 26) hx hb dX11_width_4 (by decide) (fun c_8 => ?_) (fun c_8 => ?_)
  · have hg := g_it hg c_8
    refine lv_iconst (v := (-1)) hx hb dX11_width_26 (by decide) ?_
    have hg := Option.some.inj hg
    rw [hQ]
    exact W.iret (v := (-1)) hx hb hr (fun t ht hW => ⟨⟨(-1), (v2), rfl, ⟨by rw [← hg], by rw [← hg]⟩, by rw [ht]; exact hP, hD⟩, hS.F ht⟩) hS.2.2 dX11_width_27
  · have hg := g_if hg c_8
    refine lv_iload_n hx hb dX11_width_7 rfl (lv_at hl 2 rfl) ?_
    obtain ⟨r_9, hr_9, hg⟩ := g_bd hg
    refine cc_i (va_runS (As := [.int p1]) (rest := []) ⟨hx, hb, hml, hown, htb⟩ (k_X11_isSide p1 r_9 hr_9) (cw_S 1 htb tg_482 tg_1 tg_480 tg_481 rfl rfl (by decide +kernel) ⟨Nat.le_of_ble_eq_true rfl, Nat.le_of_ble_eq_true rfl⟩) ⟨PC.blind, PC.pre hK hT hP hD hS hA [] rfl (by decide)⟩ rfl rfl hl.1 rfl (lv_room (Nat.le_of_ble_eq_true rfl)) dX11_width_8 ⟨Nat.le_of_ble_eq_true rfl, Nat.le_of_ble_eq_true rfl⟩) hP hD hS hA [] [0, 1, 2, 3, 4, 5, 6, 7, 8, 9, 10, 11, 12] rfl rfl (by decide) (by decide) (fun r9 u9 H locs hw hP hD hS => ?_)
    have hw := hw.symm
    subst hw
    have hP : va_P D vwCl (WS_X11_width cI cJ cZ cY a0 a0_tape a0_firstTakes r0_saved r0_flyer r0_parser a1 a1_codes r1_eye r1_reads r1_flight a2 a2_view a2_rays a3 a3_own a3_bodyX a3_bodyY a3_bodyWayX a3_bodyWayY a3_bodyMark v0 v1 v2 v3) H := hP.sub [0, 1, 2, 3, 4, 5, 6, 7, 8, 9, 10, 11, 12] rfl
    have hD : va_D A (WS_X11_width cI cJ cZ cY a0 a0_tape a0_firstTakes r0_saved r0_flyer r0_parser a1 a1_codes r1_eye r1_reads r1_flight a2 a2_view a2_rays a3 a3_own a3_bodyX a3_bodyY a3_bodyWayX a3_bodyWayY a3_bodyMark v0 v1 v2 v3) := hD.sub [0, 1, 2, 3, 4, 5, 6, 7, 8, 9, 10, 11, 12] (by decide) rfl
    refine lv_if_eq (tgt := 26) hx hb dX11_width_11 (by decide) (fun c_10 => ?_) (fun c_10 => ?_)
    · have hg := g_it hg c_10
      refine lv_iconst (v := (-1)) hx hb dX11_width_26 (by decide) ?_
      have hg := Option.some.inj hg
      rw [hQ]
      exact W.iret (v := (-1)) hx hb hr (fun t ht hW => ⟨⟨(-1), (v2), rfl, ⟨by rw [← hg], by rw [← hg]⟩, by rw [ht]; exact hP, hD⟩, hS.F ht⟩) hS.2.2 dX11_width_27
    · have hg := g_if hg c_10
      refine lv_aload_n hx hb dX11_width_14 rfl (lv_at hl 0 rfl) ?_
      refine lv_iload_n hx hb dX11_width_15 rfl (lv_at hl 3 rfl) ?_
      refine lv_iload hx hb dX11_width_16 (lv_at hl 4 rfl) ?_
      refine lv_iload hx hb dX11_width_18 (lv_at hl 5 rfl) ?_
      obtain ⟨r_11, hr_11, hg⟩ := g_bd hg
      refine cc_i (va_runV (C := RX11) (As := [.int p2, .int p3, .int p4]) (rest := []) ⟨hx, hb, hml, hown, htb⟩ (k_X11_isStanding a0 a0_tape a0_firstTakes r0_saved a2 r0_flyer r0_parser a1 a1_codes r1_eye r1_reads r1_flight a3 a3_own a3_bodyX a3_bodyY a3_bodyWayX a3_bodyWayY a3_bodyMark v0 v1 v3 p2 p3 p4 r_11 hr_11) (cw_V 3 htb tg_526 tg_1 tg_523 tg_525 ts_0 rfl rfl (by decide +kernel) ⟨Nat.le_of_ble_eq_true rfl, Nat.le_of_ble_eq_true rfl⟩) ⟨PC.blind, va_recv hK.1 hP (ci := 10) (q0 := 0) rfl rfl, PC.pre hK hT hP hD hS hA [0, 1, 2, 6, 7, 8, 9, 10, 11, 12] rfl (by decide)⟩ rfl rfl hl.1 rfl (lv_room (Nat.le_of_ble_eq_true rfl)) dX11_width_20 ⟨Nat.le_of_ble_eq_true rfl, Nat.le_of_ble_eq_true rfl⟩) hP hD hS hA [0, 1, 2, 6, 7, 8, 9, 10, 11, 12] [3, 4, 5] rfl rfl (by decide) (by decide) (fun r9 u9 H locs hw hP hD hS => ?_)
      have hw := hw.symm
      subst hw
      have hP : va_P D vwCl (WS_X11_width cI cJ cZ cY a0 a0_tape a0_firstTakes r0_saved r0_flyer r0_parser a1 a1_codes r1_eye r1_reads r1_flight a2 a2_view a2_rays a3 a3_own a3_bodyX a3_bodyY a3_bodyWayX a3_bodyWayY a3_bodyMark v0 v1 v2 v3) H := hP.sub [3, 4, 5, 0, 1, 2, 6, 7, 8, 9, 10, 11, 12] rfl
      have hD : va_D A (WS_X11_width cI cJ cZ cY a0 a0_tape a0_firstTakes r0_saved r0_flyer r0_parser a1 a1_codes r1_eye r1_reads r1_flight a2 a2_view a2_rays a3 a3_own a3_bodyX a3_bodyY a3_bodyWayX a3_bodyWayY a3_bodyMark v0 v1 v2 v3) := hD.sub [3, 4, 5, 0, 1, 2, 6, 7, 8, 9, 10, 11, 12] (by decide) rfl
      refine lv_if_ne (tgt := 28) hx hb dX11_width_23 (by decide) (fun c_12 => ?_) (fun c_12 => ?_)
      · have hg := g_if hg c_12
        refine lv_aload_n hx hb dX11_width_28 rfl (lv_at hl 0 rfl) ?_
        refine va_get (ci := 10) (v := .ref a2) (C := RX11) (T := TX11) (N := 9) hx hb htb uX11 hown hK.1 hP 0 rfl rfl 2 (by decide) (htb _ tg_414) (fun _ h9 => h9) rfl dX11_width_29 ?_
        refine lv_iload_n hx hb dX11_width_32 rfl (lv_at hl 3 rfl) ?_
        refine lv_iload hx hb dX11_width_33 (lv_at hl 4 rfl) ?_
        refine lv_iconst (v := 0) hx hb dX11_width_35 (by decide) ?_
        obtain ⟨r_13, hr_13, hg⟩ := g_bd hg
        refine cc_v (va_runV (C := RX7) (As := [.int p2, .int p3, .int 0]) (rest := []) ⟨hx, hb, hml, hown, htb⟩ (k_X7_look a2 a2_view a2_rays a3 a3_own a3_bodyX a3_bodyY a3_bodyWayX a3_bodyWayY a3_bodyMark v2 v3 p2 p3 0 r_13 hr_13) (cw_V 3 htb tg_503 tg_8 tg_500 tg_501 tg_502 rfl rfl (by decide +kernel) ⟨Nat.le_of_ble_eq_true rfl, Nat.le_of_ble_eq_true rfl⟩) ⟨PC.blind, va_recv hK.1 hP (ci := 6) (q0 := 3) rfl rfl, PC.pre hK hT hP hD hS hA [3, 4, 5, 6, 7, 8, 9, 10, 11, 12] rfl (by decide)⟩ rfl rfl hl.1 rfl (lv_room (Nat.le_of_ble_eq_true rfl)) dX11_width_36 ⟨Nat.le_of_ble_eq_true rfl, Nat.le_of_ble_eq_true rfl⟩) hP hD hS hA [3, 4, 5, 6, 7, 8, 9, 10, 11, 12] [0, 1, 2] rfl rfl (by decide) (by decide) (fun u9 H locs hw hP hD hS => ?_)
        have hw := hw.symm
        subst hw
        have hP : va_P D vwCl (WS_X11_width cI cJ cZ cY a0 a0_tape a0_firstTakes r0_saved r0_flyer r0_parser a1 a1_codes r1_eye r1_reads r1_flight a2 a2_view a2_rays a3 a3_own a3_bodyX a3_bodyY a3_bodyWayX a3_bodyWayY a3_bodyMark v0 v1 r_13 v3) H := hP.sub [0, 1, 2, 3, 4, 5, 6, 7, 8, 9, 10, 11, 12] rfl
        have hD : va_D A (WS_X11_width cI cJ cZ cY a0 a0_tape a0_firstTakes r0_saved r0_flyer r0_parser a1 a1_codes r1_eye r1_reads r1_flight a2 a2_view a2_rays a3 a3_own a3_bodyX a3_bodyY a3_bodyWayX a3_bodyWayY a3_bodyMark v0 v1 r_13 v3) := hD.sub [0, 1, 2, 3, 4, 5, 6, 7, 8, 9, 10, 11, 12] (by decide) rfl
        refine lv_iconst (v := (-1)) hx hb dX11_width_39 (by decide) ?_
        refine lv_topi (fun x6_14 ex6_14 => ?_)
        have hg := g_lte hg x6_14 ex6_14
        refine lv_istore (lv' := [(6, .int x6_14), (0, .ref a0), (1, .int p0), (2, .int p1), (3, .int p2), (4, .int p3), (5, .int p4)]) hx hb dX11_width_40 hl (by decide) rfl (fun ls hl => ?_)
        refine lv_iconst (v := (-1)) hx hb dX11_width_42 (by decide) ?_
        refine lv_topi (fun x7_15 ex7_15 => ?_)
        have hg := g_lte hg x7_15 ex7_15
        refine lv_istore (lv' := [(7, .int x7_15), (6, .int x6_14), (0, .ref a0), (1, .int p0), (2, .int p1), (3, .int p2), (4, .int p3), (5, .int p4)]) hx hb dX11_width_43 hl (by decide) rfl (fun ls hl => ?_)
        refine lv_iconst (v := 0) hx hb dX11_width_45 (by decide) ?_
        refine lv_istore (lv' := [(8, .int 0), (7, .int x7_15), (6, .int x6_14), (0, .ref a0), (1, .int p0), (2, .int p1), (3, .int p2), (4, .int p3), (5, .int p4)]) hx hb dX11_width_46 hl (by decide) rfl (fun ls hl => ?_)
        exact b_48 fU p0 p1 p4 x6_14 x7_15 0 r_13 H locs ls hP hD hS (lv_sub hl [3, 4, 5, 8, 2, 1, 0] rfl) hg
      · have hg := g_it hg c_12
        refine lv_iconst (v := (-1)) hx hb dX11_width_26 (by decide) ?_
        have hg := Option.some.inj hg
        rw [hQ]
        exact W.iret (v := (-1)) hx hb hr (fun t ht hW => ⟨⟨(-1), (v2), rfl, ⟨by rw [← hg], by rw [← hg]⟩, by rw [ht]; exact hP, hD⟩, hS.F ht⟩) hS.2.2 dX11_width_27
