/-! ManyEyes$Parser.ask()Z -/
def WS_X4_ask (cI cJ cZ cY : ClassId) (a0 a0_code a1 a1_kinds a1_starts a1_values : Nat) (v0 : BX4) (v1 : BX9) : va_W := (GX4 cI cJ cZ cY a0 a0_code a1 v0) ++ ((GX9 cI cJ cZ cY a1 a1_kinds a1_starts a1_values v1))
def f_X4_ask_b90B (J90 : Int32 × Int32 × BX4 × BX9 → Option (Int32 × BX4 × BX9)) (x1 : Int32) (x3 : Int32) (v0 : BX4) (v1 : BX9) : Option (Int32 × BX4 × BX9) := if (x1 : Int32) ≤ x3 then (g_lt (((pX4_open v0) - x1) : Int32) (fun x_2 => g_lt (sX4_open v0 x_2) (fun v0_3 => some (1, v0_3, v1)))) else ((f_X4_emit v0 6 0).bind (fun r_4 => g_lt (x3 + 1 : Int32) (fun x3_5 => J90 (x1, x3_5, r_4, v1))))
def f_X4_ask_b90 : Nat → (Int32 × Int32 × BX4 × BX9) → Option (Int32 × BX4 × BX9) := g_lp (fun J z => f_X4_ask_b90B J z.1 z.2.1 z.2.2.1 z.2.2.2)
def f_X4_ask_b35 (x1 : Int32) (v0 : BX4) (v1 : BX9) : Option (Int32 × BX4 × BX9) := (f_X4_sum v0 v1).bind (fun r_6 => if (r_6.1 : Int32) = 0 then (some (0, r_6.2.1, r_6.2.2)) else ((f_X4_compareOperation (pX9_kind r_6.2.2)).bind (fun r_8 => if (r_8 : Int32) = (-1) then ((f_X4_refuse r_6.2.1 r_6.2.2 1).bind (fun r_14 => g_gd (r_14.1 = 0 ∨ r_14.1 = 1) (some (r_14.1, r_14.2, r_6.2.2)))) else ((f_X9_advance r_6.2.2).bind (fun r_10 => (f_X4_sum r_6.2.1 r_10).bind (fun r_11 => if (r_11.1 : Int32) = 0 then (some (0, r_11.2.1, r_11.2.2)) else ((f_X4_emit r_11.2.1 r_8 0).bind (fun r_13 => f_X4_ask_b90 fU (x1, 0, r_13, r_11.2.2)))))))))
def f_X4_ask_b2B (J2 : Int32 × BX4 × BX9 → Option (Int32 × BX4 × BX9)) (x1 : Int32) (v0 : BX4) (v1 : BX9) : Option (Int32 × BX4 × BX9) := if (8 : Int32) < x1 then (f_X4_ask_b35 x1 v0 v1) else (if ((pX9_kind v1) : Int32) = 7237492 then ((f_X4_enter v0 v1).bind (fun r_18 => if (r_18.1 : Int32) = 0 then (some (0, r_18.2.1, r_18.2.2)) else (g_lt (x1 + 1 : Int32) (fun x1_20 => J2 (x1_20, r_18.2.1, r_18.2.2))))) else (f_X4_ask_b35 x1 v0 v1))
def f_X4_ask_b2 : Nat → (Int32 × BX4 × BX9) → Option (Int32 × BX4 × BX9) := g_lp (fun J z => f_X4_ask_b2B J z.1 z.2.1 z.2.2)
def f_X4_ask (v0 : BX4) (v1 : BX9) : Option (Int32 × BX4 × BX9) := f_X4_ask_b2 fU (0, v0, v1)
abbrev rm_X4_ask : Room := { frames := 61, cells := 0, slots := 0, locals := 2425 }
set_option maxHeartbeats 4000000 in
set_option maxRecDepth 100000 in
theorem k_X4_ask {l : Launch} {D : va_G} {cI cJ cZ cY : ClassId} {tX tY : Nat} {sz : Nat} (a0 a0_code a1 a1_kinds a1_starts a1_values : Nat) (v0 : BX4) (v1 : BX9) (res : Int32 × BX4 × BX9) (hg : f_X4_ask v0 v1 = some res) : Met l yX4_ask (Cond.code yX4_ask cX4_ask 4 (some .boolean) :: TB) rm_X4_ask (PC D cI cJ cZ cY tX tY [.ref a0] (WS_X4_ask cI cJ cZ cY a0 a0_code a1 a1_kinds a1_starts a1_values v0 v1) sz) (va_Qi (fun (r : Int32) (u : BX4 × BX9) => r = res.1 ∧ u = res.2) (BC D (fun u : BX4 × BX9 => WS_X4_ask cI cJ cZ cY a0 a0_code a1 a1_kinds a1_starts a1_values u.1 u.2) (va_A (WS_X4_ask cI cJ cZ cY a0 a0_code a1 a1_kinds a1_starts a1_values v0 v1) sz)) (va_A (WS_X4_ask cI cJ cZ cY a0 a0_code a1 a1_kinds a1_starts a1_values v0 v1) sz)) 0 0 (va_A (WS_X4_ask cI cJ cZ cY a0 a0_code a1 a1_kinds a1_starts a1_values v0 v1) sz) := by
  refine Met.ofW (cc := cX4_ask) (maxL := 4) (ret := (some .boolean)) (by decide) rfl ?_
  intro p e s m args below meth c s₁ B hml hv
  obtain ⟨hargs, hsz, hP, hK, hD0, hT⟩ := hv
  have hx := B.exec
  have hb := B.bytes
  have hr := B.returns
  have htb : ∀ w ∈ TB, w.before args s = true := fun w h => atoms_spec (ws := Cond.code yX4_ask cX4_ask 4 (some .boolean) :: TB) B.pre w (List.mem_cons_of_mem _ h)
  have hown : s.vm.findClass "ManyEyes$Parser" = some m.cls := findClass_of_methodNamed B.named
  have hlocks := B.notSynchronized
  subst hsz
  have hD := hD0.self (sz := s.heap.size)
  generalize hAe : va_A (WS_X4_ask cI cJ cZ cY a0 a0_code a1 a1_kinds a1_starts a1_values v0 v1) s.heap.size = A at hD hT ⊢
  have hA : ∀ q : Nat, s.heap.size ≤ q → A q := fun q h => by rw [← hAe]; exact Or.inr h
  have hS : va_S A s.heap s.heap [] := va_S.rf
  have hl := lv_entry ([.ref a0]) (n := 4) (Nat.le_of_ble_eq_true rfl)
  have he : entryFrame m args 4 = F0 m 0 (lg_sl ([.ref a0]) ++ List.replicate (4 - (lg_sl ([.ref a0])).length) Slot.unset).toArray [] := by rw [hargs, lg_entry_eq]
  rw [he]
  generalize (lg_sl ([.ref a0]) ++ List.replicate (4 - (lg_sl ([.ref a0])).length) Slot.unset).toArray = ls at hl ⊢
  have hl : lv_has ls 4 [(0, .ref a0)] := hl
  show W p l e rm_X4_ask s m args below meth c s.heap [] 0 0 _ _
  refine W.genQ (fun Q hQ => ?_)
  have b_90 : ∀ (n : Nat), ∀ (x1 : Int32) (x3 : Int32) (v0 : BX4) (v1 : BX9) (H : Heap) (locs : List Loc) (ls : Array Slot), va_P D vwCl (WS_X4_ask cI cJ cZ cY a0 a0_code a1 a1_kinds a1_starts a1_values v0 v1) H → va_D A (WS_X4_ask cI cJ cZ cY a0 a0_code a1 a1_kinds a1_starts a1_values v0 v1) → va_S A s.heap H locs → lv_has ls 4 [(0, .ref a0), (1, .int x1), (3, .int x3)] → f_X4_ask_b90 n (x1, x3, v0, v1) = some res → W p l e rm_X4_ask s m args below meth c H locs 0 0 Q (F0 m 90 ls []) := by
    intro n
    induction n with
    | zero =>
      intro x1 x3 v0 v1 H locs ls hP hD hS hl hg
      exact (g_lp0 hg).elim
    | succ n ih =>
      intro x1 x3 v0 v1 H locs ls hP hD hS hl hg
      have hg : f_X4_ask_b90B (f_X4_ask_b90 n) x1 x3 v0 v1 = some res := hg
      unfold f_X4_ask_b90B at hg
      refine lv_iload_n hx hb dX4_ask_90 rfl (lv_at hl 2 rfl) ?_
      refine lv_iload_n hx hb dX4_ask_91 rfl (lv_at hl 1 rfl) ?_
      refine lv_icmp_ge (tgt := 108) hx hb dX4_ask_92 (by decide) (fun c_1 => ?_) (fun c_1 => ?_)
      · have hg := g_it hg c_1
        refine lv_aload_n hx hb dX4_ask_108 rfl (lv_at hl 0 rfl) ?_
        refine lv_dup hx hb dX4_ask_109 rfl ?_
        refine va_get (ci := 3) (v := .int (pX4_open v0)) (C := RX4) (T := TX4) (N := 8) hx hb htb uX4 hown hK.1 hP 0 rfl rfl 3 (by decide) (htb _ tg_388) (fun _ h9 => h9) rfl dX4_ask_110 ?_
        refine lv_iload_n hx hb dX4_ask_113 rfl (lv_at hl 1 rfl) ?_
        refine lv_isub hx hb dX4_ask_114 ?_
        refine lv_topi (fun x_2 ex_2 => ?_)
        have hg := g_lte hg x_2 ex_2
        refine va_put (ci := 3) (v := .int x_2) (ty := .int) (C := RX4) (T := TX4) (N := 8) hx hb htb uX4 tyX4 tyX4_ok nmX4 hown hK.1 hP hD hS 0 rfl rfl 3 (by decide) (htb _ tg_388) (fun _ h9 => h9) rfl (by decide +kernel) rfl rfl (Nat.le_of_ble_eq_true rfl) dX4_ask_115 (fun H locs hP hD hS => ?_)
        obtain ⟨v0_3, ev0_3⟩ : ∃ z, z = sX4_open v0 x_2 := ⟨_, rfl⟩
        have hP : va_P D vwCl (WS_X4_ask cI cJ cZ cY a0 a0_code a1 a1_kinds a1_starts a1_values v0_3 v1) H := by rw [ev0_3]; exact hP
        have hD : va_D A (WS_X4_ask cI cJ cZ cY a0 a0_code a1 a1_kinds a1_starts a1_values v0_3 v1) := by rw [ev0_3]; exact hD
        have hg := g_lte hg v0_3 ev0_3
        refine lv_iconst (v := 1) hx hb dX4_ask_118 (by decide) ?_
        have hg := Option.some.inj hg
        rw [hQ]
        exact W.zret (v := 1) (ty := .boolean) hx hb hr rfl (fun t ht hW => ⟨⟨1, (v0_3, v1), rfl, ⟨by rw [← hg], by rw [← hg]⟩, by rw [ht]; exact hP, hD⟩, hS.F ht⟩) hS.2.2 dX4_ask_119
      · have hg := g_if hg c_1
        refine lv_aload_n hx hb dX4_ask_95 rfl (lv_at hl 0 rfl) ?_
        refine lv_bipush (v := 6) hx hb dX4_ask_96 (by decide) ?_
        refine lv_iconst (v := 0) hx hb dX4_ask_98 (by decide) ?_
        obtain ⟨r_4, hr_4, hg⟩ := g_bd hg
        refine cc_v (va_runV (C := RX4) (As := [.int 6, .int 0]) (rest := []) ⟨hx, hb, hml, hown, htb⟩ (k_X4_emit a0 a0_code a1 v0 6 0 r_4 hr_4) (cw_V 2 htb tg_665 tg_11 tg_662 tg_664 ts_12 rfl rfl (by decide +kernel) ⟨Nat.le_of_ble_eq_true rfl, Nat.le_of_ble_eq_true rfl⟩) ⟨PC.blind, va_recv hK.1 hP (ci := 3) (q0 := 0) rfl rfl, PC.pre hK hT hP hD hS hA [0, 1] rfl (by decide)⟩ rfl rfl hl.1 rfl (lv_room (Nat.le_of_ble_eq_true rfl)) dX4_ask_99 ⟨Nat.le_of_ble_eq_true rfl, Nat.le_of_ble_eq_true rfl⟩) hP hD hS hA [0, 1] [2, 3, 4, 5] rfl rfl (by decide) (by decide) (fun u9 H locs hw hP hD hS => ?_)
        have hw := hw.symm
        subst hw
        have hP : va_P D vwCl (WS_X4_ask cI cJ cZ cY a0 a0_code a1 a1_kinds a1_starts a1_values r_4 v1) H := hP.sub [4, 5, 0, 1, 2, 3] rfl
        have hD : va_D A (WS_X4_ask cI cJ cZ cY a0 a0_code a1 a1_kinds a1_starts a1_values r_4 v1) := hD.sub [4, 5, 0, 1, 2, 3] (by decide) rfl
        obtain ⟨x3_5, ex3_5⟩ : ∃ z : Int32, z = x3 + 1 := ⟨_, rfl⟩
        have hg := g_lte hg x3_5 ex3_5
        refine lv_iinc (v := x3_5) (lv' := [(3, .int x3_5), (0, .ref a0), (1, .int x1)]) hx hb dX4_ask_102 hl (k := 2) rfl (by rw [ex3_5]; rfl) (by decide) rfl (fun ls hl => ?_)
        refine lv_goto (tgt := 90) hx hb dX4_ask_105 (by decide) ?_
        exact ih x1 x3_5 r_4 v1 H locs ls hP hD hS (lv_sub hl [1, 2, 0] rfl) hg
  have b_35 : ∀ (x1 : Int32) (v0 : BX4) (v1 : BX9) (H : Heap) (locs : List Loc) (ls : Array Slot), va_P D vwCl (WS_X4_ask cI cJ cZ cY a0 a0_code a1 a1_kinds a1_starts a1_values v0 v1) H → va_D A (WS_X4_ask cI cJ cZ cY a0 a0_code a1 a1_kinds a1_starts a1_values v0 v1) → va_S A s.heap H locs → lv_has ls 4 [(0, .ref a0), (1, .int x1)] → f_X4_ask_b35 x1 v0 v1 = some res → W p l e rm_X4_ask s m args below meth c H locs 0 0 Q (F0 m 35 ls []) := by
    intro x1 v0 v1 H locs ls hP hD hS hl hg
    unfold f_X4_ask_b35 at hg
    refine lv_aload_n hx hb dX4_ask_35 rfl (lv_at hl 0 rfl) ?_
    obtain ⟨r_6, hr_6, hg⟩ := g_bd hg
    refine cc_i (va_runV (C := RX4) (As := []) (rest := []) ⟨hx, hb, hml, hown, htb⟩ (k_X4_sum a0 a0_code a1 a1_kinds a1_starts a1_values v0 v1 r_6 hr_6) (cw_V 0 htb tg_653 tg_11 tg_650 tg_652 ts_9 rfl rfl (by decide +kernel) ⟨Nat.le_of_ble_eq_true rfl, Nat.le_of_ble_eq_true rfl⟩) ⟨PC.blind, va_recv hK.1 hP (ci := 3) (q0 := 0) rfl rfl, PC.pre hK hT hP hD hS hA [0, 1, 2, 3, 4, 5] rfl (by decide)⟩ rfl rfl hl.1 rfl (lv_room (Nat.le_of_ble_eq_true rfl)) dX4_ask_36 ⟨Nat.le_of_ble_eq_true rfl, Nat.le_of_ble_eq_true rfl⟩) hP hD hS hA [0, 1, 2, 3, 4, 5] [] rfl rfl (by decide) (by decide) (fun r9 u9 H locs hw hP hD hS => ?_)
    obtain ⟨rfl, rfl⟩ := hw
    have hP : va_P D vwCl (WS_X4_ask cI cJ cZ cY a0 a0_code a1 a1_kinds a1_starts a1_values r_6.2.1 r_6.2.2) H := hP.sub [0, 1, 2, 3, 4, 5] rfl
    have hD : va_D A (WS_X4_ask cI cJ cZ cY a0 a0_code a1 a1_kinds a1_starts a1_values r_6.2.1 r_6.2.2) := hD.sub [0, 1, 2, 3, 4, 5] (by decide) rfl
    refine lv_if_ne (tgt := 44) hx hb dX4_ask_39 (by decide) (fun c_7 => ?_) (fun c_7 => ?_)
    · have hg := g_if hg c_7
      refine lv_aload_n hx hb dX4_ask_44 rfl (lv_at hl 0 rfl) ?_
      refine va_get (ci := 3) (v := .ref a1) (C := RX4) (T := TX4) (N := 8) hx hb htb uX4 hown hK.1 hP 0 rfl rfl 0 (by decide) (htb _ tg_385) (fun _ h9 => h9) rfl dX4_ask_45 ?_
      refine va_get (ci := 8) (v := .int (pX9_kind r_6.2.2)) (C := RX9) (T := TX9) (N := 8) hx hb htb uX9 hown hK.1 hP 2 rfl rfl 5 (by decide) (htb _ tg_362) (fun _ h9 => h9) rfl dX4_ask_48 ?_
      obtain ⟨r_8, hr_8, hg⟩ := g_bd hg
      refine cc_i (va_runS (As := [.int (pX9_kind r_6.2.2)]) (rest := []) ⟨hx, hb, hml, hown, htb⟩ (k_X4_compareOperation (pX9_kind r_6.2.2) r_8 hr_8) (cw_S 1 htb tg_704 tg_11 tg_702 tg_703 rfl rfl (by decide +kernel) ⟨Nat.le_of_ble_eq_true rfl, Nat.le_of_ble_eq_true rfl⟩) ⟨PC.blind, PC.pre hK hT hP hD hS hA [] rfl (by decide)⟩ rfl rfl hl.1 rfl (lv_room (Nat.le_of_ble_eq_true rfl)) dX4_ask_51 ⟨Nat.le_of_ble_eq_true rfl, Nat.le_of_ble_eq_true rfl⟩) hP hD hS hA [] [0, 1, 2, 3, 4, 5] rfl rfl (by decide) (by decide) (fun r9 u9 H locs hw hP hD hS => ?_)
      have hw := hw.symm
      subst hw
      have hP : va_P D vwCl (WS_X4_ask cI cJ cZ cY a0 a0_code a1 a1_kinds a1_starts a1_values r_6.2.1 r_6.2.2) H := hP.sub [0, 1, 2, 3, 4, 5] rfl
      have hD : va_D A (WS_X4_ask cI cJ cZ cY a0 a0_code a1 a1_kinds a1_starts a1_values r_6.2.1 r_6.2.2) := hD.sub [0, 1, 2, 3, 4, 5] (by decide) rfl
      refine lv_istore_n (lv' := [(2, .int r_8), (0, .ref a0), (1, .int x1)]) hx hb dX4_ask_54 rfl hl (by decide) rfl (fun ls hl => ?_)
      refine lv_iload_n hx hb dX4_ask_55 rfl (lv_at hl 0 rfl) ?_
      refine lv_iconst (v := (-1)) hx hb dX4_ask_56 (by decide) ?_
      refine lv_icmp_ne (tgt := 66) hx hb dX4_ask_57 (by decide) (fun c_9 => ?_) (fun c_9 => ?_)
      · have hg := g_if hg c_9
        refine lv_aload_n hx hb dX4_ask_66 rfl (lv_at hl 1 rfl) ?_
        refine va_get (ci := 3) (v := .ref a1) (C := RX4) (T := TX4) (N := 8) hx hb htb uX4 hown hK.1 hP 0 rfl rfl 0 (by decide) (htb _ tg_385) (fun _ h9 => h9) rfl dX4_ask_67 ?_
        obtain ⟨r_10, hr_10, hg⟩ := g_bd hg
        refine cc_v (va_runV (C := RX9) (As := []) (rest := []) ⟨hx, hb, hml, hown, htb⟩ (k_X9_advance a1 a1_kinds a1_starts a1_values r_6.2.2 r_10 hr_10) (cw_V 0 htb tg_633 tg_12 tg_645 tg_631 tg_632 rfl rfl (by decide +kernel) ⟨Nat.le_of_ble_eq_true rfl, Nat.le_of_ble_eq_true rfl⟩) ⟨PC.blind, va_recv hK.1 hP (ci := 8) (q0 := 2) rfl rfl, PC.pre hK hT hP hD hS hA [2, 3, 4, 5] rfl (by decide)⟩ rfl rfl hl.1 rfl (lv_room (Nat.le_of_ble_eq_true rfl)) dX4_ask_70 ⟨Nat.le_of_ble_eq_true rfl, Nat.le_of_ble_eq_true rfl⟩) hP hD hS hA [2, 3, 4, 5] [0, 1] rfl rfl (by decide) (by decide) (fun u9 H locs hw hP hD hS => ?_)
        have hw := hw.symm
        subst hw
        have hP : va_P D vwCl (WS_X4_ask cI cJ cZ cY a0 a0_code a1 a1_kinds a1_starts a1_values r_6.2.1 r_10) H := hP.sub [0, 1, 2, 3, 4, 5] rfl
        have hD : va_D A (WS_X4_ask cI cJ cZ cY a0 a0_code a1 a1_kinds a1_starts a1_values r_6.2.1 r_10) := hD.sub [0, 1, 2, 3, 4, 5] (by decide) rfl
        refine lv_aload_n hx hb dX4_ask_73 rfl (lv_at hl 1 rfl) ?_
        obtain ⟨r_11, hr_11, hg⟩ := g_bd hg
        refine cc_i (va_runV (C := RX4) (As := []) (rest := []) ⟨hx, hb, hml, hown, htb⟩ (k_X4_sum a0 a0_code a1 a1_kinds a1_starts a1_values r_6.2.1 r_10 r_11 hr_11) (cw_V 0 htb tg_653 tg_11 tg_650 tg_652 ts_9 rfl rfl (by decide +kernel) ⟨Nat.le_of_ble_eq_true rfl, Nat.le_of_ble_eq_true rfl⟩) ⟨PC.blind, va_recv hK.1 hP (ci := 3) (q0 := 0) rfl rfl, PC.pre hK hT hP hD hS hA [0, 1, 2, 3, 4, 5] rfl (by decide)⟩ rfl rfl hl.1 rfl (lv_room (Nat.le_of_ble_eq_true rfl)) dX4_ask_74 ⟨Nat.le_of_ble_eq_true rfl, Nat.le_of_ble_eq_true rfl⟩) hP hD hS hA [0, 1, 2, 3, 4, 5] [] rfl rfl (by decide) (by decide) (fun r9 u9 H locs hw hP hD hS => ?_)
        obtain ⟨rfl, rfl⟩ := hw
        have hP : va_P D vwCl (WS_X4_ask cI cJ cZ cY a0 a0_code a1 a1_kinds a1_starts a1_values r_11.2.1 r_11.2.2) H := hP.sub [0, 1, 2, 3, 4, 5] rfl
        have hD : va_D A (WS_X4_ask cI cJ cZ cY a0 a0_code a1 a1_kinds a1_starts a1_values r_11.2.1 r_11.2.2) := hD.sub [0, 1, 2, 3, 4, 5] (by decide) rfl
        refine lv_if_ne (tgt := 82) hx hb dX4_ask_77 (by decide) (fun c_12 => ?_) (fun c_12 => ?_)
        · have hg := g_if hg c_12
          refine lv_aload_n hx hb dX4_ask_82 rfl (lv_at hl 1 rfl) ?_
          refine lv_iload_n hx hb dX4_ask_83 rfl (lv_at hl 0 rfl) ?_
          refine lv_iconst (v := 0) hx hb dX4_ask_84 (by decide) ?_
          obtain ⟨r_13, hr_13, hg⟩ := g_bd hg
          refine cc_v (va_runV (C := RX4) (As := [.int r_8, .int 0]) (rest := []) ⟨hx, hb, hml, hown, htb⟩ (k_X4_emit a0 a0_code a1 r_11.2.1 r_8 0 r_13 hr_13) (cw_V 2 htb tg_665 tg_11 tg_662 tg_664 ts_12 rfl rfl (by decide +kernel) ⟨Nat.le_of_ble_eq_true rfl, Nat.le_of_ble_eq_true rfl⟩) ⟨PC.blind, va_recv hK.1 hP (ci := 3) (q0 := 0) rfl rfl, PC.pre hK hT hP hD hS hA [0, 1] rfl (by decide)⟩ rfl rfl hl.1 rfl (lv_room (Nat.le_of_ble_eq_true rfl)) dX4_ask_85 ⟨Nat.le_of_ble_eq_true rfl, Nat.le_of_ble_eq_true rfl⟩) hP hD hS hA [0, 1] [2, 3, 4, 5] rfl rfl (by decide) (by decide) (fun u9 H locs hw hP hD hS => ?_)
          have hw := hw.symm
          subst hw
          have hP : va_P D vwCl (WS_X4_ask cI cJ cZ cY a0 a0_code a1 a1_kinds a1_starts a1_values r_13 r_11.2.2) H := hP.sub [4, 5, 0, 1, 2, 3] rfl
          have hD : va_D A (WS_X4_ask cI cJ cZ cY a0 a0_code a1 a1_kinds a1_starts a1_values r_13 r_11.2.2) := hD.sub [4, 5, 0, 1, 2, 3] (by decide) rfl
          refine lv_iconst (v := 0) hx hb dX4_ask_88 (by decide) ?_
          refine lv_istore_n (lv' := [(3, .int 0), (2, .int r_8), (0, .ref a0), (1, .int x1)]) hx hb dX4_ask_89 rfl hl (by decide) rfl (fun ls hl => ?_)
          exact b_90 fU x1 0 r_13 r_11.2.2 H locs ls hP hD hS (lv_sub hl [2, 3, 0] rfl) hg
        · have hg := g_it hg c_12
          refine lv_iconst (v := 0) hx hb dX4_ask_80 (by decide) ?_
          have hg := Option.some.inj hg
          rw [hQ]
          exact W.zret (v := 0) (ty := .boolean) hx hb hr rfl (fun t ht hW => ⟨⟨0, (r_11.2.1, r_11.2.2), rfl, ⟨by rw [← hg], by rw [← hg]⟩, by rw [ht]; exact hP, hD⟩, hS.F ht⟩) hS.2.2 dX4_ask_81
      · have hg := g_it hg c_9
        refine lv_aload_n hx hb dX4_ask_60 rfl (lv_at hl 1 rfl) ?_
        refine lv_iconst (v := 1) hx hb dX4_ask_61 (by decide) ?_
        obtain ⟨r_14, hr_14, hg⟩ := g_bd hg
        refine cc_i (va_runV (C := RX4) (As := [.int 1]) (rest := []) ⟨hx, hb, hml, hown, htb⟩ (k_X4_refuse a0 a0_code a1 a1_kinds a1_starts a1_values r_6.2.1 r_6.2.2 1 r_14 hr_14) (cw_V 1 htb tg_644 tg_11 tg_641 tg_643 ts_7 rfl rfl (by decide +kernel) ⟨Nat.le_of_ble_eq_true rfl, Nat.le_of_ble_eq_true rfl⟩) ⟨PC.blind, va_recv hK.1 hP (ci := 3) (q0 := 0) rfl rfl, PC.pre hK hT hP hD hS hA [0, 1, 2, 3, 4, 5] rfl (by decide)⟩ rfl rfl hl.1 rfl (lv_room (Nat.le_of_ble_eq_true rfl)) dX4_ask_62 ⟨Nat.le_of_ble_eq_true rfl, Nat.le_of_ble_eq_true rfl⟩) hP hD hS hA [0, 1, 2, 3, 4, 5] [] rfl rfl (by decide) (by decide) (fun r9 u9 H locs hw hP hD hS => ?_)
        obtain ⟨rfl, rfl⟩ := hw
        have hP : va_P D vwCl (WS_X4_ask cI cJ cZ cY a0 a0_code a1 a1_kinds a1_starts a1_values r_14.2 r_6.2.2) H := hP.sub [0, 1, 2, 3, 4, 5] rfl
        have hD : va_D A (WS_X4_ask cI cJ cZ cY a0 a0_code a1 a1_kinds a1_starts a1_values r_14.2 r_6.2.2) := hD.sub [0, 1, 2, 3, 4, 5] (by decide) rfl
        obtain ⟨h_15, hg⟩ := g_gde hg
        have hg := Option.some.inj hg
        rw [hQ]
        exact W.zret (v := r_14.1) (ty := .boolean) hx hb hr (bool_nar h_15) (fun t ht hW => ⟨⟨r_14.1, (r_14.2, r_6.2.2), rfl, ⟨by rw [← hg], by rw [← hg]⟩, by rw [ht]; exact hP, hD⟩, hS.F ht⟩) hS.2.2 dX4_ask_65
    · have hg := g_it hg c_7
      refine lv_iconst (v := 0) hx hb dX4_ask_42 (by decide) ?_
      have hg := Option.some.inj hg
      rw [hQ]
      exact W.zret (v := 0) (ty := .boolean) hx hb hr rfl (fun t ht hW => ⟨⟨0, (r_6.2.1, r_6.2.2), rfl, ⟨by rw [← hg], by rw [← hg]⟩, by rw [ht]; exact hP, hD⟩, hS.F ht⟩) hS.2.2 dX4_ask_43
  have b_2 : ∀ (n : Nat), ∀ (x1 : Int32) (v0 : BX4) (v1 : BX9) (H : Heap) (locs : List Loc) (ls : Array Slot), va_P D vwCl (WS_X4_ask cI cJ cZ cY a0 a0_code a1 a1_kinds a1_starts a1_values v0 v1) H → va_D A (WS_X4_ask cI cJ cZ cY a0 a0_code a1 a1_kinds a1_starts a1_values v0 v1) → va_S A s.heap H locs → lv_has ls 4 [(0, .ref a0), (1, .int x1)] → f_X4_ask_b2 n (x1, v0, v1) = some res → W p l e rm_X4_ask s m args below meth c H locs 0 0 Q (F0 m 2 ls []) := by
    intro n
    induction n with
    | zero =>
      intro x1 v0 v1 H locs ls hP hD hS hl hg
      exact (g_lp0 hg).elim
    | succ n ih =>
      intro x1 v0 v1 H locs ls hP hD hS hl hg
      have hg : f_X4_ask_b2B (f_X4_ask_b2 n) x1 v0 v1 = some res := hg
      unfold f_X4_ask_b2B at hg
      refine lv_iload_n hx hb dX4_ask_2 rfl (lv_at hl 1 rfl) ?_
      refine lv_bipush (v := 8) hx hb dX4_ask_3 (by decide) ?_
      refine lv_icmp_gt (tgt := 35) hx hb dX4_ask_5 (by decide) (fun c_16 => ?_) (fun c_16 => ?_)
      · have hg := g_it hg c_16
        exact b_35 x1 v0 v1 H locs ls hP hD hS (lv_sub hl [0, 1] rfl) hg
      · have hg := g_if hg c_16
        refine lv_aload_n hx hb dX4_ask_8 rfl (lv_at hl 0 rfl) ?_
        refine va_get (ci := 3) (v := .ref a1) (C := RX4) (T := TX4) (N := 8) hx hb htb uX4 hown hK.1 hP 0 rfl rfl 0 (by decide) (htb _ tg_385) (fun _ h9 => h9) rfl dX4_ask_9 ?_
        refine va_get (ci := 8) (v := .int (pX9_kind v1)) (C := RX9) (T := TX9) (N := 8) hx hb htb uX9 hown hK.1 hP 2 rfl rfl 5 (by decide) (htb _ tg_362) (fun _ h9 => h9) rfl dX4_ask_12 ?_
        refine lv_ldc (v := 7237492) hx hb hown (htb _ tg_701) dX4_ask_15 ?_
        refine lv_icmp_ne (tgt := 35) hx hb dX4_ask_17 (by decide) (fun c_17 => ?_) (fun c_17 => ?_)
        · have hg := g_if hg c_17
          exact b_35 x1 v0 v1 H locs ls hP hD hS (lv_sub hl [0, 1] rfl) hg
        · have hg := g_it hg c_17
          refine lv_aload_n hx hb dX4_ask_20 rfl (lv_at hl 0 rfl) ?_
          obtain ⟨r_18, hr_18, hg⟩ := g_bd hg
          refine cc_i (va_runV (C := RX4) (As := []) (rest := []) ⟨hx, hb, hml, hown, htb⟩ (k_X4_enter a0 a0_code a1 a1_kinds a1_starts a1_values v0 v1 r_18 hr_18) (cw_V 0 htb tg_677 tg_11 tg_674 tg_676 ts_15 rfl rfl (by decide +kernel) ⟨Nat.le_of_ble_eq_true rfl, Nat.le_of_ble_eq_true rfl⟩) ⟨PC.blind, va_recv hK.1 hP (ci := 3) (q0 := 0) rfl rfl, PC.pre hK hT hP hD hS hA [0, 1, 2, 3, 4, 5] rfl (by decide)⟩ rfl rfl hl.1 rfl (lv_room (Nat.le_of_ble_eq_true rfl)) dX4_ask_21 ⟨Nat.le_of_ble_eq_true rfl, Nat.le_of_ble_eq_true rfl⟩) hP hD hS hA [0, 1, 2, 3, 4, 5] [] rfl rfl (by decide) (by decide) (fun r9 u9 H locs hw hP hD hS => ?_)
          obtain ⟨rfl, rfl⟩ := hw
          have hP : va_P D vwCl (WS_X4_ask cI cJ cZ cY a0 a0_code a1 a1_kinds a1_starts a1_values r_18.2.1 r_18.2.2) H := hP.sub [0, 1, 2, 3, 4, 5] rfl
          have hD : va_D A (WS_X4_ask cI cJ cZ cY a0 a0_code a1 a1_kinds a1_starts a1_values r_18.2.1 r_18.2.2) := hD.sub [0, 1, 2, 3, 4, 5] (by decide) rfl
          refine lv_if_ne (tgt := 29) hx hb dX4_ask_24 (by decide) (fun c_19 => ?_) (fun c_19 => ?_)
          · have hg := g_if hg c_19
            obtain ⟨x1_20, ex1_20⟩ : ∃ z : Int32, z = x1 + 1 := ⟨_, rfl⟩
            have hg := g_lte hg x1_20 ex1_20
            refine lv_iinc (v := x1_20) (lv' := [(1, .int x1_20), (0, .ref a0)]) hx hb dX4_ask_29 hl (k := 1) rfl (by rw [ex1_20]; rfl) (by decide) rfl (fun ls hl => ?_)
            refine lv_goto (tgt := 2) hx hb dX4_ask_32 (by decide) ?_
            exact ih x1_20 r_18.2.1 r_18.2.2 H locs ls hP hD hS (lv_sub hl [1, 0] rfl) hg
          · have hg := g_it hg c_19
            refine lv_iconst (v := 0) hx hb dX4_ask_27 (by decide) ?_
            have hg := Option.some.inj hg
            rw [hQ]
            exact W.zret (v := 0) (ty := .boolean) hx hb hr rfl (fun t ht hW => ⟨⟨0, (r_18.2.1, r_18.2.2), rfl, ⟨by rw [← hg], by rw [← hg]⟩, by rw [ht]; exact hP, hD⟩, hS.F ht⟩) hS.2.2 dX4_ask_28
  generalize hHe : s.heap = H at hP ⊢
  have hS : va_S A s.heap H [] := by rw [← hHe]; exact va_S.rf
  generalize ([] : List Loc) = locs at hS ⊢
  unfold f_X4_ask at hg
  refine lv_iconst (v := 0) hx hb dX4_ask_0 (by decide) ?_
  refine lv_istore_n (lv' := [(1, .int 0), (0, .ref a0)]) hx hb dX4_ask_1 rfl hl (by decide) rfl (fun ls hl => ?_)
  exact b_2 fU 0 v0 v1 H locs ls hP hD hS (lv_sub hl [1, 0] rfl) hg

/-! ManyEyes$Parser.either()Z -/
def WS_X4_either (cI cJ cZ cY : ClassId) (a0 a0_code a1 a1_kinds a1_starts a1_values : Nat) (v0 : BX4) (v1 : BX9) : va_W := (GX4 cI cJ cZ cY a0 a0_code a1 v0) ++ ((GX9 cI cJ cZ cY a1 a1_kinds a1_starts a1_values v1))
def f_X4_either_b103 (x1 : Int32) (x2 : Int32) (v0 : BX4) (v1 : BX9) : Option (Int32 × BX4 × BX9) := if (x1 : Int32) = 0 then (g_gd (x2 = 0 ∨ x2 = 1) (some (x2, v0, v1))) else ((f_X4_emit v0 20 0).bind (fun r_3 => g_gd (x2 = 0 ∨ x2 = 1) (some (x2, r_3, v1))))
def f_X4_either_b97 (J9 : (Int32 × Int32 × Int32 × BX4 × BX9) → Option (Int32 × BX4 × BX9)) (x1 : Int32) (x2 : Int32) (x3 : Int32) (v0 : BX4) (v1 : BX9) : Option (Int32 × BX4 × BX9) := g_lt (x3 + 1 : Int32) (fun x3_5 => J9 (x1, x2, x3_5, v0, v1))
def f_X4_either_b68 (J9 : (Int32 × Int32 × Int32 × BX4 × BX9) → Option (Int32 × BX4 × BX9)) (x1 : Int32) (x3 : Int32) (x4 : Int32) (v0 : BX4) (v1 : BX9) : Option (Int32 × BX4 × BX9) := (f_X9_advance v1).bind (fun r_6 => (f_X4_ask v0 r_6).bind (fun r_7 => if (x4 : Int32) = 0 then (f_X4_either_b97 J9 1 r_7.1 x3 r_7.2.1 r_7.2.2) else ((f_X4_emit r_7.2.1 19 0).bind (fun r_9 => f_X4_either_b97 J9 x1 r_7.1 x3 r_9 r_7.2.2))))
def f_X4_either_b50 (J9 : (Int32 × Int32 × Int32 × BX4 × BX9) → Option (Int32 × BX4 × BX9)) (x1 : Int32) (x3 : Int32) (t0 : Int32) (v0 : BX4) (v1 : BX9) : Option (Int32 × BX4 × BX9) := if (t0 : Int32) = 0 then (if (x1 : Int32) = 0 then (f_X4_either_b68 J9 x1 x3 t0 v0 v1) else ((f_X4_emit v0 20 0).bind (fun r_12 => f_X4_either_b68 J9 x1 x3 t0 r_12 v1))) else (f_X4_either_b68 J9 x1 x3 t0 v0 v1)
def f_X4_either_b9B (J9 : Int32 × Int32 × Int32 × BX4 × BX9 → Option (Int32 × BX4 × BX9)) (x1 : Int32) (x2 : Int32) (x3 : Int32) (v0 : BX4) (v1 : BX9) : Option (Int32 × BX4 × BX9) := if (300 : Int32) ≤ x3 then (f_X4_either_b103 x1 x2 v0 v1) else (if (x2 : Int32) = 0 then (f_X4_either_b103 x1 x2 v0 v1) else ((f_X4_isAndOr (pX9_kind v1)).bind (fun r_15 => if (r_15 : Int32) = 0 then (f_X4_either_b103 x1 x2 v0 v1) else (if ((pX9_kind v1) : Int32) = 6385252 then (f_X4_either_b50 J9 x1 x3 1 v0 v1) else (f_X4_either_b50 J9 x1 x3 0 v0 v1)))))
def f_X4_either_b9 : Nat → (Int32 × Int32 × Int32 × BX4 × BX9) → Option (Int32 × BX4 × BX9) := g_lp (fun J z => f_X4_either_b9B J z.1 z.2.1 z.2.2.1 z.2.2.2.1 z.2.2.2.2)
def f_X4_either (v0 : BX4) (v1 : BX9) : Option (Int32 × BX4 × BX9) := (f_X4_ask v0 v1).bind (fun r_18 => f_X4_either_b9 fU (0, r_18.1, 0, r_18.2.1, r_18.2.2))
abbrev rm_X4_either : Room := { frames := 62, cells := 0, slots := 0, locals := 2448 }
set_option maxHeartbeats 4000000 in
set_option maxRecDepth 100000 in
theorem k_X4_either {l : Launch} {D : va_G} {cI cJ cZ cY : ClassId} {tX tY : Nat} {sz : Nat} (a0 a0_code a1 a1_kinds a1_starts a1_values : Nat) (v0 : BX4) (v1 : BX9) (res : Int32 × BX4 × BX9) (hg : f_X4_either v0 v1 = some res) : Met l yX4_either (Cond.code yX4_either cX4_either 5 (some .boolean) :: TB) rm_X4_either (PC D cI cJ cZ cY tX tY [.ref a0] (WS_X4_either cI cJ cZ cY a0 a0_code a1 a1_kinds a1_starts a1_values v0 v1) sz) (va_Qi (fun (r : Int32) (u : BX4 × BX9) => r = res.1 ∧ u = res.2) (BC D (fun u : BX4 × BX9 => WS_X4_either cI cJ cZ cY a0 a0_code a1 a1_kinds a1_starts a1_values u.1 u.2) (va_A (WS_X4_either cI cJ cZ cY a0 a0_code a1 a1_kinds a1_starts a1_values v0 v1) sz)) (va_A (WS_X4_either cI cJ cZ cY a0 a0_code a1 a1_kinds a1_starts a1_values v0 v1) sz)) 0 0 (va_A (WS_X4_either cI cJ cZ cY a0 a0_code a1 a1_kinds a1_starts a1_values v0 v1) sz) := by
  refine Met.ofW (cc := cX4_either) (maxL := 5) (ret := (some .boolean)) (by decide) rfl ?_
  intro p e s m args below meth c s₁ B hml hv
  obtain ⟨hargs, hsz, hP, hK, hD0, hT⟩ := hv
  have hx := B.exec
  have hb := B.bytes
  have hr := B.returns
  have htb : ∀ w ∈ TB, w.before args s = true := fun w h => atoms_spec (ws := Cond.code yX4_either cX4_either 5 (some .boolean) :: TB) B.pre w (List.mem_cons_of_mem _ h)
  have hown : s.vm.findClass "ManyEyes$Parser" = some m.cls := findClass_of_methodNamed B.named
  have hlocks := B.notSynchronized
  subst hsz
  have hD := hD0.self (sz := s.heap.size)
  generalize hAe : va_A (WS_X4_either cI cJ cZ cY a0 a0_code a1 a1_kinds a1_starts a1_values v0 v1) s.heap.size = A at hD hT ⊢
  have hA : ∀ q : Nat, s.heap.size ≤ q → A q := fun q h => by rw [← hAe]; exact Or.inr h
  have hS : va_S A s.heap s.heap [] := va_S.rf
  have hl := lv_entry ([.ref a0]) (n := 5) (Nat.le_of_ble_eq_true rfl)
  have he : entryFrame m args 5 = F0 m 0 (lg_sl ([.ref a0]) ++ List.replicate (5 - (lg_sl ([.ref a0])).length) Slot.unset).toArray [] := by rw [hargs, lg_entry_eq]
  rw [he]
  generalize (lg_sl ([.ref a0]) ++ List.replicate (5 - (lg_sl ([.ref a0])).length) Slot.unset).toArray = ls at hl ⊢
  have hl : lv_has ls 5 [(0, .ref a0)] := hl
  show W p l e rm_X4_either s m args below meth c s.heap [] 0 0 _ _
  refine W.genQ (fun Q hQ => ?_)
  have b_103 : ∀ (x1 : Int32) (x2 : Int32) (v0 : BX4) (v1 : BX9) (H : Heap) (locs : List Loc) (ls : Array Slot), va_P D vwCl (WS_X4_either cI cJ cZ cY a0 a0_code a1 a1_kinds a1_starts a1_values v0 v1) H → va_D A (WS_X4_either cI cJ cZ cY a0 a0_code a1 a1_kinds a1_starts a1_values v0 v1) → va_S A s.heap H locs → lv_has ls 5 [(0, .ref a0), (1, .int x1), (2, .int x2)] → f_X4_either_b103 x1 x2 v0 v1 = some res → W p l e rm_X4_either s m args below meth c H locs 0 0 Q (F0 m 103 ls []) := by
    intro x1 x2 v0 v1 H locs ls hP hD hS hl hg
    unfold f_X4_either_b103 at hg
    refine lv_iload_n hx hb dX4_either_103 rfl (lv_at hl 1 rfl) ?_
    refine lv_if_eq (tgt := 114) hx hb dX4_either_104 (by decide) (fun c_1 => ?_) (fun c_1 => ?_)
    · have hg := g_it hg c_1
      refine lv_iload_n hx hb dX4_either_114 rfl (lv_at hl 2 rfl) ?_
      obtain ⟨h_2, hg⟩ := g_gde hg
      have hg := Option.some.inj hg
      rw [hQ]
      exact W.zret (v := x2) (ty := .boolean) hx hb hr (bool_nar h_2) (fun t ht hW => ⟨⟨x2, (v0, v1), rfl, ⟨by rw [← hg], by rw [← hg]⟩, by rw [ht]; exact hP, hD⟩, hS.F ht⟩) hS.2.2 dX4_either_115
    · have hg := g_if hg c_1
      refine lv_aload_n hx hb dX4_either_107 rfl (lv_at hl 0 rfl) ?_
      refine lv_bipush (v := 20) hx hb dX4_either_108 (by decide) ?_
      refine lv_iconst (v := 0) hx hb dX4_either_110 (by decide) ?_
      obtain ⟨r_3, hr_3, hg⟩ := g_bd hg
      refine cc_v (va_runV (C := RX4) (As := [.int 20, .int 0]) (rest := []) ⟨hx, hb, hml, hown, htb⟩ (k_X4_emit a0 a0_code a1 v0 20 0 r_3 hr_3) (cw_V 2 htb tg_665 tg_11 tg_662 tg_664 ts_12 rfl rfl (by decide +kernel) ⟨Nat.le_of_ble_eq_true rfl, Nat.le_of_ble_eq_true rfl⟩) ⟨PC.blind, va_recv hK.1 hP (ci := 3) (q0 := 0) rfl rfl, PC.pre hK hT hP hD hS hA [0, 1] rfl (by decide)⟩ rfl rfl hl.1 rfl (lv_room (Nat.le_of_ble_eq_true rfl)) dX4_either_111 ⟨Nat.le_of_ble_eq_true rfl, Nat.le_of_ble_eq_true rfl⟩) hP hD hS hA [0, 1] [2, 3, 4, 5] rfl rfl (by decide) (by decide) (fun u9 H locs hw hP hD hS => ?_)
      have hw := hw.symm
      subst hw
      have hP : va_P D vwCl (WS_X4_either cI cJ cZ cY a0 a0_code a1 a1_kinds a1_starts a1_values r_3 v1) H := hP.sub [4, 5, 0, 1, 2, 3] rfl
      have hD : va_D A (WS_X4_either cI cJ cZ cY a0 a0_code a1 a1_kinds a1_starts a1_values r_3 v1) := hD.sub [4, 5, 0, 1, 2, 3] (by decide) rfl
      refine lv_iload_n hx hb dX4_either_114 rfl (lv_at hl 2 rfl) ?_
      obtain ⟨h_4, hg⟩ := g_gde hg
      have hg := Option.some.inj hg
      rw [hQ]
      exact W.zret (v := x2) (ty := .boolean) hx hb hr (bool_nar h_4) (fun t ht hW => ⟨⟨x2, (r_3, v1), rfl, ⟨by rw [← hg], by rw [← hg]⟩, by rw [ht]; exact hP, hD⟩, hS.F ht⟩) hS.2.2 dX4_either_115
  have b_97 : ∀ (J9 : (Int32 × Int32 × Int32 × BX4 × BX9) → Option (Int32 × BX4 × BX9)) (hJ9 : ∀ (x1 : Int32) (x2 : Int32) (x3 : Int32) (v0 : BX4) (v1 : BX9) (H : Heap) (locs : List Loc) (ls : Array Slot), va_P D vwCl (WS_X4_either cI cJ cZ cY a0 a0_code a1 a1_kinds a1_starts a1_values v0 v1) H → va_D A (WS_X4_either cI cJ cZ cY a0 a0_code a1 a1_kinds a1_starts a1_values v0 v1) → va_S A s.heap H locs → lv_has ls 5 [(0, .ref a0), (1, .int x1), (2, .int x2), (3, .int x3)] → J9 (x1, x2, x3, v0, v1) = some res → W p l e rm_X4_either s m args below meth c H locs 0 0 Q (F0 m 9 ls [])), ∀ (x1 : Int32) (x2 : Int32) (x3 : Int32) (v0 : BX4) (v1 : BX9) (H : Heap) (locs : List Loc) (ls : Array Slot), va_P D vwCl (WS_X4_either cI cJ cZ cY a0 a0_code a1 a1_kinds a1_starts a1_values v0 v1) H → va_D A (WS_X4_either cI cJ cZ cY a0 a0_code a1 a1_kinds a1_starts a1_values v0 v1) → va_S A s.heap H locs → lv_has ls 5 [(0, .ref a0), (1, .int x1), (2, .int x2), (3, .int x3)] → f_X4_either_b97 J9 x1 x2 x3 v0 v1 = some res → W p l e rm_X4_either s m args below meth c H locs 0 0 Q (F0 m 97 ls []) := by
    intro J9 hJ9 x1 x2 x3 v0 v1 H locs ls hP hD hS hl hg
    unfold f_X4_either_b97 at hg
    obtain ⟨x3_5, ex3_5⟩ : ∃ z : Int32, z = x3 + 1 := ⟨_, rfl⟩
    have hg := g_lte hg x3_5 ex3_5
    refine lv_iinc (v := x3_5) (lv' := [(3, .int x3_5), (0, .ref a0), (1, .int x1), (2, .int x2)]) hx hb dX4_either_97 hl (k := 3) rfl (by rw [ex3_5]; rfl) (by decide) rfl (fun ls hl => ?_)
    refine lv_goto (tgt := 9) hx hb dX4_either_100 (by decide) ?_
    exact hJ9 x1 x2 x3_5 v0 v1 H locs ls hP hD hS (lv_sub hl [1, 2, 3, 0] rfl) hg
  have b_68 : ∀ (J9 : (Int32 × Int32 × Int32 × BX4 × BX9) → Option (Int32 × BX4 × BX9)) (hJ9 : ∀ (x1 : Int32) (x2 : Int32) (x3 : Int32) (v0 : BX4) (v1 : BX9) (H : Heap) (locs : List Loc) (ls : Array Slot), va_P D vwCl (WS_X4_either cI cJ cZ cY a0 a0_code a1 a1_kinds a1_starts a1_values v0 v1) H → va_D A (WS_X4_either cI cJ cZ cY a0 a0_code a1 a1_kinds a1_starts a1_values v0 v1) → va_S A s.heap H locs → lv_has ls 5 [(0, .ref a0), (1, .int x1), (2, .int x2), (3, .int x3)] → J9 (x1, x2, x3, v0, v1) = some res → W p l e rm_X4_either s m args below meth c H locs 0 0 Q (F0 m 9 ls [])), ∀ (x1 : Int32) (x3 : Int32) (x4 : Int32) (v0 : BX4) (v1 : BX9) (H : Heap) (locs : List Loc) (ls : Array Slot), va_P D vwCl (WS_X4_either cI cJ cZ cY a0 a0_code a1 a1_kinds a1_starts a1_values v0 v1) H → va_D A (WS_X4_either cI cJ cZ cY a0 a0_code a1 a1_kinds a1_starts a1_values v0 v1) → va_S A s.heap H locs → lv_has ls 5 [(0, .ref a0), (1, .int x1), (3, .int x3), (4, .int x4)] → f_X4_either_b68 J9 x1 x3 x4 v0 v1 = some res → W p l e rm_X4_either s m args below meth c H locs 0 0 Q (F0 m 68 ls []) := by
    intro J9 hJ9 x1 x3 x4 v0 v1 H locs ls hP hD hS hl hg
    unfold f_X4_either_b68 at hg
    refine lv_aload_n hx hb dX4_either_68 rfl (lv_at hl 0 rfl) ?_
    refine va_get (ci := 3) (v := .ref a1) (C := RX4) (T := TX4) (N := 8) hx hb htb uX4 hown hK.1 hP 0 rfl rfl 0 (by decide) (htb _ tg_385) (fun _ h9 => h9) rfl dX4_either_69 ?_
    obtain ⟨r_6, hr_6, hg⟩ := g_bd hg
    refine cc_v (va_runV (C := RX9) (As := []) (rest := []) ⟨hx, hb, hml, hown, htb⟩ (k_X9_advance a1 a1_kinds a1_starts a1_values v1 r_6 hr_6) (cw_V 0 htb tg_633 tg_12 tg_645 tg_631 tg_632 rfl rfl (by decide +kernel) ⟨Nat.le_of_ble_eq_true rfl, Nat.le_of_ble_eq_true rfl⟩) ⟨PC.blind, va_recv hK.1 hP (ci := 8) (q0 := 2) rfl rfl, PC.pre hK hT hP hD hS hA [2, 3, 4, 5] rfl (by decide)⟩ rfl rfl hl.1 rfl (lv_room (Nat.le_of_ble_eq_true rfl)) dX4_either_72 ⟨Nat.le_of_ble_eq_true rfl, Nat.le_of_ble_eq_true rfl⟩) hP hD hS hA [2, 3, 4, 5] [0, 1] rfl rfl (by decide) (by decide) (fun u9 H locs hw hP hD hS => ?_)
    have hw := hw.symm
    subst hw
    have hP : va_P D vwCl (WS_X4_either cI cJ cZ cY a0 a0_code a1 a1_kinds a1_starts a1_values v0 r_6) H := hP.sub [0, 1, 2, 3, 4, 5] rfl
    have hD : va_D A (WS_X4_either cI cJ cZ cY a0 a0_code a1 a1_kinds a1_starts a1_values v0 r_6) := hD.sub [0, 1, 2, 3, 4, 5] (by decide) rfl
    refine lv_aload_n hx hb dX4_either_75 rfl (lv_at hl 0 rfl) ?_
    obtain ⟨r_7, hr_7, hg⟩ := g_bd hg
    refine cc_i (va_runV (C := RX4) (As := []) (rest := []) ⟨hx, hb, hml, hown, htb⟩ (k_X4_ask a0 a0_code a1 a1_kinds a1_starts a1_values v0 r_6 r_7 hr_7) (cw_V 0 htb tg_700 tg_11 tg_697 tg_699 ts_20 rfl rfl (by decide +kernel) ⟨Nat.le_of_ble_eq_true rfl, Nat.le_of_ble_eq_true rfl⟩) ⟨PC.blind, va_recv hK.1 hP (ci := 3) (q0 := 0) rfl rfl, PC.pre hK hT hP hD hS hA [0, 1, 2, 3, 4, 5] rfl (by decide)⟩ rfl rfl hl.1 rfl (lv_room (Nat.le_of_ble_eq_true rfl)) dX4_either_76 ⟨Nat.le_of_ble_eq_true rfl, Nat.le_of_ble_eq_true rfl⟩) hP hD hS hA [0, 1, 2, 3, 4, 5] [] rfl rfl (by decide) (by decide) (fun r9 u9 H locs hw hP hD hS => ?_)
    obtain ⟨rfl, rfl⟩ := hw
    have hP : va_P D vwCl (WS_X4_either cI cJ cZ cY a0 a0_code a1 a1_kinds a1_starts a1_values r_7.2.1 r_7.2.2) H := hP.sub [0, 1, 2, 3, 4, 5] rfl
    have hD : va_D A (WS_X4_either cI cJ cZ cY a0 a0_code a1 a1_kinds a1_starts a1_values r_7.2.1 r_7.2.2) := hD.sub [0, 1, 2, 3, 4, 5] (by decide) rfl
    refine lv_istore_n (lv' := [(2, .int r_7.1), (0, .ref a0), (1, .int x1), (3, .int x3), (4, .int x4)]) hx hb dX4_either_79 rfl hl (by decide) rfl (fun ls hl => ?_)
    refine lv_iload hx hb dX4_either_80 (lv_at hl 4 rfl) ?_
    refine lv_if_eq (tgt := 95) hx hb dX4_either_82 (by decide) (fun c_8 => ?_) (fun c_8 => ?_)
    · have hg := g_it hg c_8
      refine lv_iconst (v := 1) hx hb dX4_either_95 (by decide) ?_
      refine lv_istore_n (lv' := [(1, .int 1), (2, .int r_7.1), (0, .ref a0), (3, .int x3), (4, .int x4)]) hx hb dX4_either_96 rfl hl (by decide) rfl (fun ls hl => ?_)
      exact b_97 J9 hJ9 1 r_7.1 x3 r_7.2.1 r_7.2.2 H locs ls hP hD hS (lv_sub hl [2, 0, 1, 3] rfl) hg
    · have hg := g_if hg c_8
      refine lv_aload_n hx hb dX4_either_85 rfl (lv_at hl 1 rfl) ?_
      refine lv_bipush (v := 19) hx hb dX4_either_86 (by decide) ?_
      refine lv_iconst (v := 0) hx hb dX4_either_88 (by decide) ?_
      obtain ⟨r_9, hr_9, hg⟩ := g_bd hg
      refine cc_v (va_runV (C := RX4) (As := [.int 19, .int 0]) (rest := []) ⟨hx, hb, hml, hown, htb⟩ (k_X4_emit a0 a0_code a1 r_7.2.1 19 0 r_9 hr_9) (cw_V 2 htb tg_665 tg_11 tg_662 tg_664 ts_12 rfl rfl (by decide +kernel) ⟨Nat.le_of_ble_eq_true rfl, Nat.le_of_ble_eq_true rfl⟩) ⟨PC.blind, va_recv hK.1 hP (ci := 3) (q0 := 0) rfl rfl, PC.pre hK hT hP hD hS hA [0, 1] rfl (by decide)⟩ rfl rfl hl.1 rfl (lv_room (Nat.le_of_ble_eq_true rfl)) dX4_either_89 ⟨Nat.le_of_ble_eq_true rfl, Nat.le_of_ble_eq_true rfl⟩) hP hD hS hA [0, 1] [2, 3, 4, 5] rfl rfl (by decide) (by decide) (fun u9 H locs hw hP hD hS => ?_)
      have hw := hw.symm
      subst hw
      have hP : va_P D vwCl (WS_X4_either cI cJ cZ cY a0 a0_code a1 a1_kinds a1_starts a1_values r_9 r_7.2.2) H := hP.sub [4, 5, 0, 1, 2, 3] rfl
      have hD : va_D A (WS_X4_either cI cJ cZ cY a0 a0_code a1 a1_kinds a1_starts a1_values r_9 r_7.2.2) := hD.sub [4, 5, 0, 1, 2, 3] (by decide) rfl
      refine lv_goto (tgt := 97) hx hb dX4_either_92 (by decide) ?_
      exact b_97 J9 hJ9 x1 r_7.1 x3 r_9 r_7.2.2 H locs ls hP hD hS (lv_sub hl [1, 2, 0, 3] rfl) hg
  have b_50 : ∀ (J9 : (Int32 × Int32 × Int32 × BX4 × BX9) → Option (Int32 × BX4 × BX9)) (hJ9 : ∀ (x1 : Int32) (x2 : Int32) (x3 : Int32) (v0 : BX4) (v1 : BX9) (H : Heap) (locs : List Loc) (ls : Array Slot), va_P D vwCl (WS_X4_either cI cJ cZ cY a0 a0_code a1 a1_kinds a1_starts a1_values v0 v1) H → va_D A (WS_X4_either cI cJ cZ cY a0 a0_code a1 a1_kinds a1_starts a1_values v0 v1) → va_S A s.heap H locs → lv_has ls 5 [(0, .ref a0), (1, .int x1), (2, .int x2), (3, .int x3)] → J9 (x1, x2, x3, v0, v1) = some res → W p l e rm_X4_either s m args below meth c H locs 0 0 Q (F0 m 9 ls [])), ∀ (x1 : Int32) (x3 : Int32) (t0 : Int32) (v0 : BX4) (v1 : BX9) (H : Heap) (locs : List Loc) (ls : Array Slot), va_P D vwCl (WS_X4_either cI cJ cZ cY a0 a0_code a1 a1_kinds a1_starts a1_values v0 v1) H → va_D A (WS_X4_either cI cJ cZ cY a0 a0_code a1 a1_kinds a1_starts a1_values v0 v1) → va_S A s.heap H locs → lv_has ls 5 [(0, .ref a0), (1, .int x1), (3, .int x3)] → f_X4_either_b50 J9 x1 x3 t0 v0 v1 = some res → W p l e rm_X4_either s m args below meth c H locs 0 0 Q (F0 m 50 ls [.int t0]) := by
    intro J9 hJ9 x1 x3 t0 v0 v1 H locs ls hP hD hS hl hg
    unfold f_X4_either_b50 at hg
    refine lv_istore (lv' := [(4, .int t0), (0, .ref a0), (1, .int x1), (3, .int x3)]) hx hb dX4_either_50 hl (by decide) rfl (fun ls hl => ?_)
    refine lv_iload hx hb dX4_either_52 (lv_at hl 0 rfl) ?_
    refine lv_if_ne (tgt := 68) hx hb dX4_either_54 (by decide) (fun c_10 => ?_) (fun c_10 => ?_)
    · have hg := g_if hg c_10
      exact b_68 J9 hJ9 x1 x3 t0 v0 v1 H locs ls hP hD hS (lv_sub hl [1, 2, 3, 0] rfl) hg
    · have hg := g_it hg c_10
      refine lv_iload_n hx hb dX4_either_57 rfl (lv_at hl 2 rfl) ?_
      refine lv_if_eq (tgt := 68) hx hb dX4_either_58 (by decide) (fun c_11 => ?_) (fun c_11 => ?_)
      · have hg := g_it hg c_11
        exact b_68 J9 hJ9 x1 x3 t0 v0 v1 H locs ls hP hD hS (lv_sub hl [1, 2, 3, 0] rfl) hg
      · have hg := g_if hg c_11
        refine lv_aload_n hx hb dX4_either_61 rfl (lv_at hl 1 rfl) ?_
        refine lv_bipush (v := 20) hx hb dX4_either_62 (by decide) ?_
        refine lv_iconst (v := 0) hx hb dX4_either_64 (by decide) ?_
        obtain ⟨r_12, hr_12, hg⟩ := g_bd hg
        refine cc_v (va_runV (C := RX4) (As := [.int 20, .int 0]) (rest := []) ⟨hx, hb, hml, hown, htb⟩ (k_X4_emit a0 a0_code a1 v0 20 0 r_12 hr_12) (cw_V 2 htb tg_665 tg_11 tg_662 tg_664 ts_12 rfl rfl (by decide +kernel) ⟨Nat.le_of_ble_eq_true rfl, Nat.le_of_ble_eq_true rfl⟩) ⟨PC.blind, va_recv hK.1 hP (ci := 3) (q0 := 0) rfl rfl, PC.pre hK hT hP hD hS hA [0, 1] rfl (by decide)⟩ rfl rfl hl.1 rfl (lv_room (Nat.le_of_ble_eq_true rfl)) dX4_either_65 ⟨Nat.le_of_ble_eq_true rfl, Nat.le_of_ble_eq_true rfl⟩) hP hD hS hA [0, 1] [2, 3, 4, 5] rfl rfl (by decide) (by decide) (fun u9 H locs hw hP hD hS => ?_)
        have hw := hw.symm
        subst hw
        have hP : va_P D vwCl (WS_X4_either cI cJ cZ cY a0 a0_code a1 a1_kinds a1_starts a1_values r_12 v1) H := hP.sub [4, 5, 0, 1, 2, 3] rfl
        have hD : va_D A (WS_X4_either cI cJ cZ cY a0 a0_code a1 a1_kinds a1_starts a1_values r_12 v1) := hD.sub [4, 5, 0, 1, 2, 3] (by decide) rfl
        exact b_68 J9 hJ9 x1 x3 t0 r_12 v1 H locs ls hP hD hS (lv_sub hl [1, 2, 3, 0] rfl) hg
  have b_9 : ∀ (n : Nat), ∀ (x1 : Int32) (x2 : Int32) (x3 : Int32) (v0 : BX4) (v1 : BX9) (H : Heap) (locs : List Loc) (ls : Array Slot), va_P D vwCl (WS_X4_either cI cJ cZ cY a0 a0_code a1 a1_kinds a1_starts a1_values v0 v1) H → va_D A (WS_X4_either cI cJ cZ cY a0 a0_code a1 a1_kinds a1_starts a1_values v0 v1) → va_S A s.heap H locs → lv_has ls 5 [(0, .ref a0), (1, .int x1), (2, .int x2), (3, .int x3)] → f_X4_either_b9 n (x1, x2, x3, v0, v1) = some res → W p l e rm_X4_either s m args below meth c H locs 0 0 Q (F0 m 9 ls []) := by
    intro n
    induction n with
    | zero =>
      intro x1 x2 x3 v0 v1 H locs ls hP hD hS hl hg
      exact (g_lp0 hg).elim
    | succ n ih =>
      intro x1 x2 x3 v0 v1 H locs ls hP hD hS hl hg
      have hg : f_X4_either_b9B (f_X4_either_b9 n) x1 x2 x3 v0 v1 = some res := hg
      unfold f_X4_either_b9B at hg
      refine lv_iload_n hx hb dX4_either_9 rfl (lv_at hl 3 rfl) ?_
      refine lv_sipush (v := 300) hx hb dX4_either_10 (by decide) ?_
      refine lv_icmp_ge (tgt := 103) hx hb dX4_either_13 (by decide) (fun c_13 => ?_) (fun c_13 => ?_)
      · have hg := g_it hg c_13
        exact b_103 x1 x2 v0 v1 H locs ls hP hD hS (lv_sub hl [0, 1, 2] rfl) hg
      · have hg := g_if hg c_13
        refine lv_iload_n hx hb dX4_either_16 rfl (lv_at hl 2 rfl) ?_
        refine lv_if_eq (tgt := 103) hx hb dX4_either_17 (by decide) (fun c_14 => ?_) (fun c_14 => ?_)
        · have hg := g_it hg c_14
          exact b_103 x1 x2 v0 v1 H locs ls hP hD hS (lv_sub hl [0, 1, 2] rfl) hg
        · have hg := g_if hg c_14
          refine lv_aload_n hx hb dX4_either_20 rfl (lv_at hl 0 rfl) ?_
          refine va_get (ci := 3) (v := .ref a1) (C := RX4) (T := TX4) (N := 8) hx hb htb uX4 hown hK.1 hP 0 rfl rfl 0 (by decide) (htb _ tg_385) (fun _ h9 => h9) rfl dX4_either_21 ?_
          refine va_get (ci := 8) (v := .int (pX9_kind v1)) (C := RX9) (T := TX9) (N := 8) hx hb htb uX9 hown hK.1 hP 2 rfl rfl 5 (by decide) (htb _ tg_362) (fun _ h9 => h9) rfl dX4_either_24 ?_
          obtain ⟨r_15, hr_15, hg⟩ := g_bd hg
          refine cc_i (va_runS (As := [.int (pX9_kind v1)]) (rest := []) ⟨hx, hb, hml, hown, htb⟩ (k_X4_isAndOr (pX9_kind v1) r_15 hr_15) (cw_S 1 htb tg_707 tg_11 tg_705 tg_706 rfl rfl (by decide +kernel) ⟨Nat.le_of_ble_eq_true rfl, Nat.le_of_ble_eq_true rfl⟩) ⟨PC.blind, PC.pre hK hT hP hD hS hA [] rfl (by decide)⟩ rfl rfl hl.1 rfl (lv_room (Nat.le_of_ble_eq_true rfl)) dX4_either_27 ⟨Nat.le_of_ble_eq_true rfl, Nat.le_of_ble_eq_true rfl⟩) hP hD hS hA [] [0, 1, 2, 3, 4, 5] rfl rfl (by decide) (by decide) (fun r9 u9 H locs hw hP hD hS => ?_)
          have hw := hw.symm
          subst hw
          have hP : va_P D vwCl (WS_X4_either cI cJ cZ cY a0 a0_code a1 a1_kinds a1_starts a1_values v0 v1) H := hP.sub [0, 1, 2, 3, 4, 5] rfl
          have hD : va_D A (WS_X4_either cI cJ cZ cY a0 a0_code a1 a1_kinds a1_starts a1_values v0 v1) := hD.sub [0, 1, 2, 3, 4, 5] (by decide) rfl
          refine lv_if_eq (tgt := 103) hx hb dX4_either_30 (by decide) (fun c_16 => ?_) (fun c_16 => ?_)
          · have hg := g_it hg c_16
            exact b_103 x1 x2 v0 v1 H locs ls hP hD hS (lv_sub hl [0, 1, 2] rfl) hg
          · have hg := g_if hg c_16
            refine lv_aload_n hx hb dX4_either_33 rfl (lv_at hl 0 rfl) ?_
            refine va_get (ci := 3) (v := .ref a1) (C := RX4) (T := TX4) (N := 8) hx hb htb uX4 hown hK.1 hP 0 rfl rfl 0 (by decide) (htb _ tg_385) (fun _ h9 => h9) rfl dX4_either_34 ?_
            refine va_get (ci := 8) (v := .int (pX9_kind v1)) (C := RX9) (T := TX9) (N := 8) hx hb htb uX9 hown hK.1 hP 2 rfl rfl 5 (by decide) (htb _ tg_362) (fun _ h9 => h9) rfl dX4_either_37 ?_
            refine lv_ldc (v := 6385252) hx hb hown (htb _ tg_708) dX4_either_40 ?_
            refine lv_icmp_ne (tgt := 49) hx hb dX4_either_42 (by decide) (fun c_17 => ?_) (fun c_17 => ?_)
            · have hg := g_if hg c_17
              refine lv_iconst (v := 0) hx hb dX4_either_49 (by decide) ?_
              exact b_50 (f_X4_either_b9 n) ih x1 x3 0 v0 v1 H locs ls hP hD hS (lv_sub hl [0, 1, 3] rfl) hg
            · have hg := g_it hg c_17
              refine lv_iconst (v := 1) hx hb dX4_either_45 (by decide) ?_
              refine lv_goto (tgt := 50) hx hb dX4_either_46 (by decide) ?_
              exact b_50 (f_X4_either_b9 n) ih x1 x3 1 v0 v1 H locs ls hP hD hS (lv_sub hl [0, 1, 3] rfl) hg
  generalize hHe : s.heap = H at hP ⊢
  have hS : va_S A s.heap H [] := by rw [← hHe]; exact va_S.rf
  generalize ([] : List Loc) = locs at hS ⊢
  unfold f_X4_either at hg
  refine lv_iconst (v := 0) hx hb dX4_either_0 (by decide) ?_
  refine lv_istore_n (lv' := [(1, .int 0), (0, .ref a0)]) hx hb dX4_either_1 rfl hl (by decide) rfl (fun ls hl => ?_)
  refine lv_aload_n hx hb dX4_either_2 rfl (lv_at hl 1 rfl) ?_
  obtain ⟨r_18, hr_18, hg⟩ := g_bd hg
  refine cc_i (va_runV (C := RX4) (As := []) (rest := []) ⟨hx, hb, hml, hown, htb⟩ (k_X4_ask a0 a0_code a1 a1_kinds a1_starts a1_values v0 v1 r_18 hr_18) (cw_V 0 htb tg_700 tg_11 tg_697 tg_699 ts_20 rfl rfl (by decide +kernel) ⟨Nat.le_of_ble_eq_true rfl, Nat.le_of_ble_eq_true rfl⟩) ⟨PC.blind, va_recv hK.1 hP (ci := 3) (q0 := 0) rfl rfl, PC.pre hK hT hP hD hS hA [0, 1, 2, 3, 4, 5] rfl (by decide)⟩ rfl rfl hl.1 rfl (lv_room (Nat.le_of_ble_eq_true rfl)) dX4_either_3 ⟨Nat.le_of_ble_eq_true rfl, Nat.le_of_ble_eq_true rfl⟩) hP hD hS hA [0, 1, 2, 3, 4, 5] [] rfl rfl (by decide) (by decide) (fun r9 u9 H locs hw hP hD hS => ?_)
  obtain ⟨rfl, rfl⟩ := hw
  have hP : va_P D vwCl (WS_X4_either cI cJ cZ cY a0 a0_code a1 a1_kinds a1_starts a1_values r_18.2.1 r_18.2.2) H := hP.sub [0, 1, 2, 3, 4, 5] rfl
  have hD : va_D A (WS_X4_either cI cJ cZ cY a0 a0_code a1 a1_kinds a1_starts a1_values r_18.2.1 r_18.2.2) := hD.sub [0, 1, 2, 3, 4, 5] (by decide) rfl
  refine lv_istore_n (lv' := [(2, .int r_18.1), (1, .int 0), (0, .ref a0)]) hx hb dX4_either_6 rfl hl (by decide) rfl (fun ls hl => ?_)
  refine lv_iconst (v := 0) hx hb dX4_either_7 (by decide) ?_
  refine lv_istore_n (lv' := [(3, .int 0), (2, .int r_18.1), (1, .int 0), (0, .ref a0)]) hx hb dX4_either_8 rfl hl (by decide) rfl (fun ls hl => ?_)
  exact b_9 fU 0 r_18.1 0 r_18.2.1 r_18.2.2 H locs ls hP hD hS (lv_sub hl [3, 2, 1, 0] rfl) hg

/-! ManyEyes$Parser.clause(I)V -/
def WS_X4_clause (cI cJ cZ cY : ClassId) (a0 a0_code a1 a1_kinds a1_starts a1_values : Nat) (v0 : BX4) (v1 : BX9) : va_W := (GX4 cI cJ cZ cY a0 a0_code a1 v0) ++ ((GX9 cI cJ cZ cY a1 a1_kinds a1_starts a1_values v1))
def f_X4_clause_b123 (x2 : Int32) (t0 : Int32) (v0 : BX4) (v1 : BX9) : Option (BX4 × BX9) := if (t0 : Int32) = 0 then (some (v0, v1)) else ((f_X4_expect v0 v1 59).bind (fun r_2 => if (r_2.1 : Int32) = 0 then (some (r_2.2.1, r_2.2.2)) else ((f_X4_emit r_2.2.1 x2 0).bind (fun r_4 => some (r_4, r_2.2.2)))))
def f_X4_clause_b51 (x1 : Int32) (x2 : Int32) (v0 : BX4) (v1 : BX9) : Option (BX4 × BX9) := if (x1 : Int32) < 10 then (if (x2 : Int32) = 21 then ((f_X9_advance v1).bind (fun r_13 => (f_X4_letClause v0 r_13).bind (fun r_14 => some (r_14.1, r_14.2)))) else (g_lt (((pX4_used v0) ||| ((1 : Int32) <<< (x2 &&& 31))) : Int32) (fun x_7 => g_lt (sX4_used v0 x_7) (fun v0_8 => (f_X9_advance v1).bind (fun r_9 => if (x2 : Int32) = 24 then ((f_X4_either v0_8 r_9).bind (fun r_12 => f_X4_clause_b123 x2 r_12.1 r_12.2.1 r_12.2.2)) else ((f_X4_sum v0_8 r_9).bind (fun r_11 => f_X4_clause_b123 x2 r_11.1 r_11.2.1 r_11.2.2))))))) else ((f_X4_refuse v0 v1 6).bind (fun r_15 => some (r_15.2, v1)))
def f_X4_clause (v0 : BX4) (v1 : BX9) (p0 : Int32) : Option (BX4 × BX9) := (f_X4_clauseOperation (pX9_kind v1)).bind (fun r_16 => if (r_16 : Int32) = (-1) then ((f_X4_refuse v0 v1 1).bind (fun r_21 => some (r_21.2, v1))) else (if (r_16 : Int32) = 21 then (f_X4_clause_b51 p0 r_16 v0 v1) else (if ((((pX4_used v0) >>> (r_16 &&& 31)) &&& 1) : Int32) = 0 then (f_X4_clause_b51 p0 r_16 v0 v1) else ((f_X4_refuse v0 v1 4).bind (fun r_20 => some (r_20.2, v1))))))
abbrev rm_X4_clause : Room := { frames := 63, cells := 0, slots := 0, locals := 2472 }
set_option maxHeartbeats 4000000 in
set_option maxRecDepth 100000 in
theorem k_X4_clause {l : Launch} {D : va_G} {cI cJ cZ cY : ClassId} {tX tY : Nat} {sz : Nat} (a0 a0_code a1 a1_kinds a1_starts a1_values : Nat) (v0 : BX4) (v1 : BX9) (p0 : Int32) (res : BX4 × BX9) (hg : f_X4_clause v0 v1 p0 = some res) : Met l yX4_clause (Cond.code yX4_clause cX4_clause 4 none :: TB) rm_X4_clause (PC D cI cJ cZ cY tX tY [.ref a0, .int p0] (WS_X4_clause cI cJ cZ cY a0 a0_code a1 a1_kinds a1_starts a1_values v0 v1) sz) (va_Qv (fun (u : BX4 × BX9) => u = res) (BC D (fun u : BX4 × BX9 => WS_X4_clause cI cJ cZ cY a0 a0_code a1 a1_kinds a1_starts a1_values u.1 u.2) (va_A (WS_X4_clause cI cJ cZ cY a0 a0_code a1 a1_kinds a1_starts a1_values v0 v1) sz)) (va_A (WS_X4_clause cI cJ cZ cY a0 a0_code a1 a1_kinds a1_starts a1_values v0 v1) sz)) 0 0 (va_A (WS_X4_clause cI cJ cZ cY a0 a0_code a1 a1_kinds a1_starts a1_values v0 v1) sz) := by
  refine Met.ofW (cc := cX4_clause) (maxL := 4) (ret := none) (by decide) rfl ?_
  intro p e s m args below meth c s₁ B hml hv
  obtain ⟨hargs, hsz, hP, hK, hD0, hT⟩ := hv
  have hx := B.exec
  have hb := B.bytes
  have hr := B.returns
  have htb : ∀ w ∈ TB, w.before args s = true := fun w h => atoms_spec (ws := Cond.code yX4_clause cX4_clause 4 none :: TB) B.pre w (List.mem_cons_of_mem _ h)
  have hown : s.vm.findClass "ManyEyes$Parser" = some m.cls := findClass_of_methodNamed B.named
  have hlocks := B.notSynchronized
  subst hsz
  have hD := hD0.self (sz := s.heap.size)
  generalize hAe : va_A (WS_X4_clause cI cJ cZ cY a0 a0_code a1 a1_kinds a1_starts a1_values v0 v1) s.heap.size = A at hD hT ⊢
  have hA : ∀ q : Nat, s.heap.size ≤ q → A q := fun q h => by rw [← hAe]; exact Or.inr h
  have hS : va_S A s.heap s.heap [] := va_S.rf
  have hl := lv_entry ([.ref a0, .int p0]) (n := 4) (Nat.le_of_ble_eq_true rfl)
  have he : entryFrame m args 4 = F0 m 0 (lg_sl ([.ref a0, .int p0]) ++ List.replicate (4 - (lg_sl ([.ref a0, .int p0])).length) Slot.unset).toArray [] := by rw [hargs, lg_entry_eq]
  rw [he]
  generalize (lg_sl ([.ref a0, .int p0]) ++ List.replicate (4 - (lg_sl ([.ref a0, .int p0])).length) Slot.unset).toArray = ls at hl ⊢
  have hl : lv_has ls 4 [(0, .ref a0), (1, .int p0)] := hl
  show W p l e rm_X4_clause s m args below meth c s.heap [] 0 0 _ _
  refine W.genQ (fun Q hQ => ?_)
  have b_123 : ∀ (x2 : Int32) (t0 : Int32) (v0 : BX4) (v1 : BX9) (H : Heap) (locs : List Loc) (ls : Array Slot), va_P D vwCl (WS_X4_clause cI cJ cZ cY a0 a0_code a1 a1_kinds a1_starts a1_values v0 v1) H → va_D A (WS_X4_clause cI cJ cZ cY a0 a0_code a1 a1_kinds a1_starts a1_values v0 v1) → va_S A s.heap H locs → lv_has ls 4 [(0, .ref a0), (2, .int x2)] → f_X4_clause_b123 x2 t0 v0 v1 = some res → W p l e rm_X4_clause s m args below meth c H locs 0 0 Q (F0 m 123 ls [.int t0]) := by
    intro x2 t0 v0 v1 H locs ls hP hD hS hl hg
    unfold f_X4_clause_b123 at hg
    refine lv_istore_n (lv' := [(3, .int t0), (0, .ref a0), (2, .int x2)]) hx hb dX4_clause_123 rfl hl (by decide) rfl (fun ls hl => ?_)
    refine lv_iload_n hx hb dX4_clause_124 rfl (lv_at hl 0 rfl) ?_
    refine lv_if_eq (tgt := 143) hx hb dX4_clause_125 (by decide) (fun c_1 => ?_) (fun c_1 => ?_)
    · have hg := g_it hg c_1
      have hg := Option.some.inj hg
      rw [hQ]
      exact W.vret hx hb hr (fun t ht hW => ⟨⟨(v0, v1), rfl, hg, by rw [ht]; exact hP, hD⟩, hS.F ht⟩) hS.2.2 dX4_clause_143
    · have hg := g_if hg c_1
      refine lv_aload_n hx hb dX4_clause_128 rfl (lv_at hl 1 rfl) ?_
      refine lv_bipush (v := 59) hx hb dX4_clause_129 (by decide) ?_
      obtain ⟨r_2, hr_2, hg⟩ := g_bd hg
      refine cc_i (va_runV (C := RX4) (As := [.int 59]) (rest := []) ⟨hx, hb, hml, hown, htb⟩ (k_X4_expect a0 a0_code a1 a1_kinds a1_starts a1_values v0 v1 59 r_2 hr_2) (cw_V 1 htb tg_681 tg_11 tg_678 tg_680 ts_16 rfl rfl (by decide +kernel) ⟨Nat.le_of_ble_eq_true rfl, Nat.le_of_ble_eq_true rfl⟩) ⟨PC.blind, va_recv hK.1 hP (ci := 3) (q0 := 0) rfl rfl, PC.pre hK hT hP hD hS hA [0, 1, 2, 3, 4, 5] rfl (by decide)⟩ rfl rfl hl.1 rfl (lv_room (Nat.le_of_ble_eq_true rfl)) dX4_clause_131 ⟨Nat.le_of_ble_eq_true rfl, Nat.le_of_ble_eq_true rfl⟩) hP hD hS hA [0, 1, 2, 3, 4, 5] [] rfl rfl (by decide) (by decide) (fun r9 u9 H locs hw hP hD hS => ?_)
      obtain ⟨rfl, rfl⟩ := hw
      have hP : va_P D vwCl (WS_X4_clause cI cJ cZ cY a0 a0_code a1 a1_kinds a1_starts a1_values r_2.2.1 r_2.2.2) H := hP.sub [0, 1, 2, 3, 4, 5] rfl
      have hD : va_D A (WS_X4_clause cI cJ cZ cY a0 a0_code a1 a1_kinds a1_starts a1_values r_2.2.1 r_2.2.2) := hD.sub [0, 1, 2, 3, 4, 5] (by decide) rfl
      refine lv_if_eq (tgt := 143) hx hb dX4_clause_134 (by decide) (fun c_3 => ?_) (fun c_3 => ?_)
      · have hg := g_it hg c_3
        have hg := Option.some.inj hg
        rw [hQ]
        exact W.vret hx hb hr (fun t ht hW => ⟨⟨(r_2.2.1, r_2.2.2), rfl, hg, by rw [ht]; exact hP, hD⟩, hS.F ht⟩) hS.2.2 dX4_clause_143
      · have hg := g_if hg c_3
        refine lv_aload_n hx hb dX4_clause_137 rfl (lv_at hl 1 rfl) ?_
        refine lv_iload_n hx hb dX4_clause_138 rfl (lv_at hl 2 rfl) ?_
        refine lv_iconst (v := 0) hx hb dX4_clause_139 (by decide) ?_
        obtain ⟨r_4, hr_4, hg⟩ := g_bd hg
        refine cc_v (va_runV (C := RX4) (As := [.int x2, .int 0]) (rest := []) ⟨hx, hb, hml, hown, htb⟩ (k_X4_emit a0 a0_code a1 r_2.2.1 x2 0 r_4 hr_4) (cw_V 2 htb tg_665 tg_11 tg_662 tg_664 ts_12 rfl rfl (by decide +kernel) ⟨Nat.le_of_ble_eq_true rfl, Nat.le_of_ble_eq_true rfl⟩) ⟨PC.blind, va_recv hK.1 hP (ci := 3) (q0 := 0) rfl rfl, PC.pre hK hT hP hD hS hA [0, 1] rfl (by decide)⟩ rfl rfl hl.1 rfl (lv_room (Nat.le_of_ble_eq_true rfl)) dX4_clause_140 ⟨Nat.le_of_ble_eq_true rfl, Nat.le_of_ble_eq_true rfl⟩) hP hD hS hA [0, 1] [2, 3, 4, 5] rfl rfl (by decide) (by decide) (fun u9 H locs hw hP hD hS => ?_)
        have hw := hw.symm
        subst hw
        have hP : va_P D vwCl (WS_X4_clause cI cJ cZ cY a0 a0_code a1 a1_kinds a1_starts a1_values r_4 r_2.2.2) H := hP.sub [4, 5, 0, 1, 2, 3] rfl
        have hD : va_D A (WS_X4_clause cI cJ cZ cY a0 a0_code a1 a1_kinds a1_starts a1_values r_4 r_2.2.2) := hD.sub [4, 5, 0, 1, 2, 3] (by decide) rfl
        have hg := Option.some.inj hg
        rw [hQ]
        exact W.vret hx hb hr (fun t ht hW => ⟨⟨(r_4, r_2.2.2), rfl, hg, by rw [ht]; exact hP, hD⟩, hS.F ht⟩) hS.2.2 dX4_clause_143
  have b_51 : ∀ (x1 : Int32) (x2 : Int32) (v0 : BX4) (v1 : BX9) (H : Heap) (locs : List Loc) (ls : Array Slot), va_P D vwCl (WS_X4_clause cI cJ cZ cY a0 a0_code a1 a1_kinds a1_starts a1_values v0 v1) H → va_D A (WS_X4_clause cI cJ cZ cY a0 a0_code a1 a1_kinds a1_starts a1_values v0 v1) → va_S A s.heap H locs → lv_has ls 4 [(0, .ref a0), (1, .int x1), (2, .int x2)] → f_X4_clause_b51 x1 x2 v0 v1 = some res → W p l e rm_X4_clause s m args below meth c H locs 0 0 Q (F0 m 51 ls []) := by
    intro x1 x2 v0 v1 H locs ls hP hD hS hl hg
    unfold f_X4_clause_b51 at hg
    refine lv_iload_n hx hb dX4_clause_51 rfl (lv_at hl 1 rfl) ?_
    refine lv_bipush (v := 10) hx hb dX4_clause_52 (by decide) ?_
    refine lv_icmp_lt (tgt := 67) hx hb dX4_clause_54 (by decide) (fun c_5 => ?_) (fun c_5 => ?_)
    · have hg := g_it hg c_5
      refine lv_iload_n hx hb dX4_clause_67 rfl (lv_at hl 2 rfl) ?_
      refine lv_bipush (v := 21) hx hb dX4_clause_68 (by decide) ?_
      refine lv_icmp_ne (tgt := 87) hx hb dX4_clause_70 (by decide) (fun c_6 => ?_) (fun c_6 => ?_)
      · have hg := g_if hg c_6
        refine lv_aload_n hx hb dX4_clause_87 rfl (lv_at hl 0 rfl) ?_
        refine lv_dup hx hb dX4_clause_88 rfl ?_
        refine va_get (ci := 3) (v := .int (pX4_used v0)) (C := RX4) (T := TX4) (N := 8) hx hb htb uX4 hown hK.1 hP 0 rfl rfl 5 (by decide) (htb _ tg_390) (fun _ h9 => h9) rfl dX4_clause_89 ?_
        refine lv_iconst (v := 1) hx hb dX4_clause_92 (by decide) ?_
        refine lv_iload_n hx hb dX4_clause_93 rfl (lv_at hl 2 rfl) ?_
        refine lv_ishl hx hb dX4_clause_94 ?_
        refine lv_ior hx hb dX4_clause_95 ?_
        refine lv_topi (fun x_7 ex_7 => ?_)
        have hg := g_lte hg x_7 ex_7
        refine va_put (ci := 3) (v := .int x_7) (ty := .int) (C := RX4) (T := TX4) (N := 8) hx hb htb uX4 tyX4 tyX4_ok nmX4 hown hK.1 hP hD hS 0 rfl rfl 5 (by decide) (htb _ tg_390) (fun _ h9 => h9) rfl (by decide +kernel) rfl rfl (Nat.le_of_ble_eq_true rfl) dX4_clause_96 (fun H locs hP hD hS => ?_)
        obtain ⟨v0_8, ev0_8⟩ : ∃ z, z = sX4_used v0 x_7 := ⟨_, rfl⟩
        have hP : va_P D vwCl (WS_X4_clause cI cJ cZ cY a0 a0_code a1 a1_kinds a1_starts a1_values v0_8 v1) H := by rw [ev0_8]; exact hP
        have hD : va_D A (WS_X4_clause cI cJ cZ cY a0 a0_code a1 a1_kinds a1_starts a1_values v0_8 v1) := by rw [ev0_8]; exact hD
        have hg := g_lte hg v0_8 ev0_8
        refine lv_aload_n hx hb dX4_clause_99 rfl (lv_at hl 0 rfl) ?_
        refine va_get (ci := 3) (v := .ref a1) (C := RX4) (T := TX4) (N := 8) hx hb htb uX4 hown hK.1 hP 0 rfl rfl 0 (by decide) (htb _ tg_385) (fun _ h9 => h9) rfl dX4_clause_100 ?_
        obtain ⟨r_9, hr_9, hg⟩ := g_bd hg
        refine cc_v (va_runV (C := RX9) (As := []) (rest := []) ⟨hx, hb, hml, hown, htb⟩ (k_X9_advance a1 a1_kinds a1_starts a1_values v1 r_9 hr_9) (cw_V 0 htb tg_633 tg_12 tg_645 tg_631 tg_632 rfl rfl (by decide +kernel) ⟨Nat.le_of_ble_eq_true rfl, Nat.le_of_ble_eq_true rfl⟩) ⟨PC.blind, va_recv hK.1 hP (ci := 8) (q0 := 2) rfl rfl, PC.pre hK hT hP hD hS hA [2, 3, 4, 5] rfl (by decide)⟩ rfl rfl hl.1 rfl (lv_room (Nat.le_of_ble_eq_true rfl)) dX4_clause_103 ⟨Nat.le_of_ble_eq_true rfl, Nat.le_of_ble_eq_true rfl⟩) hP hD hS hA [2, 3, 4, 5] [0, 1] rfl rfl (by decide) (by decide) (fun u9 H locs hw hP hD hS => ?_)
        have hw := hw.symm
        subst hw
        have hP : va_P D vwCl (WS_X4_clause cI cJ cZ cY a0 a0_code a1 a1_kinds a1_starts a1_values v0_8 r_9) H := hP.sub [0, 1, 2, 3, 4, 5] rfl
        have hD : va_D A (WS_X4_clause cI cJ cZ cY a0 a0_code a1 a1_kinds a1_starts a1_values v0_8 r_9) := hD.sub [0, 1, 2, 3, 4, 5] (by decide) rfl
        refine lv_iload_n hx hb dX4_clause_106 rfl (lv_at hl 2 rfl) ?_
        refine lv_bipush (v := 24) hx hb dX4_clause_107 (by decide) ?_
        refine lv_icmp_ne (tgt := 119) hx hb dX4_clause_109 (by decide) (fun c_10 => ?_) (fun c_10 => ?_)
        · have hg := g_if hg c_10
          refine lv_aload_n hx hb dX4_clause_119 rfl (lv_at hl 0 rfl) ?_
          obtain ⟨r_11, hr_11, hg⟩ := g_bd hg
          refine cc_i (va_runV (C := RX4) (As := []) (rest := []) ⟨hx, hb, hml, hown, htb⟩ (k_X4_sum a0 a0_code a1 a1_kinds a1_starts a1_values v0_8 r_9 r_11 hr_11) (cw_V 0 htb tg_653 tg_11 tg_650 tg_652 ts_9 rfl rfl (by decide +kernel) ⟨Nat.le_of_ble_eq_true rfl, Nat.le_of_ble_eq_true rfl⟩) ⟨PC.blind, va_recv hK.1 hP (ci := 3) (q0 := 0) rfl rfl, PC.pre hK hT hP hD hS hA [0, 1, 2, 3, 4, 5] rfl (by decide)⟩ rfl rfl hl.1 rfl (lv_room (Nat.le_of_ble_eq_true rfl)) dX4_clause_120 ⟨Nat.le_of_ble_eq_true rfl, Nat.le_of_ble_eq_true rfl⟩) hP hD hS hA [0, 1, 2, 3, 4, 5] [] rfl rfl (by decide) (by decide) (fun r9 u9 H locs hw hP hD hS => ?_)
          obtain ⟨rfl, rfl⟩ := hw
          have hP : va_P D vwCl (WS_X4_clause cI cJ cZ cY a0 a0_code a1 a1_kinds a1_starts a1_values r_11.2.1 r_11.2.2) H := hP.sub [0, 1, 2, 3, 4, 5] rfl
          have hD : va_D A (WS_X4_clause cI cJ cZ cY a0 a0_code a1 a1_kinds a1_starts a1_values r_11.2.1 r_11.2.2) := hD.sub [0, 1, 2, 3, 4, 5] (by decide) rfl
          exact b_123 x2 r_11.1 r_11.2.1 r_11.2.2 H locs ls hP hD hS (lv_sub hl [0, 2] rfl) hg
        · have hg := g_it hg c_10
          refine lv_aload_n hx hb dX4_clause_112 rfl (lv_at hl 0 rfl) ?_
          obtain ⟨r_12, hr_12, hg⟩ := g_bd hg
          refine cc_i (va_runV (C := RX4) (As := []) (rest := []) ⟨hx, hb, hml, hown, htb⟩ (k_X4_either a0 a0_code a1 a1_kinds a1_starts a1_values v0_8 r_9 r_12 hr_12) (cw_V 0 htb tg_696 tg_11 tg_693 tg_695 ts_19 rfl rfl (by decide +kernel) ⟨Nat.le_of_ble_eq_true rfl, Nat.le_of_ble_eq_true rfl⟩) ⟨PC.blind, va_recv hK.1 hP (ci := 3) (q0 := 0) rfl rfl, PC.pre hK hT hP hD hS hA [0, 1, 2, 3, 4, 5] rfl (by decide)⟩ rfl rfl hl.1 rfl (lv_room (Nat.le_of_ble_eq_true rfl)) dX4_clause_113 ⟨Nat.le_of_ble_eq_true rfl, Nat.le_of_ble_eq_true rfl⟩) hP hD hS hA [0, 1, 2, 3, 4, 5] [] rfl rfl (by decide) (by decide) (fun r9 u9 H locs hw hP hD hS => ?_)
          obtain ⟨rfl, rfl⟩ := hw
          have hP : va_P D vwCl (WS_X4_clause cI cJ cZ cY a0 a0_code a1 a1_kinds a1_starts a1_values r_12.2.1 r_12.2.2) H := hP.sub [0, 1, 2, 3, 4, 5] rfl
          have hD : va_D A (WS_X4_clause cI cJ cZ cY a0 a0_code a1 a1_kinds a1_starts a1_values r_12.2.1 r_12.2.2) := hD.sub [0, 1, 2, 3, 4, 5] (by decide) rfl
          refine lv_goto (tgt := 123) hx hb dX4_clause_116 (by decide) ?_
          exact b_123 x2 r_12.1 r_12.2.1 r_12.2.2 H locs ls hP hD hS (lv_sub hl [0, 2] rfl) hg
      · have hg := g_it hg c_6
        refine lv_aload_n hx hb dX4_clause_73 rfl (lv_at hl 0 rfl) ?_
        refine va_get (ci := 3) (v := .ref a1) (C := RX4) (T := TX4) (N := 8) hx hb htb uX4 hown hK.1 hP 0 rfl rfl 0 (by decide) (htb _ tg_385) (fun _ h9 => h9) rfl dX4_clause_74 ?_
        obtain ⟨r_13, hr_13, hg⟩ := g_bd hg
        refine cc_v (va_runV (C := RX9) (As := []) (rest := []) ⟨hx, hb, hml, hown, htb⟩ (k_X9_advance a1 a1_kinds a1_starts a1_values v1 r_13 hr_13) (cw_V 0 htb tg_633 tg_12 tg_645 tg_631 tg_632 rfl rfl (by decide +kernel) ⟨Nat.le_of_ble_eq_true rfl, Nat.le_of_ble_eq_true rfl⟩) ⟨PC.blind, va_recv hK.1 hP (ci := 8) (q0 := 2) rfl rfl, PC.pre hK hT hP hD hS hA [2, 3, 4, 5] rfl (by decide)⟩ rfl rfl hl.1 rfl (lv_room (Nat.le_of_ble_eq_true rfl)) dX4_clause_77 ⟨Nat.le_of_ble_eq_true rfl, Nat.le_of_ble_eq_true rfl⟩) hP hD hS hA [2, 3, 4, 5] [0, 1] rfl rfl (by decide) (by decide) (fun u9 H locs hw hP hD hS => ?_)
        have hw := hw.symm
        subst hw
        have hP : va_P D vwCl (WS_X4_clause cI cJ cZ cY a0 a0_code a1 a1_kinds a1_starts a1_values v0 r_13) H := hP.sub [0, 1, 2, 3, 4, 5] rfl
        have hD : va_D A (WS_X4_clause cI cJ cZ cY a0 a0_code a1 a1_kinds a1_starts a1_values v0 r_13) := hD.sub [0, 1, 2, 3, 4, 5] (by decide) rfl
        refine lv_aload_n hx hb dX4_clause_80 rfl (lv_at hl 0 rfl) ?_
        obtain ⟨r_14, hr_14, hg⟩ := g_bd hg
        refine cc_v (va_runV (C := RX4) (As := []) (rest := []) ⟨hx, hb, hml, hown, htb⟩ (k_X4_letClause a0 a0_code a1 a1_kinds a1_starts a1_values v0 r_13 r_14 hr_14) (cw_V 0 htb tg_649 tg_11 tg_646 tg_648 ts_8 rfl rfl (by decide +kernel) ⟨Nat.le_of_ble_eq_true rfl, Nat.le_of_ble_eq_true rfl⟩) ⟨PC.blind, va_recv hK.1 hP (ci := 3) (q0 := 0) rfl rfl, PC.pre hK hT hP hD hS hA [0, 1, 2, 3, 4, 5] rfl (by decide)⟩ rfl rfl hl.1 rfl (lv_room (Nat.le_of_ble_eq_true rfl)) dX4_clause_81 ⟨Nat.le_of_ble_eq_true rfl, Nat.le_of_ble_eq_true rfl⟩) hP hD hS hA [0, 1, 2, 3, 4, 5] [] rfl rfl (by decide) (by decide) (fun u9 H locs hw hP hD hS => ?_)
        have hw := hw.symm
        subst hw
        have hP : va_P D vwCl (WS_X4_clause cI cJ cZ cY a0 a0_code a1 a1_kinds a1_starts a1_values r_14.1 r_14.2) H := hP.sub [0, 1, 2, 3, 4, 5] rfl
        have hD : va_D A (WS_X4_clause cI cJ cZ cY a0 a0_code a1 a1_kinds a1_starts a1_values r_14.1 r_14.2) := hD.sub [0, 1, 2, 3, 4, 5] (by decide) rfl
        refine lv_goto (tgt := 143) hx hb dX4_clause_84 (by decide) ?_
        have hg := Option.some.inj hg
        rw [hQ]
        exact W.vret hx hb hr (fun t ht hW => ⟨⟨(r_14.1, r_14.2), rfl, hg, by rw [ht]; exact hP, hD⟩, hS.F ht⟩) hS.2.2 dX4_clause_143
    · have hg := g_if hg c_5
      refine lv_aload_n hx hb dX4_clause_57 rfl (lv_at hl 0 rfl) ?_
      refine lv_bipush (v := 6) hx hb dX4_clause_58 (by decide) ?_
      obtain ⟨r_15, hr_15, hg⟩ := g_bd hg
      refine cc_i (va_runV (C := RX4) (As := [.int 6]) (rest := []) ⟨hx, hb, hml, hown, htb⟩ (k_X4_refuse a0 a0_code a1 a1_kinds a1_starts a1_values v0 v1 6 r_15 hr_15) (cw_V 1 htb tg_644 tg_11 tg_641 tg_643 ts_7 rfl rfl (by decide +kernel) ⟨Nat.le_of_ble_eq_true rfl, Nat.le_of_ble_eq_true rfl⟩) ⟨PC.blind, va_recv hK.1 hP (ci := 3) (q0 := 0) rfl rfl, PC.pre hK hT hP hD hS hA [0, 1, 2, 3, 4, 5] rfl (by decide)⟩ rfl rfl hl.1 rfl (lv_room (Nat.le_of_ble_eq_true rfl)) dX4_clause_60 ⟨Nat.le_of_ble_eq_true rfl, Nat.le_of_ble_eq_true rfl⟩) hP hD hS hA [0, 1, 2, 3, 4, 5] [] rfl rfl (by decide) (by decide) (fun r9 u9 H locs hw hP hD hS => ?_)
      obtain ⟨rfl, rfl⟩ := hw
      have hP : va_P D vwCl (WS_X4_clause cI cJ cZ cY a0 a0_code a1 a1_kinds a1_starts a1_values r_15.2 v1) H := hP.sub [0, 1, 2, 3, 4, 5] rfl
      have hD : va_D A (WS_X4_clause cI cJ cZ cY a0 a0_code a1 a1_kinds a1_starts a1_values r_15.2 v1) := hD.sub [0, 1, 2, 3, 4, 5] (by decide) rfl
      refine lv_pop hx hb dX4_clause_63 rfl ?_
      refine lv_goto (tgt := 143) hx hb dX4_clause_64 (by decide) ?_
      have hg := Option.some.inj hg
      rw [hQ]
      exact W.vret hx hb hr (fun t ht hW => ⟨⟨(r_15.2, v1), rfl, hg, by rw [ht]; exact hP, hD⟩, hS.F ht⟩) hS.2.2 dX4_clause_143
  generalize hHe : s.heap = H at hP ⊢
  have hS : va_S A s.heap H [] := by rw [← hHe]; exact va_S.rf
  generalize ([] : List Loc) = locs at hS ⊢
  unfold f_X4_clause at hg
  refine lv_aload_n hx hb dX4_clause_0 rfl (lv_at hl 0 rfl) ?_
  refine va_get (ci := 3) (v := .ref a1) (C := RX4) (T := TX4) (N := 8) hx hb htb uX4 hown hK.1 hP 0 rfl rfl 0 (by decide) (htb _ tg_385) (fun _ h9 => h9) rfl dX4_clause_1 ?_
  refine va_get (ci := 8) (v := .int (pX9_kind v1)) (C := RX9) (T := TX9) (N := 8) hx hb htb uX9 hown hK.1 hP 2 rfl rfl 5 (by decide) (htb _ tg_362) (fun _ h9 => h9) rfl dX4_clause_4 ?_
  obtain ⟨r_16, hr_16, hg⟩ := g_bd hg
  refine cc_i (va_runS (As := [.int (pX9_kind v1)]) (rest := []) ⟨hx, hb, hml, hown, htb⟩ (k_X4_clauseOperation (pX9_kind v1) r_16 hr_16) (cw_S 1 htb tg_640 tg_11 tg_638 tg_639 rfl rfl (by decide +kernel) ⟨Nat.le_of_ble_eq_true rfl, Nat.le_of_ble_eq_true rfl⟩) ⟨PC.blind, PC.pre hK hT hP hD hS hA [] rfl (by decide)⟩ rfl rfl hl.1 rfl (lv_room (Nat.le_of_ble_eq_true rfl)) dX4_clause_7 ⟨Nat.le_of_ble_eq_true rfl, Nat.le_of_ble_eq_true rfl⟩) hP hD hS hA [] [0, 1, 2, 3, 4, 5] rfl rfl (by decide) (by decide) (fun r9 u9 H locs hw hP hD hS => ?_)
  have hw := hw.symm
  subst hw
  have hP : va_P D vwCl (WS_X4_clause cI cJ cZ cY a0 a0_code a1 a1_kinds a1_starts a1_values v0 v1) H := hP.sub [0, 1, 2, 3, 4, 5] rfl
  have hD : va_D A (WS_X4_clause cI cJ cZ cY a0 a0_code a1 a1_kinds a1_starts a1_values v0 v1) := hD.sub [0, 1, 2, 3, 4, 5] (by decide) rfl
  refine lv_istore_n (lv' := [(2, .int r_16), (0, .ref a0), (1, .int p0)]) hx hb dX4_clause_10 rfl hl (by decide) rfl (fun ls hl => ?_)
  refine lv_iload_n hx hb dX4_clause_11 rfl (lv_at hl 0 rfl) ?_
  refine lv_iconst (v := (-1)) hx hb dX4_clause_12 (by decide) ?_
  refine lv_icmp_ne (tgt := 25) hx hb dX4_clause_13 (by decide) (fun c_17 => ?_) (fun c_17 => ?_)
  · have hg := g_if hg c_17
    refine lv_iload_n hx hb dX4_clause_25 rfl (lv_at hl 0 rfl) ?_
    refine lv_bipush (v := 21) hx hb dX4_clause_26 (by decide) ?_
    refine lv_icmp_eq (tgt := 51) hx hb dX4_clause_28 (by decide) (fun c_18 => ?_) (fun c_18 => ?_)
    · have hg := g_it hg c_18
      exact b_51 p0 r_16 v0 v1 H locs ls hP hD hS (lv_sub hl [1, 2, 0] rfl) hg
    · have hg := g_if hg c_18
      refine lv_aload_n hx hb dX4_clause_31 rfl (lv_at hl 1 rfl) ?_
      refine va_get (ci := 3) (v := .int (pX4_used v0)) (C := RX4) (T := TX4) (N := 8) hx hb htb uX4 hown hK.1 hP 0 rfl rfl 5 (by decide) (htb _ tg_390) (fun _ h9 => h9) rfl dX4_clause_32 ?_
      refine lv_iload_n hx hb dX4_clause_35 rfl (lv_at hl 0 rfl) ?_
      refine lv_ishr hx hb dX4_clause_36 ?_
      refine lv_iconst (v := 1) hx hb dX4_clause_37 (by decide) ?_
      refine lv_iand hx hb dX4_clause_38 ?_
      refine lv_if_eq (tgt := 51) hx hb dX4_clause_39 (by decide) (fun c_19 => ?_) (fun c_19 => ?_)
      · have hg := g_it hg c_19
        exact b_51 p0 r_16 v0 v1 H locs ls hP hD hS (lv_sub hl [1, 2, 0] rfl) hg
      · have hg := g_if hg c_19
        refine lv_aload_n hx hb dX4_clause_42 rfl (lv_at hl 1 rfl) ?_
        refine lv_iconst (v := 4) hx hb dX4_clause_43 (by decide) ?_
        obtain ⟨r_20, hr_20, hg⟩ := g_bd hg
        refine cc_i (va_runV (C := RX4) (As := [.int 4]) (rest := []) ⟨hx, hb, hml, hown, htb⟩ (k_X4_refuse a0 a0_code a1 a1_kinds a1_starts a1_values v0 v1 4 r_20 hr_20) (cw_V 1 htb tg_644 tg_11 tg_641 tg_643 ts_7 rfl rfl (by decide +kernel) ⟨Nat.le_of_ble_eq_true rfl, Nat.le_of_ble_eq_true rfl⟩) ⟨PC.blind, va_recv hK.1 hP (ci := 3) (q0 := 0) rfl rfl, PC.pre hK hT hP hD hS hA [0, 1, 2, 3, 4, 5] rfl (by decide)⟩ rfl rfl hl.1 rfl (lv_room (Nat.le_of_ble_eq_true rfl)) dX4_clause_44 ⟨Nat.le_of_ble_eq_true rfl, Nat.le_of_ble_eq_true rfl⟩) hP hD hS hA [0, 1, 2, 3, 4, 5] [] rfl rfl (by decide) (by decide) (fun r9 u9 H locs hw hP hD hS => ?_)
        obtain ⟨rfl, rfl⟩ := hw
        have hP : va_P D vwCl (WS_X4_clause cI cJ cZ cY a0 a0_code a1 a1_kinds a1_starts a1_values r_20.2 v1) H := hP.sub [0, 1, 2, 3, 4, 5] rfl
        have hD : va_D A (WS_X4_clause cI cJ cZ cY a0 a0_code a1 a1_kinds a1_starts a1_values r_20.2 v1) := hD.sub [0, 1, 2, 3, 4, 5] (by decide) rfl
        refine lv_pop hx hb dX4_clause_47 rfl ?_
        refine lv_goto (tgt := 143) hx hb dX4_clause_48 (by decide) ?_
        have hg := Option.some.inj hg
        rw [hQ]
        exact W.vret hx hb hr (fun t ht hW => ⟨⟨(r_20.2, v1), rfl, hg, by rw [ht]; exact hP, hD⟩, hS.F ht⟩) hS.2.2 dX4_clause_143
  · have hg := g_it hg c_17
    refine lv_aload_n hx hb dX4_clause_16 rfl (lv_at hl 1 rfl) ?_
    refine lv_iconst (v := 1) hx hb dX4_clause_17 (by decide) ?_
    obtain ⟨r_21, hr_21, hg⟩ := g_bd hg
    refine cc_i (va_runV (C := RX4) (As := [.int 1]) (rest := []) ⟨hx, hb, hml, hown, htb⟩ (k_X4_refuse a0 a0_code a1 a1_kinds a1_starts a1_values v0 v1 1 r_21 hr_21) (cw_V 1 htb tg_644 tg_11 tg_641 tg_643 ts_7 rfl rfl (by decide +kernel) ⟨Nat.le_of_ble_eq_true rfl, Nat.le_of_ble_eq_true rfl⟩) ⟨PC.blind, va_recv hK.1 hP (ci := 3) (q0 := 0) rfl rfl, PC.pre hK hT hP hD hS hA [0, 1, 2, 3, 4, 5] rfl (by decide)⟩ rfl rfl hl.1 rfl (lv_room (Nat.le_of_ble_eq_true rfl)) dX4_clause_18 ⟨Nat.le_of_ble_eq_true rfl, Nat.le_of_ble_eq_true rfl⟩) hP hD hS hA [0, 1, 2, 3, 4, 5] [] rfl rfl (by decide) (by decide) (fun r9 u9 H locs hw hP hD hS => ?_)
    obtain ⟨rfl, rfl⟩ := hw
    have hP : va_P D vwCl (WS_X4_clause cI cJ cZ cY a0 a0_code a1 a1_kinds a1_starts a1_values r_21.2 v1) H := hP.sub [0, 1, 2, 3, 4, 5] rfl
    have hD : va_D A (WS_X4_clause cI cJ cZ cY a0 a0_code a1 a1_kinds a1_starts a1_values r_21.2 v1) := hD.sub [0, 1, 2, 3, 4, 5] (by decide) rfl
    refine lv_pop hx hb dX4_clause_21 rfl ?_
    refine lv_goto (tgt := 143) hx hb dX4_clause_22 (by decide) ?_
    have hg := Option.some.inj hg
    rw [hQ]
    exact W.vret hx hb hr (fun t ht hW => ⟨⟨(r_21.2, v1), rfl, hg, by rw [ht]; exact hP, hD⟩, hS.F ht⟩) hS.2.2 dX4_clause_143

/-! ManyEyes$Parser.parse([II)V -/
def WS_X4_parse (cI cJ cZ cY : ClassId) (a0 a1 a1_code a2 a2_kinds a2_starts a2_values n0 : Nat) (v0 : (Nat → Int32)) (v1 : BX4) (v2 : BX9) : va_W := (GA cI a0 n0 v0) ++ ((GX4 cI cJ cZ cY a1 a1_code a2 v1) ++ ((GX9 cI cJ cZ cY a2 a2_kinds a2_starts a2_values v2)))
def f_X4_parse_b41B (n0 : Nat) (v0 : (Nat → Int32)) (J41 : Int32 × BX4 × BX9 → Option (BX4 × BX9)) (x3 : Int32) (v1 : BX4) (v2 : BX9) : Option (BX4 × BX9) := if (10 : Int32) < x3 then (some (v1, v2)) else (if ((pX4_fault v1) : Int32) = 0 then (if ((pX9_kind v2) : Int32) = (-1) then (some (v1, v2)) else ((f_X4_clause v1 v2 x3).bind (fun r_4 => g_lt (x3 + 1 : Int32) (fun x3_5 => J41 (x3_5, r_4.1, r_4.2))))) else (some (v1, v2)))
def f_X4_parse_b41 (n0 : Nat) (v0 : (Nat → Int32)) : Nat → (Int32 × BX4 × BX9) → Option (BX4 × BX9) := g_lp (fun J z => f_X4_parse_b41B n0 v0 J z.1 z.2.1 z.2.2)
def f_X4_parse (n0 : Nat) (v0 : (Nat → Int32)) (v1 : BX4) (v2 : BX9) (p1 : Int32) : Option (BX4 × BX9) := (f_X9_split n0 v0 v2 p1).bind (fun r_6 => g_lt (sX4_size v1 0) (fun v1_7 => g_lt (sX4_open v1_7 0) (fun v1_8 => g_lt (sX4_told v1_8 0) (fun v1_9 => g_lt (sX4_used v1_9 0) (fun v1_10 => g_lt (sX4_fault v1_10 0) (fun v1_11 => g_lt ((-1) : Int32) (fun x_12 => g_lt (sX4_place v1_11 x_12) (fun v1_13 => f_X4_parse_b41 n0 v0 fU (0, v1_13, r_6)))))))))
abbrev rm_X4_parse : Room := { frames := 64, cells := 0, slots := 0, locals := 2495 }
set_option maxHeartbeats 4000000 in
set_option maxRecDepth 100000 in
theorem k_X4_parse {l : Launch} {D : va_G} {cI cJ cZ cY : ClassId} {tX tY : Nat} {sz : Nat} (a0 a1 a1_code a2 a2_kinds a2_starts a2_values n0 : Nat) (v0 : (Nat → Int32)) (v1 : BX4) (v2 : BX9) (p1 : Int32) (res : BX4 × BX9) (hg : f_X4_parse n0 v0 v1 v2 p1 = some res) : Met l yX4_parse (Cond.code yX4_parse cX4_parse 4 none :: TB) rm_X4_parse (PC D cI cJ cZ cY tX tY [.ref a1, .ref a0, .int p1] (WS_X4_parse cI cJ cZ cY a0 a1 a1_code a2 a2_kinds a2_starts a2_values n0 v0 v1 v2) sz) (va_Qv (fun (u : BX4 × BX9) => u = res) (BC D (fun u : BX4 × BX9 => WS_X4_parse cI cJ cZ cY a0 a1 a1_code a2 a2_kinds a2_starts a2_values n0 v0 u.1 u.2) (va_A (WS_X4_parse cI cJ cZ cY a0 a1 a1_code a2 a2_kinds a2_starts a2_values n0 v0 v1 v2) sz)) (va_A (WS_X4_parse cI cJ cZ cY a0 a1 a1_code a2 a2_kinds a2_starts a2_values n0 v0 v1 v2) sz)) 0 0 (va_A (WS_X4_parse cI cJ cZ cY a0 a1 a1_code a2 a2_kinds a2_starts a2_values n0 v0 v1 v2) sz) := by
  refine Met.ofW (cc := cX4_parse) (maxL := 4) (ret := none) (by decide) rfl ?_
  intro p e s m args below meth c s₁ B hml hv
  obtain ⟨hargs, hsz, hP, hK, hD0, hT⟩ := hv
  have hx := B.exec
  have hb := B.bytes
  have hr := B.returns
  have htb : ∀ w ∈ TB, w.before args s = true := fun w h => atoms_spec (ws := Cond.code yX4_parse cX4_parse 4 none :: TB) B.pre w (List.mem_cons_of_mem _ h)
  have hown : s.vm.findClass "ManyEyes$Parser" = some m.cls := findClass_of_methodNamed B.named
  have hlocks := B.notSynchronized
  subst hsz
  have hD := hD0.self (sz := s.heap.size)
  generalize hAe : va_A (WS_X4_parse cI cJ cZ cY a0 a1 a1_code a2 a2_kinds a2_starts a2_values n0 v0 v1 v2) s.heap.size = A at hD hT ⊢
  have hA : ∀ q : Nat, s.heap.size ≤ q → A q := fun q h => by rw [← hAe]; exact Or.inr h
  have hS : va_S A s.heap s.heap [] := va_S.rf
  have hl := lv_entry ([.ref a1, .ref a0, .int p1]) (n := 4) (Nat.le_of_ble_eq_true rfl)
  have he : entryFrame m args 4 = F0 m 0 (lg_sl ([.ref a1, .ref a0, .int p1]) ++ List.replicate (4 - (lg_sl ([.ref a1, .ref a0, .int p1])).length) Slot.unset).toArray [] := by rw [hargs, lg_entry_eq]
  rw [he]
  generalize (lg_sl ([.ref a1, .ref a0, .int p1]) ++ List.replicate (4 - (lg_sl ([.ref a1, .ref a0, .int p1])).length) Slot.unset).toArray = ls at hl ⊢
  have hl : lv_has ls 4 [(0, .ref a1), (1, .ref a0), (2, .int p1)] := hl
  show W p l e rm_X4_parse s m args below meth c s.heap [] 0 0 _ _
  refine W.genQ (fun Q hQ => ?_)
  have b_41 : ∀ (n : Nat), ∀ (x3 : Int32) (v1 : BX4) (v2 : BX9) (H : Heap) (locs : List Loc) (ls : Array Slot), va_P D vwCl (WS_X4_parse cI cJ cZ cY a0 a1 a1_code a2 a2_kinds a2_starts a2_values n0 v0 v1 v2) H → va_D A (WS_X4_parse cI cJ cZ cY a0 a1 a1_code a2 a2_kinds a2_starts a2_values n0 v0 v1 v2) → va_S A s.heap H locs → lv_has ls 4 [(0, .ref a1), (3, .int x3)] → f_X4_parse_b41 n0 v0 n (x3, v1, v2) = some res → W p l e rm_X4_parse s m args below meth c H locs 0 0 Q (F0 m 41 ls []) := by
    intro n
    induction n with
    | zero =>
      intro x3 v1 v2 H locs ls hP hD hS hl hg
      exact (g_lp0 hg).elim
    | succ n ih =>
      intro x3 v1 v2 H locs ls hP hD hS hl hg
      have hg : f_X4_parse_b41B n0 v0 (f_X4_parse_b41 n0 v0 n) x3 v1 v2 = some res := hg
      unfold f_X4_parse_b41B at hg
      refine lv_iload_n hx hb dX4_parse_41 rfl (lv_at hl 1 rfl) ?_
      refine lv_bipush (v := 10) hx hb dX4_parse_42 (by decide) ?_
      refine lv_icmp_gt (tgt := 76) hx hb dX4_parse_44 (by decide) (fun c_1 => ?_) (fun c_1 => ?_)
      · have hg := g_it hg c_1
        have hg := Option.some.inj hg
        rw [hQ]
        exact W.vret hx hb hr (fun t ht hW => ⟨⟨(v1, v2), rfl, hg, by rw [ht]; exact hP, hD⟩, hS.F ht⟩) hS.2.2 dX4_parse_76
      · have hg := g_if hg c_1
        refine lv_aload_n hx hb dX4_parse_47 rfl (lv_at hl 0 rfl) ?_
        refine va_get (ci := 3) (v := .int (pX4_fault v1)) (C := RX4) (T := TX4) (N := 8) hx hb htb uX4 hown hK.1 hP 1 rfl rfl 6 (by decide) (htb _ tg_391) (fun _ h9 => h9) rfl dX4_parse_48 ?_
        refine lv_if_ne (tgt := 76) hx hb dX4_parse_51 (by decide) (fun c_2 => ?_) (fun c_2 => ?_)
        · have hg := g_if hg c_2
          have hg := Option.some.inj hg
          rw [hQ]
          exact W.vret hx hb hr (fun t ht hW => ⟨⟨(v1, v2), rfl, hg, by rw [ht]; exact hP, hD⟩, hS.F ht⟩) hS.2.2 dX4_parse_76
        · have hg := g_it hg c_2
          refine lv_aload_n hx hb dX4_parse_54 rfl (lv_at hl 0 rfl) ?_
          refine va_get (ci := 3) (v := .ref a2) (C := RX4) (T := TX4) (N := 8) hx hb htb uX4 hown hK.1 hP 1 rfl rfl 0 (by decide) (htb _ tg_385) (fun _ h9 => h9) rfl dX4_parse_55 ?_
          refine va_get (ci := 8) (v := .int (pX9_kind v2)) (C := RX9) (T := TX9) (N := 8) hx hb htb uX9 hown hK.1 hP 3 rfl rfl 5 (by decide) (htb _ tg_362) (fun _ h9 => h9) rfl dX4_parse_58 ?_
          refine lv_iconst (v := (-1)) hx hb dX4_parse_61 (by decide) ?_
          refine lv_icmp_eq (tgt := 76) hx hb dX4_parse_62 (by decide) (fun c_3 => ?_) (fun c_3 => ?_)
          · have hg := g_it hg c_3
            have hg := Option.some.inj hg
            rw [hQ]
            exact W.vret hx hb hr (fun t ht hW => ⟨⟨(v1, v2), rfl, hg, by rw [ht]; exact hP, hD⟩, hS.F ht⟩) hS.2.2 dX4_parse_76
          · have hg := g_if hg c_3
            refine lv_aload_n hx hb dX4_parse_65 rfl (lv_at hl 0 rfl) ?_
            refine lv_iload_n hx hb dX4_parse_66 rfl (lv_at hl 1 rfl) ?_
            obtain ⟨r_4, hr_4, hg⟩ := g_bd hg
            refine cc_v (va_runV (C := RX4) (As := [.int x3]) (rest := []) ⟨hx, hb, hml, hown, htb⟩ (k_X4_clause a1 a1_code a2 a2_kinds a2_starts a2_values v1 v2 x3 r_4 hr_4) (cw_V 1 htb tg_637 tg_11 tg_634 tg_636 ts_6 rfl rfl (by decide +kernel) ⟨Nat.le_of_ble_eq_true rfl, Nat.le_of_ble_eq_true rfl⟩) ⟨PC.blind, va_recv hK.1 hP (ci := 3) (q0 := 1) rfl rfl, PC.pre hK hT hP hD hS hA [1, 2, 3, 4, 5, 6] rfl (by decide)⟩ rfl rfl hl.1 rfl (lv_room (Nat.le_of_ble_eq_true rfl)) dX4_parse_67 ⟨Nat.le_of_ble_eq_true rfl, Nat.le_of_ble_eq_true rfl⟩) hP hD hS hA [1, 2, 3, 4, 5, 6] [0] rfl rfl (by decide) (by decide) (fun u9 H locs hw hP hD hS => ?_)
            have hw := hw.symm
            subst hw
            have hP : va_P D vwCl (WS_X4_parse cI cJ cZ cY a0 a1 a1_code a2 a2_kinds a2_starts a2_values n0 v0 r_4.1 r_4.2) H := hP.sub [0, 1, 2, 3, 4, 5, 6] rfl
            have hD : va_D A (WS_X4_parse cI cJ cZ cY a0 a1 a1_code a2 a2_kinds a2_starts a2_values n0 v0 r_4.1 r_4.2) := hD.sub [0, 1, 2, 3, 4, 5, 6] (by decide) rfl
            obtain ⟨x3_5, ex3_5⟩ : ∃ z : Int32, z = x3 + 1 := ⟨_, rfl⟩
            have hg := g_lte hg x3_5 ex3_5
            refine lv_iinc (v := x3_5) (lv' := [(3, .int x3_5), (0, .ref a1)]) hx hb dX4_parse_70 hl (k := 1) rfl (by rw [ex3_5]; rfl) (by decide) rfl (fun ls hl => ?_)
            refine lv_goto (tgt := 41) hx hb dX4_parse_73 (by decide) ?_
            exact ih x3_5 r_4.1 r_4.2 H locs ls hP hD hS (lv_sub hl [1, 0] rfl) hg
  generalize hHe : s.heap = H at hP ⊢
  have hS : va_S A s.heap H [] := by rw [← hHe]; exact va_S.rf
  generalize ([] : List Loc) = locs at hS ⊢
  unfold f_X4_parse at hg
  refine lv_aload_n hx hb dX4_parse_0 rfl (lv_at hl 0 rfl) ?_
  refine va_get (ci := 3) (v := .ref a2) (C := RX4) (T := TX4) (N := 8) hx hb htb uX4 hown hK.1 hP 1 rfl rfl 0 (by decide) (htb _ tg_385) (fun _ h9 => h9) rfl dX4_parse_1 ?_
  refine lv_aload_n hx hb dX4_parse_4 rfl (lv_at hl 1 rfl) ?_
  refine lv_iload_n hx hb dX4_parse_5 rfl (lv_at hl 2 rfl) ?_
  obtain ⟨r_6, hr_6, hg⟩ := g_bd hg
  refine cc_v (va_runV (C := RX9) (As := [.ref a0, .int p1]) (rest := []) ⟨hx, hb, hml, hown, htb⟩ (k_X9_split a0 a2 a2_kinds a2_starts a2_values n0 v0 v2 p1 r_6 hr_6) (cw_V 2 htb tg_615 tg_12 tg_612 tg_613 tg_614 rfl rfl (by decide +kernel) ⟨Nat.le_of_ble_eq_true rfl, Nat.le_of_ble_eq_true rfl⟩) ⟨PC.blind, va_recv hK.1 hP (ci := 8) (q0 := 3) rfl rfl, PC.pre hK hT hP hD hS hA [0, 3, 4, 5, 6] rfl (by decide)⟩ rfl rfl hl.1 rfl (lv_room (Nat.le_of_ble_eq_true rfl)) dX4_parse_6 ⟨Nat.le_of_ble_eq_true rfl, Nat.le_of_ble_eq_true rfl⟩) hP hD hS hA [0, 3, 4, 5, 6] [1, 2] rfl rfl (by decide) (by decide) (fun u9 H locs hw hP hD hS => ?_)
  have hw := hw.symm
  subst hw
  have hP : va_P D vwCl (WS_X4_parse cI cJ cZ cY a0 a1 a1_code a2 a2_kinds a2_starts a2_values n0 v0 v1 r_6) H := hP.sub [2, 0, 1, 3, 4, 5, 6] rfl
  have hD : va_D A (WS_X4_parse cI cJ cZ cY a0 a1 a1_code a2 a2_kinds a2_starts a2_values n0 v0 v1 r_6) := hD.sub [2, 0, 1, 3, 4, 5, 6] (by decide) rfl
  refine lv_aload_n hx hb dX4_parse_9 rfl (lv_at hl 0 rfl) ?_
  refine lv_iconst (v := 0) hx hb dX4_parse_10 (by decide) ?_
  refine va_put (ci := 3) (v := .int 0) (ty := .int) (C := RX4) (T := TX4) (N := 8) hx hb htb uX4 tyX4 tyX4_ok nmX4 hown hK.1 hP hD hS 1 rfl rfl 2 (by decide) (htb _ tg_387) (fun _ h9 => h9) rfl (by decide +kernel) rfl rfl (Nat.le_of_ble_eq_true rfl) dX4_parse_11 (fun H locs hP hD hS => ?_)
  obtain ⟨v1_7, ev1_7⟩ : ∃ z, z = sX4_size v1 0 := ⟨_, rfl⟩
  have hP : va_P D vwCl (WS_X4_parse cI cJ cZ cY a0 a1 a1_code a2 a2_kinds a2_starts a2_values n0 v0 v1_7 r_6) H := by rw [ev1_7]; exact hP
  have hD : va_D A (WS_X4_parse cI cJ cZ cY a0 a1 a1_code a2 a2_kinds a2_starts a2_values n0 v0 v1_7 r_6) := by rw [ev1_7]; exact hD
  have hg := g_lte hg v1_7 ev1_7
  refine lv_aload_n hx hb dX4_parse_14 rfl (lv_at hl 0 rfl) ?_
  refine lv_iconst (v := 0) hx hb dX4_parse_15 (by decide) ?_
  refine va_put (ci := 3) (v := .int 0) (ty := .int) (C := RX4) (T := TX4) (N := 8) hx hb htb uX4 tyX4 tyX4_ok nmX4 hown hK.1 hP hD hS 1 rfl rfl 3 (by decide) (htb _ tg_388) (fun _ h9 => h9) rfl (by decide +kernel) rfl rfl (Nat.le_of_ble_eq_true rfl) dX4_parse_16 (fun H locs hP hD hS => ?_)
  obtain ⟨v1_8, ev1_8⟩ : ∃ z, z = sX4_open v1_7 0 := ⟨_, rfl⟩
  have hP : va_P D vwCl (WS_X4_parse cI cJ cZ cY a0 a1 a1_code a2 a2_kinds a2_starts a2_values n0 v0 v1_8 r_6) H := by rw [ev1_8]; exact hP
  have hD : va_D A (WS_X4_parse cI cJ cZ cY a0 a1 a1_code a2 a2_kinds a2_starts a2_values n0 v0 v1_8 r_6) := by rw [ev1_8]; exact hD
  have hg := g_lte hg v1_8 ev1_8
  refine lv_aload_n hx hb dX4_parse_19 rfl (lv_at hl 0 rfl) ?_
  refine lv_iconst (v := 0) hx hb dX4_parse_20 (by decide) ?_
  refine va_put (ci := 3) (v := .int 0) (ty := .int) (C := RX4) (T := TX4) (N := 8) hx hb htb uX4 tyX4 tyX4_ok nmX4 hown hK.1 hP hD hS 1 rfl rfl 4 (by decide) (htb _ tg_389) (fun _ h9 => h9) rfl (by decide +kernel) rfl rfl (Nat.le_of_ble_eq_true rfl) dX4_parse_21 (fun H locs hP hD hS => ?_)
  obtain ⟨v1_9, ev1_9⟩ : ∃ z, z = sX4_told v1_8 0 := ⟨_, rfl⟩
  have hP : va_P D vwCl (WS_X4_parse cI cJ cZ cY a0 a1 a1_code a2 a2_kinds a2_starts a2_values n0 v0 v1_9 r_6) H := by rw [ev1_9]; exact hP
  have hD : va_D A (WS_X4_parse cI cJ cZ cY a0 a1 a1_code a2 a2_kinds a2_starts a2_values n0 v0 v1_9 r_6) := by rw [ev1_9]; exact hD
  have hg := g_lte hg v1_9 ev1_9
  refine lv_aload_n hx hb dX4_parse_24 rfl (lv_at hl 0 rfl) ?_
  refine lv_iconst (v := 0) hx hb dX4_parse_25 (by decide) ?_
  refine va_put (ci := 3) (v := .int 0) (ty := .int) (C := RX4) (T := TX4) (N := 8) hx hb htb uX4 tyX4 tyX4_ok nmX4 hown hK.1 hP hD hS 1 rfl rfl 5 (by decide) (htb _ tg_390) (fun _ h9 => h9) rfl (by decide +kernel) rfl rfl (Nat.le_of_ble_eq_true rfl) dX4_parse_26 (fun H locs hP hD hS => ?_)
  obtain ⟨v1_10, ev1_10⟩ : ∃ z, z = sX4_used v1_9 0 := ⟨_, rfl⟩
  have hP : va_P D vwCl (WS_X4_parse cI cJ cZ cY a0 a1 a1_code a2 a2_kinds a2_starts a2_values n0 v0 v1_10 r_6) H := by rw [ev1_10]; exact hP
  have hD : va_D A (WS_X4_parse cI cJ cZ cY a0 a1 a1_code a2 a2_kinds a2_starts a2_values n0 v0 v1_10 r_6) := by rw [ev1_10]; exact hD
  have hg := g_lte hg v1_10 ev1_10
  refine lv_aload_n hx hb dX4_parse_29 rfl (lv_at hl 0 rfl) ?_
  refine lv_iconst (v := 0) hx hb dX4_parse_30 (by decide) ?_
  refine va_put (ci := 3) (v := .int 0) (ty := .int) (C := RX4) (T := TX4) (N := 8) hx hb htb uX4 tyX4 tyX4_ok nmX4 hown hK.1 hP hD hS 1 rfl rfl 6 (by decide) (htb _ tg_391) (fun _ h9 => h9) rfl (by decide +kernel) rfl rfl (Nat.le_of_ble_eq_true rfl) dX4_parse_31 (fun H locs hP hD hS => ?_)
  obtain ⟨v1_11, ev1_11⟩ : ∃ z, z = sX4_fault v1_10 0 := ⟨_, rfl⟩
  have hP : va_P D vwCl (WS_X4_parse cI cJ cZ cY a0 a1 a1_code a2 a2_kinds a2_starts a2_values n0 v0 v1_11 r_6) H := by rw [ev1_11]; exact hP
  have hD : va_D A (WS_X4_parse cI cJ cZ cY a0 a1 a1_code a2 a2_kinds a2_starts a2_values n0 v0 v1_11 r_6) := by rw [ev1_11]; exact hD
  have hg := g_lte hg v1_11 ev1_11
  refine lv_aload_n hx hb dX4_parse_34 rfl (lv_at hl 0 rfl) ?_
  refine lv_iconst (v := (-1)) hx hb dX4_parse_35 (by decide) ?_
  refine lv_topi (fun x_12 ex_12 => ?_)
  have hg := g_lte hg x_12 ex_12
  refine va_put (ci := 3) (v := .int x_12) (ty := .int) (C := RX4) (T := TX4) (N := 8) hx hb htb uX4 tyX4 tyX4_ok nmX4 hown hK.1 hP hD hS 1 rfl rfl 7 (by decide) (htb _ tg_393) (fun _ h9 => h9) rfl (by decide +kernel) rfl rfl (Nat.le_of_ble_eq_true rfl) dX4_parse_36 (fun H locs hP hD hS => ?_)
  obtain ⟨v1_13, ev1_13⟩ : ∃ z, z = sX4_place v1_11 x_12 := ⟨_, rfl⟩
  have hP : va_P D vwCl (WS_X4_parse cI cJ cZ cY a0 a1 a1_code a2 a2_kinds a2_starts a2_values n0 v0 v1_13 r_6) H := by rw [ev1_13]; exact hP
  have hD : va_D A (WS_X4_parse cI cJ cZ cY a0 a1 a1_code a2 a2_kinds a2_starts a2_values n0 v0 v1_13 r_6) := by rw [ev1_13]; exact hD
  have hg := g_lte hg v1_13 ev1_13
  refine lv_iconst (v := 0) hx hb dX4_parse_39 (by decide) ?_
  refine lv_istore_n (lv' := [(3, .int 0), (0, .ref a1), (1, .ref a0), (2, .int p1)]) hx hb dX4_parse_40 rfl hl (by decide) rfl (fun ls hl => ?_)
  exact b_41 fU 0 v1_13 r_6 H locs ls hP hD hS (lv_sub hl [1, 0] rfl) hg
