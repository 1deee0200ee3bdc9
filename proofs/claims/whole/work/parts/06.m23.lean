abbrev rS (d : Nat) : Room := { frames := 5 * d + 10, cells := 0, slots := 0, locals := 200 * d + 400 }
abbrev rO (d : Nat) : Room := { frames := 5 * d + 9, cells := 0, slots := 0, locals := 200 * d + 340 }
abbrev rB (d : Nat) : Room := { frames := 5 * d + 12, cells := 0, slots := 0, locals := 200 * d + 480 }
def WS_X4_sum (cI cJ cZ cY : ClassId) (a0 a0_code a1 a1_kinds a1_starts a1_values : Nat) (v0 : BX4) (v1 : BX9) : va_W := (GX4 cI cJ cZ cY a0 a0_code a1 v0) ++ ((GX9 cI cJ cZ cY a1 a1_kinds a1_starts a1_values v1))
def WS_X4_one (cI cJ cZ cY : ClassId) (a0 a0_code a1 a1_kinds a1_starts a1_values : Nat) (v0 : BX4) (v1 : BX9) : va_W := (GX4 cI cJ cZ cY a0 a0_code a1 v0) ++ ((GX9 cI cJ cZ cY a1 a1_kinds a1_starts a1_values v1))
/-! ManyEyes$Parser.bracketed()Z -/
def WS_X4_bracketed (cI cJ cZ cY : ClassId) (a0 a0_code a1 a1_kinds a1_starts a1_values : Nat) (v0 : BX4) (v1 : BX9) : va_W := (GX4 cI cJ cZ cY a0 a0_code a1 v0) ++ ((GX9 cI cJ cZ cY a1 a1_kinds a1_starts a1_values v1))
def fo_X4_bracketed (SUM : BX4 → BX9 → Option (Int32 × BX4 × BX9)) (v0 : BX4) (v1 : BX9) : Option (Int32 × BX4 × BX9) := (f_X4_enter v0 v1).bind (fun r_1 => if (r_1.1 : Int32) = 0 then (some (0, r_1.2.1, r_1.2.2)) else ((SUM r_1.2.1 r_1.2.2).bind (fun r_3 => if (r_3.1 : Int32) = 0 then (some (0, r_3.2.1, r_3.2.2)) else ((f_X4_expect r_3.2.1 r_3.2.2 41).bind (fun r_5 => if (r_5.1 : Int32) = 0 then (some (0, r_5.2.1, r_5.2.2)) else (g_lt (((pX4_open r_5.2.1) - 1) : Int32) (fun x_7 => g_lt (sX4_open r_5.2.1 x_7) (fun v0_8 => some (1, v0_8, r_5.2.2)))))))))
set_option maxHeartbeats 4000000 in
set_option maxRecDepth 100000 in
theorem ko_X4_bracketed {l : Launch} {D : va_G} {cI cJ cZ cY : ClassId} {tX tY : Nat} (d : Nat) (SUM : BX4 → BX9 → Option (Int32 × BX4 × BX9)) (hSUM : ∀ {sz : Nat} (a0 a0_code a1 a1_kinds a1_starts a1_values : Nat) (v0 : BX4) (v1 : BX9) (res : Int32 × BX4 × BX9), SUM v0 v1 = some res → Met l yX4_sum (Cond.code yX4_sum cX4_sum 6 (some .boolean) :: TB) (rS d) (PC D cI cJ cZ cY tX tY [.ref a0] (WS_X4_sum cI cJ cZ cY a0 a0_code a1 a1_kinds a1_starts a1_values v0 v1) sz) (va_Qi (fun (r : Int32) (u : BX4 × BX9) => r = res.1 ∧ u = res.2) (BC D (fun u : BX4 × BX9 => WS_X4_sum cI cJ cZ cY a0 a0_code a1 a1_kinds a1_starts a1_values u.1 u.2) (va_A (WS_X4_sum cI cJ cZ cY a0 a0_code a1 a1_kinds a1_starts a1_values v0 v1) sz)) (va_A (WS_X4_sum cI cJ cZ cY a0 a0_code a1 a1_kinds a1_starts a1_values v0 v1) sz)) 0 0 (va_A (WS_X4_sum cI cJ cZ cY a0 a0_code a1 a1_kinds a1_starts a1_values v0 v1) sz)) {sz : Nat} (a0 a0_code a1 a1_kinds a1_starts a1_values : Nat) (v0 : BX4) (v1 : BX9) (res : Int32 × BX4 × BX9) (hg : fo_X4_bracketed SUM v0 v1 = some res) : Met l yX4_bracketed (Cond.code yX4_bracketed cX4_bracketed 1 (some .boolean) :: TB) (rB d) (PC D cI cJ cZ cY tX tY [.ref a0] (WS_X4_bracketed cI cJ cZ cY a0 a0_code a1 a1_kinds a1_starts a1_values v0 v1) sz) (va_Qi (fun (r : Int32) (u : BX4 × BX9) => r = res.1 ∧ u = res.2) (BC D (fun u : BX4 × BX9 => WS_X4_bracketed cI cJ cZ cY a0 a0_code a1 a1_kinds a1_starts a1_values u.1 u.2) (va_A (WS_X4_bracketed cI cJ cZ cY a0 a0_code a1 a1_kinds a1_starts a1_values v0 v1) sz)) (va_A (WS_X4_bracketed cI cJ cZ cY a0 a0_code a1 a1_kinds a1_starts a1_values v0 v1) sz)) 0 0 (va_A (WS_X4_bracketed cI cJ cZ cY a0 a0_code a1 a1_kinds a1_starts a1_values v0 v1) sz) := by
  refine Met.ofW (cc := cX4_bracketed) (maxL := 1) (ret := (some .boolean)) (by decide) rfl ?_
  intro p e s m args below meth c s₁ B hml hv
  obtain ⟨hargs, hsz, hP, hK, hD0, hT⟩ := hv
  have hx := B.exec
  have hb := B.bytes
  have hr := B.returns
  have htb : ∀ w ∈ TB, w.before args s = true := fun w h => atoms_spec (ws := Cond.code yX4_bracketed cX4_bracketed 1 (some .boolean) :: TB) B.pre w (List.mem_cons_of_mem _ h)
  have hown : s.vm.findClass "ManyEyes$Parser" = some m.cls := findClass_of_methodNamed B.named
  have hlocks := B.notSynchronized
  subst hsz
  have hD := hD0.self (sz := s.heap.size)
  generalize hAe : va_A (WS_X4_bracketed cI cJ cZ cY a0 a0_code a1 a1_kinds a1_starts a1_values v0 v1) s.heap.size = A at hD hT ⊢
  have hA : ∀ q : Nat, s.heap.size ≤ q → A q := fun q h => by rw [← hAe]; exact Or.inr h
  have hS : va_S A s.heap s.heap [] := va_S.rf
  have hl := lv_entry ([.ref a0]) (n := 1) (Nat.le_of_ble_eq_true rfl)
  have he : entryFrame m args 1 = F0 m 0 (lg_sl ([.ref a0]) ++ List.replicate (1 - (lg_sl ([.ref a0])).length) Slot.unset).toArray [] := by rw [hargs, lg_entry_eq]
  rw [he]
  generalize (lg_sl ([.ref a0]) ++ List.replicate (1 - (lg_sl ([.ref a0])).length) Slot.unset).toArray = ls at hl ⊢
  have hl : lv_has ls 1 [(0, .ref a0)] := hl
  show W p l e (rB d) s m args below meth c s.heap [] 0 0 _ _
  refine W.genQ (fun Q hQ => ?_)
  generalize hHe : s.heap = H at hP ⊢
  have hS : va_S A s.heap H [] := by rw [← hHe]; exact va_S.rf
  generalize ([] : List Loc) = locs at hS ⊢
  unfold fo_X4_bracketed at hg
  refine lv_aload_n hx hb dX4_bracketed_0 rfl (lv_at hl 0 rfl) ?_
  obtain ⟨r_1, hr_1, hg⟩ := g_bd hg
  refine cc_i (va_runV (C := RX4) (As := []) (rest := []) ⟨hx, hb, hml, hown, htb⟩ (k_X4_enter a0 a0_code a1 a1_kinds a1_starts a1_values v0 v1 r_1 hr_1) (cw_V 0 htb tg_677 tg_11 tg_674 tg_676 ts_15 rfl rfl (by decide +kernel) (by constructor <;> (dsimp only [rS, rO, rB, rm_X4_enter]; omega))) ⟨PC.blind, va_recv hK.1 hP (ci := 3) (q0 := 0) rfl rfl, PC.pre hK hT hP hD hS hA [0, 1, 2, 3, 4, 5] rfl (by decide)⟩ rfl rfl hl.1 rfl (lv_room (Nat.le_of_ble_eq_true rfl)) dX4_bracketed_1 ⟨Nat.le_of_ble_eq_true rfl, Nat.le_of_ble_eq_true rfl⟩) hP hD hS hA [0, 1, 2, 3, 4, 5] [] rfl rfl (by decide) (by decide) (fun r9 u9 H locs hw hP hD hS => ?_)
  obtain ⟨rfl, rfl⟩ := hw
  have hP : va_P D vwCl (WS_X4_bracketed cI cJ cZ cY a0 a0_code a1 a1_kinds a1_starts a1_values r_1.2.1 r_1.2.2) H := hP.sub [0, 1, 2, 3, 4, 5] rfl
  have hD : va_D A (WS_X4_bracketed cI cJ cZ cY a0 a0_code a1 a1_kinds a1_starts a1_values r_1.2.1 r_1.2.2) := hD.sub [0, 1, 2, 3, 4, 5] (by decide) rfl
  refine lv_if_eq (tgt := 23) hx hb dX4_bracketed_4 (by decide) (fun c_2 => ?_) (fun c_2 => ?_)
  · have hg := g_it hg c_2
    refine lv_iconst (v := 0) hx hb dX4_bracketed_23 (by decide) ?_
    have hg := Option.some.inj hg
    rw [hQ]
    exact W.zret (v := 0) (ty := .boolean) hx hb hr rfl (fun t ht hW => ⟨⟨0, (r_1.2.1, r_1.2.2), rfl, ⟨by rw [← hg], by rw [← hg]⟩, by rw [ht]; exact hP, hD⟩, hS.F ht⟩) hS.2.2 dX4_bracketed_24
  · have hg := g_if hg c_2
    refine lv_aload_n hx hb dX4_bracketed_7 rfl (lv_at hl 0 rfl) ?_
    obtain ⟨r_3, hr_3, hg⟩ := g_bd hg
    refine cc_i (va_runV (C := RX4) (As := []) (rest := []) ⟨hx, hb, hml, hown, htb⟩ (hSUM a0 a0_code a1 a1_kinds a1_starts a1_values r_1.2.1 r_1.2.2 r_3 hr_3) (cw_V 0 htb tg_653 tg_11 tg_650 tg_652 ts_9 rfl rfl (by decide +kernel) (by constructor <;> (dsimp only [rS, rO, rB]; omega))) ⟨PC.blind, va_recv hK.1 hP (ci := 3) (q0 := 0) rfl rfl, PC.pre hK hT hP hD hS hA [0, 1, 2, 3, 4, 5] rfl (by decide)⟩ rfl rfl hl.1 rfl (lv_room (Nat.le_of_ble_eq_true rfl)) dX4_bracketed_8 ⟨Nat.le_of_ble_eq_true rfl, Nat.le_of_ble_eq_true rfl⟩) hP hD hS hA [0, 1, 2, 3, 4, 5] [] rfl rfl (by decide) (by decide) (fun r9 u9 H locs hw hP hD hS => ?_)
    obtain ⟨rfl, rfl⟩ := hw
    have hP : va_P D vwCl (WS_X4_bracketed cI cJ cZ cY a0 a0_code a1 a1_kinds a1_starts a1_values r_3.2.1 r_3.2.2) H := hP.sub [0, 1, 2, 3, 4, 5] rfl
    have hD : va_D A (WS_X4_bracketed cI cJ cZ cY a0 a0_code a1 a1_kinds a1_starts a1_values r_3.2.1 r_3.2.2) := hD.sub [0, 1, 2, 3, 4, 5] (by decide) rfl
    refine lv_if_eq (tgt := 23) hx hb dX4_bracketed_11 (by decide) (fun c_4 => ?_) (fun c_4 => ?_)
    · have hg := g_it hg c_4
      refine lv_iconst (v := 0) hx hb dX4_bracketed_23 (by decide) ?_
      have hg := Option.some.inj hg
      rw [hQ]
      exact W.zret (v := 0) (ty := .boolean) hx hb hr rfl (fun t ht hW => ⟨⟨0, (r_3.2.1, r_3.2.2), rfl, ⟨by rw [← hg], by rw [← hg]⟩, by rw [ht]; exact hP, hD⟩, hS.F ht⟩) hS.2.2 dX4_bracketed_24
    · have hg := g_if hg c_4
      refine lv_aload_n hx hb dX4_bracketed_14 rfl (lv_at hl 0 rfl) ?_
      refine lv_bipush (v := 41) hx hb dX4_bracketed_15 (by decide) ?_
      obtain ⟨r_5, hr_5, hg⟩ := g_bd hg
      refine cc_i (va_runV (C := RX4) (As := [.int 41]) (rest := []) ⟨hx, hb, hml, hown, htb⟩ (k_X4_expect a0 a0_code a1 a1_kinds a1_starts a1_values r_3.2.1 r_3.2.2 41 r_5 hr_5) (cw_V 1 htb tg_681 tg_11 tg_678 tg_680 ts_16 rfl rfl (by decide +kernel) (by constructor <;> (dsimp only [rS, rO, rB, rm_X4_expect]; omega))) ⟨PC.blind, va_recv hK.1 hP (ci := 3) (q0 := 0) rfl rfl, PC.pre hK hT hP hD hS hA [0, 1, 2, 3, 4, 5] rfl (by decide)⟩ rfl rfl hl.1 rfl (lv_room (Nat.le_of_ble_eq_true rfl)) dX4_bracketed_17 ⟨Nat.le_of_ble_eq_true rfl, Nat.le_of_ble_eq_true rfl⟩) hP hD hS hA [0, 1, 2, 3, 4, 5] [] rfl rfl (by decide) (by decide) (fun r9 u9 H locs hw hP hD hS => ?_)
      obtain ⟨rfl, rfl⟩ := hw
      have hP : va_P D vwCl (WS_X4_bracketed cI cJ cZ cY a0 a0_code a1 a1_kinds a1_starts a1_values r_5.2.1 r_5.2.2) H := hP.sub [0, 1, 2, 3, 4, 5] rfl
      have hD : va_D A (WS_X4_bracketed cI cJ cZ cY a0 a0_code a1 a1_kinds a1_starts a1_values r_5.2.1 r_5.2.2) := hD.sub [0, 1, 2, 3, 4, 5] (by decide) rfl
      refine lv_if_ne (tgt := 25) hx hb dX4_bracketed_20 (by decide) (fun c_6 => ?_) (fun c_6 => ?_)
      · have hg := g_if hg c_6
        refine lv_aload_n hx hb dX4_bracketed_25 rfl (lv_at hl 0 rfl) ?_
        refine lv_dup hx hb dX4_bracketed_26 rfl ?_
        refine va_get (ci := 3) (v := .int (pX4_open r_5.2.1)) (C := RX4) (T := TX4) (N := 8) hx hb htb uX4 hown hK.1 hP 0 rfl rfl 3 (by decide) (htb _ tg_388) (fun _ h9 => h9) rfl dX4_bracketed_27 ?_
        refine lv_iconst (v := 1) hx hb dX4_bracketed_30 (by decide) ?_
        refine lv_isub hx hb dX4_bracketed_31 ?_
        refine lv_topi (fun x_7 ex_7 => ?_)
        have hg := g_lte hg x_7 ex_7
        refine va_put (ci := 3) (v := .int x_7) (ty := .int) (C := RX4) (T := TX4) (N := 8) hx hb htb uX4 tyX4 tyX4_ok nmX4 hown hK.1 hP hD hS 0 rfl rfl 3 (by decide) (htb _ tg_388) (fun _ h9 => h9) rfl (by decide +kernel) rfl rfl (Nat.le_of_ble_eq_true rfl) dX4_bracketed_32 (fun H locs hP hD hS => ?_)
        obtain ⟨v0_8, ev0_8⟩ : ∃ z, z = sX4_open r_5.2.1 x_7 := ⟨_, rfl⟩
        have hP : va_P D vwCl (WS_X4_bracketed cI cJ cZ cY a0 a0_code a1 a1_kinds a1_starts a1_values v0_8 r_5.2.2) H := by rw [ev0_8]; exact hP
        have hD : va_D A (WS_X4_bracketed cI cJ cZ cY a0 a0_code a1 a1_kinds a1_starts a1_values v0_8 r_5.2.2) := by rw [ev0_8]; exact hD
        have hg := g_lte hg v0_8 ev0_8
        refine lv_iconst (v := 1) hx hb dX4_bracketed_35 (by decide) ?_
        have hg := Option.some.inj hg
        rw [hQ]
        exact W.zret (v := 1) (ty := .boolean) hx hb hr rfl (fun t ht hW => ⟨⟨1, (v0_8, r_5.2.2), rfl, ⟨by rw [← hg], by rw [← hg]⟩, by rw [ht]; exact hP, hD⟩, hS.F ht⟩) hS.2.2 dX4_bracketed_36
      · have hg := g_it hg c_6
        refine lv_iconst (v := 0) hx hb dX4_bracketed_23 (by decide) ?_
        have hg := Option.some.inj hg
        rw [hQ]
        exact W.zret (v := 0) (ty := .boolean) hx hb hr rfl (fun t ht hW => ⟨⟨0, (r_5.2.1, r_5.2.2), rfl, ⟨by rw [← hg], by rw [← hg]⟩, by rw [ht]; exact hP, hD⟩, hS.F ht⟩) hS.2.2 dX4_bracketed_24

/-! ManyEyes$Parser.negated()Z -/
def WS_X4_negated (cI cJ cZ cY : ClassId) (a0 a0_code a1 a1_kinds a1_starts a1_values : Nat) (v0 : BX4) (v1 : BX9) : va_W := (GX4 cI cJ cZ cY a0 a0_code a1 v0) ++ ((GX9 cI cJ cZ cY a1 a1_kinds a1_starts a1_values v1))
def fo_X4_negated (ONE : BX4 → BX9 → Option (Int32 × BX4 × BX9)) (v0 : BX4) (v1 : BX9) : Option (Int32 × BX4 × BX9) := (f_X4_enter v0 v1).bind (fun r_1 => if (r_1.1 : Int32) = 0 then (some (0, r_1.2.1, r_1.2.2)) else ((ONE r_1.2.1 r_1.2.2).bind (fun r_3 => if (r_3.1 : Int32) = 0 then (some (0, r_3.2.1, r_3.2.2)) else (g_lt (((pX4_open r_3.2.1) - 1) : Int32) (fun x_5 => g_lt (sX4_open r_3.2.1 x_5) (fun v0_6 => (f_X4_emit v0_6 5 0).bind (fun r_7 => some (1, r_7, r_3.2.2))))))))
set_option maxHeartbeats 4000000 in
set_option maxRecDepth 100000 in
theorem ko_X4_negated {l : Launch} {D : va_G} {cI cJ cZ cY : ClassId} {tX tY : Nat} (d : Nat) (ONE : BX4 → BX9 → Option (Int32 × BX4 × BX9)) (hONE : ∀ {sz : Nat} (a0 a0_code a1 a1_kinds a1_starts a1_values : Nat) (v0 : BX4) (v1 : BX9) (res : Int32 × BX4 × BX9), ONE v0 v1 = some res → Met l yX4_one (Cond.code yX4_one cX4_one 1 (some .boolean) :: TB) (rO d) (PC D cI cJ cZ cY tX tY [.ref a0] (WS_X4_one cI cJ cZ cY a0 a0_code a1 a1_kinds a1_starts a1_values v0 v1) sz) (va_Qi (fun (r : Int32) (u : BX4 × BX9) => r = res.1 ∧ u = res.2) (BC D (fun u : BX4 × BX9 => WS_X4_one cI cJ cZ cY a0 a0_code a1 a1_kinds a1_starts a1_values u.1 u.2) (va_A (WS_X4_one cI cJ cZ cY a0 a0_code a1 a1_kinds a1_starts a1_values v0 v1) sz)) (va_A (WS_X4_one cI cJ cZ cY a0 a0_code a1 a1_kinds a1_starts a1_values v0 v1) sz)) 0 0 (va_A (WS_X4_one cI cJ cZ cY a0 a0_code a1 a1_kinds a1_starts a1_values v0 v1) sz)) {sz : Nat} (a0 a0_code a1 a1_kinds a1_starts a1_values : Nat) (v0 : BX4) (v1 : BX9) (res : Int32 × BX4 × BX9) (hg : fo_X4_negated ONE v0 v1 = some res) : Met l yX4_negated (Cond.code yX4_negated cX4_negated 1 (some .boolean) :: TB) (rB d) (PC D cI cJ cZ cY tX tY [.ref a0] (WS_X4_negated cI cJ cZ cY a0 a0_code a1 a1_kinds a1_starts a1_values v0 v1) sz) (va_Qi (fun (r : Int32) (u : BX4 × BX9) => r = res.1 ∧ u = res.2) (BC D (fun u : BX4 × BX9 => WS_X4_negated cI cJ cZ cY a0 a0_code a1 a1_kinds a1_starts a1_values u.1 u.2) (va_A (WS_X4_negated cI cJ cZ cY a0 a0_code a1 a1_kinds a1_starts a1_values v0 v1) sz)) (va_A (WS_X4_negated cI cJ cZ cY a0 a0_code a1 a1_kinds a1_starts a1_values v0 v1) sz)) 0 0 (va_A (WS_X4_negated cI cJ cZ cY a0 a0_code a1 a1_kinds a1_starts a1_values v0 v1) sz) := by
  refine Met.ofW (cc := cX4_negated) (maxL := 1) (ret := (some .boolean)) (by decide) rfl ?_
  intro p e s m args below meth c s₁ B hml hv
  obtain ⟨hargs, hsz, hP, hK, hD0, hT⟩ := hv
  have hx := B.exec
  have hb := B.bytes
  have hr := B.returns
  have htb : ∀ w ∈ TB, w.before args s = true := fun w h => atoms_spec (ws := Cond.code yX4_negated cX4_negated 1 (some .boolean) :: TB) B.pre w (List.mem_cons_of_mem _ h)
  have hown : s.vm.findClass "ManyEyes$Parser" = some m.cls := findClass_of_methodNamed B.named
  have hlocks := B.notSynchronized
  subst hsz
  have hD := hD0.self (sz := s.heap.size)
  generalize hAe : va_A (WS_X4_negated cI cJ cZ cY a0 a0_code a1 a1_kinds a1_starts a1_values v0 v1) s.heap.size = A at hD hT ⊢
  have hA : ∀ q : Nat, s.heap.size ≤ q → A q := fun q h => by rw [← hAe]; exact Or.inr h
  have hS : va_S A s.heap s.heap [] := va_S.rf
  have hl := lv_entry ([.ref a0]) (n := 1) (Nat.le_of_ble_eq_true rfl)
  have he : entryFrame m args 1 = F0 m 0 (lg_sl ([.ref a0]) ++ List.replicate (1 - (lg_sl ([.ref a0])).length) Slot.unset).toArray [] := by rw [hargs, lg_entry_eq]
  rw [he]
  generalize (lg_sl ([.ref a0]) ++ List.replicate (1 - (lg_sl ([.ref a0])).length) Slot.unset).toArray = ls at hl ⊢
  have hl : lv_has ls 1 [(0, .ref a0)] := hl
  show W p l e (rB d) s m args below meth c s.heap [] 0 0 _ _
  refine W.genQ (fun Q hQ => ?_)
  generalize hHe : s.heap = H at hP ⊢
  have hS : va_S A s.heap H [] := by rw [← hHe]; exact va_S.rf
  generalize ([] : List Loc) = locs at hS ⊢
  unfold fo_X4_negated at hg
  refine lv_aload_n hx hb dX4_negated_0 rfl (lv_at hl 0 rfl) ?_
  obtain ⟨r_1, hr_1, hg⟩ := g_bd hg
  refine cc_i (va_runV (C := RX4) (As := []) (rest := []) ⟨hx, hb, hml, hown, htb⟩ (k_X4_enter a0 a0_code a1 a1_kinds a1_starts a1_values v0 v1 r_1 hr_1) (cw_V 0 htb tg_677 tg_11 tg_674 tg_676 ts_15 rfl rfl (by decide +kernel) (by constructor <;> (dsimp only [rS, rO, rB, rm_X4_enter]; omega))) ⟨PC.blind, va_recv hK.1 hP (ci := 3) (q0 := 0) rfl rfl, PC.pre hK hT hP hD hS hA [0, 1, 2, 3, 4, 5] rfl (by decide)⟩ rfl rfl hl.1 rfl (lv_room (Nat.le_of_ble_eq_true rfl)) dX4_negated_1 ⟨Nat.le_of_ble_eq_true rfl, Nat.le_of_ble_eq_true rfl⟩) hP hD hS hA [0, 1, 2, 3, 4, 5] [] rfl rfl (by decide) (by decide) (fun r9 u9 H locs hw hP hD hS => ?_)
  obtain ⟨rfl, rfl⟩ := hw
  have hP : va_P D vwCl (WS_X4_negated cI cJ cZ cY a0 a0_code a1 a1_kinds a1_starts a1_values r_1.2.1 r_1.2.2) H := hP.sub [0, 1, 2, 3, 4, 5] rfl
  have hD : va_D A (WS_X4_negated cI cJ cZ cY a0 a0_code a1 a1_kinds a1_starts a1_values r_1.2.1 r_1.2.2) := hD.sub [0, 1, 2, 3, 4, 5] (by decide) rfl
  refine lv_if_eq (tgt := 14) hx hb dX4_negated_4 (by decide) (fun c_2 => ?_) (fun c_2 => ?_)
  · have hg := g_it hg c_2
    refine lv_iconst (v := 0) hx hb dX4_negated_14 (by decide) ?_
    have hg := Option.some.inj hg
    rw [hQ]
    exact W.zret (v := 0) (ty := .boolean) hx hb hr rfl (fun t ht hW => ⟨⟨0, (r_1.2.1, r_1.2.2), rfl, ⟨by rw [← hg], by rw [← hg]⟩, by rw [ht]; exact hP, hD⟩, hS.F ht⟩) hS.2.2 dX4_negated_15
  · have hg := g_if hg c_2
    refine lv_aload_n hx hb dX4_negated_7 rfl (lv_at hl 0 rfl) ?_
    obtain ⟨r_3, hr_3, hg⟩ := g_bd hg
    refine cc_i (va_runV (C := RX4) (As := []) (rest := []) ⟨hx, hb, hml, hown, htb⟩ (hONE a0 a0_code a1 a1_kinds a1_starts a1_values r_1.2.1 r_1.2.2 r_3 hr_3) (cw_V 0 htb tg_657 tg_11 tg_654 tg_656 ts_10 rfl rfl (by decide +kernel) (by constructor <;> (dsimp only [rS, rO, rB]; omega))) ⟨PC.blind, va_recv hK.1 hP (ci := 3) (q0 := 0) rfl rfl, PC.pre hK hT hP hD hS hA [0, 1, 2, 3, 4, 5] rfl (by decide)⟩ rfl rfl hl.1 rfl (lv_room (Nat.le_of_ble_eq_true rfl)) dX4_negated_8 ⟨Nat.le_of_ble_eq_true rfl, Nat.le_of_ble_eq_true rfl⟩) hP hD hS hA [0, 1, 2, 3, 4, 5] [] rfl rfl (by decide) (by decide) (fun r9 u9 H locs hw hP hD hS => ?_)
    obtain ⟨rfl, rfl⟩ := hw
    have hP : va_P D vwCl (WS_X4_negated cI cJ cZ cY a0 a0_code a1 a1_kinds a1_starts a1_values r_3.2.1 r_3.2.2) H := hP.sub [0, 1, 2, 3, 4, 5] rfl
    have hD : va_D A (WS_X4_negated cI cJ cZ cY a0 a0_code a1 a1_kinds a1_starts a1_values r_3.2.1 r_3.2.2) := hD.sub [0, 1, 2, 3, 4, 5] (by decide) rfl
    refine lv_if_ne (tgt := 16) hx hb dX4_negated_11 (by decide) (fun c_4 => ?_) (fun c_4 => ?_)
    · have hg := g_if hg c_4
      refine lv_aload_n hx hb dX4_negated_16 rfl (lv_at hl 0 rfl) ?_
      refine lv_dup hx hb dX4_negated_17 rfl ?_
      refine va_get (ci := 3) (v := .int (pX4_open r_3.2.1)) (C := RX4) (T := TX4) (N := 8) hx hb htb uX4 hown hK.1 hP 0 rfl rfl 3 (by decide) (htb _ tg_388) (fun _ h9 => h9) rfl dX4_negated_18 ?_
      refine lv_iconst (v := 1) hx hb dX4_negated_21 (by decide) ?_
      refine lv_isub hx hb dX4_negated_22 ?_
      refine lv_topi (fun x_5 ex_5 => ?_)
      have hg := g_lte hg x_5 ex_5
      refine va_put (ci := 3) (v := .int x_5) (ty := .int) (C := RX4) (T := TX4) (N := 8) hx hb htb uX4 tyX4 tyX4_ok nmX4 hown hK.1 hP hD hS 0 rfl rfl 3 (by decide) (htb _ tg_388) (fun _ h9 => h9) rfl (by decide +kernel) rfl rfl (Nat.le_of_ble_eq_true rfl) dX4_negated_23 (fun H locs hP hD hS => ?_)
      obtain ⟨v0_6, ev0_6⟩ : ∃ z, z = sX4_open r_3.2.1 x_5 := ⟨_, rfl⟩
      have hP : va_P D vwCl (WS_X4_negated cI cJ cZ cY a0 a0_code a1 a1_kinds a1_starts a1_values v0_6 r_3.2.2) H := by rw [ev0_6]; exact hP
      have hD : va_D A (WS_X4_negated cI cJ cZ cY a0 a0_code a1 a1_kinds a1_starts a1_values v0_6 r_3.2.2) := by rw [ev0_6]; exact hD
      have hg := g_lte hg v0_6 ev0_6
      refine lv_aload_n hx hb dX4_negated_26 rfl (lv_at hl 0 rfl) ?_
      refine lv_iconst (v := 5) hx hb dX4_negated_27 (by decide) ?_
      refine lv_iconst (v := 0) hx hb dX4_negated_28 (by decide) ?_
      obtain ⟨r_7, hr_7, hg⟩ := g_bd hg
      refine cc_v (va_runV (C := RX4) (As := [.int 5, .int 0]) (rest := []) ⟨hx, hb, hml, hown, htb⟩ (k_X4_emit a0 a0_code a1 v0_6 5 0 r_7 hr_7) (cw_V 2 htb tg_665 tg_11 tg_662 tg_664 ts_12 rfl rfl (by decide +kernel) (by constructor <;> (dsimp only [rS, rO, rB, rm_X4_emit]; omega))) ⟨PC.blind, va_recv hK.1 hP (ci := 3) (q0 := 0) rfl rfl, PC.pre hK hT hP hD hS hA [0, 1] rfl (by decide)⟩ rfl rfl hl.1 rfl (lv_room (Nat.le_of_ble_eq_true rfl)) dX4_negated_29 ⟨Nat.le_of_ble_eq_true rfl, Nat.le_of_ble_eq_true rfl⟩) hP hD hS hA [0, 1] [2, 3, 4, 5] rfl rfl (by decide) (by decide) (fun u9 H locs hw hP hD hS => ?_)
      have hw := hw.symm
      subst hw
      have hP : va_P D vwCl (WS_X4_negated cI cJ cZ cY a0 a0_code a1 a1_kinds a1_starts a1_values r_7 r_3.2.2) H := hP.sub [4, 5, 0, 1, 2, 3] rfl
      have hD : va_D A (WS_X4_negated cI cJ cZ cY a0 a0_code a1 a1_kinds a1_starts a1_values r_7 r_3.2.2) := hD.sub [4, 5, 0, 1, 2, 3] (by decide) rfl
      refine lv_iconst (v := 1) hx hb dX4_negated_32 (by decide) ?_
      have hg := Option.some.inj hg
      rw [hQ]
      exact W.zret (v := 1) (ty := .boolean) hx hb hr rfl (fun t ht hW => ⟨⟨1, (r_7, r_3.2.2), rfl, ⟨by rw [← hg], by rw [← hg]⟩, by rw [ht]; exact hP, hD⟩, hS.F ht⟩) hS.2.2 dX4_negated_33
    · have hg := g_it hg c_4
      refine lv_iconst (v := 0) hx hb dX4_negated_14 (by decide) ?_
      have hg := Option.some.inj hg
      rw [hQ]
      exact W.zret (v := 0) (ty := .boolean) hx hb hr rfl (fun t ht hW => ⟨⟨0, (r_3.2.1, r_3.2.2), rfl, ⟨by rw [← hg], by rw [← hg]⟩, by rw [ht]; exact hP, hD⟩, hS.F ht⟩) hS.2.2 dX4_negated_15

/-! ManyEyes$Parser.chosen(I)Z -/
def WS_X4_chosen (cI cJ cZ cY : ClassId) (a0 a0_code a1 a1_kinds a1_starts a1_values : Nat) (v0 : BX4) (v1 : BX9) : va_W := (GX4 cI cJ cZ cY a0 a0_code a1 v0) ++ ((GX9 cI cJ cZ cY a1 a1_kinds a1_starts a1_values v1))
def fo_X4_chosen (SUM : BX4 → BX9 → Option (Int32 × BX4 × BX9)) (v0 : BX4) (v1 : BX9) (p0 : Int32) : Option (Int32 × BX4 × BX9) := if ((pX9_kind v1) : Int32) = 40 then ((f_X4_enter v0 v1).bind (fun r_2 => if (r_2.1 : Int32) = 0 then (some (0, r_2.2.1, r_2.2.2)) else ((SUM r_2.2.1 r_2.2.2).bind (fun r_4 => if (r_4.1 : Int32) = 0 then (some (0, r_4.2.1, r_4.2.2)) else ((f_X4_expect r_4.2.1 r_4.2.2 44).bind (fun r_6 => if (r_6.1 : Int32) = 0 then (some (0, r_6.2.1, r_6.2.2)) else ((SUM r_6.2.1 r_6.2.2).bind (fun r_8 => if (r_8.1 : Int32) = 0 then (some (0, r_8.2.1, r_8.2.2)) else ((f_X4_expect r_8.2.1 r_8.2.2 41).bind (fun r_10 => if (r_10.1 : Int32) = 0 then (some (0, r_10.2.1, r_10.2.2)) else (g_lt (((pX4_open r_10.2.1) - 1) : Int32) (fun x_12 => g_lt (sX4_open r_10.2.1 x_12) (fun v0_13 => (f_X4_emit v0_13 p0 0).bind (fun r_14 => some (1, r_14, r_10.2.2))))))))))))))) else ((f_X4_refuse v0 v1 1).bind (fun r_15 => g_gd (r_15.1 = 0 ∨ r_15.1 = 1) (some (r_15.1, r_15.2, v1))))
set_option maxHeartbeats 4000000 in
set_option maxRecDepth 100000 in
theorem ko_X4_chosen {l : Launch} {D : va_G} {cI cJ cZ cY : ClassId} {tX tY : Nat} (d : Nat) (SUM : BX4 → BX9 → Option (Int32 × BX4 × BX9)) (hSUM : ∀ {sz : Nat} (a0 a0_code a1 a1_kinds a1_starts a1_values : Nat) (v0 : BX4) (v1 : BX9) (res : Int32 × BX4 × BX9), SUM v0 v1 = some res → Met l yX4_sum (Cond.code yX4_sum cX4_sum 6 (some .boolean) :: TB) (rS d) (PC D cI cJ cZ cY tX tY [.ref a0] (WS_X4_sum cI cJ cZ cY a0 a0_code a1 a1_kinds a1_starts a1_values v0 v1) sz) (va_Qi (fun (r : Int32) (u : BX4 × BX9) => r = res.1 ∧ u = res.2) (BC D (fun u : BX4 × BX9 => WS_X4_sum cI cJ cZ cY a0 a0_code a1 a1_kinds a1_starts a1_values u.1 u.2) (va_A (WS_X4_sum cI cJ cZ cY a0 a0_code a1 a1_kinds a1_starts a1_values v0 v1) sz)) (va_A (WS_X4_sum cI cJ cZ cY a0 a0_code a1 a1_kinds a1_starts a1_values v0 v1) sz)) 0 0 (va_A (WS_X4_sum cI cJ cZ cY a0 a0_code a1 a1_kinds a1_starts a1_values v0 v1) sz)) {sz : Nat} (a0 a0_code a1 a1_kinds a1_starts a1_values : Nat) (v0 : BX4) (v1 : BX9) (p0 : Int32) (res : Int32 × BX4 × BX9) (hg : fo_X4_chosen SUM v0 v1 p0 = some res) : Met l yX4_chosen (Cond.code yX4_chosen cX4_chosen 2 (some .boolean) :: TB) (rB d) (PC D cI cJ cZ cY tX tY [.ref a0, .int p0] (WS_X4_chosen cI cJ cZ cY a0 a0_code a1 a1_kinds a1_starts a1_values v0 v1) sz) (va_Qi (fun (r : Int32) (u : BX4 × BX9) => r = res.1 ∧ u = res.2) (BC D (fun u : BX4 × BX9 => WS_X4_chosen cI cJ cZ cY a0 a0_code a1 a1_kinds a1_starts a1_values u.1 u.2) (va_A (WS_X4_chosen cI cJ cZ cY a0 a0_code a1 a1_kinds a1_starts a1_values v0 v1) sz)) (va_A (WS_X4_chosen cI cJ cZ cY a0 a0_code a1 a1_kinds a1_starts a1_values v0 v1) sz)) 0 0 (va_A (WS_X4_chosen cI cJ cZ cY a0 a0_code a1 a1_kinds a1_starts a1_values v0 v1) sz) := by
  refine Met.ofW (cc := cX4_chosen) (maxL := 2) (ret := (some .boolean)) (by decide) rfl ?_
  intro p e s m args below meth c s₁ B hml hv
  obtain ⟨hargs, hsz, hP, hK, hD0, hT⟩ := hv
  have hx := B.exec
  have hb := B.bytes
  have hr := B.returns
  have htb : ∀ w ∈ TB, w.before args s = true := fun w h => atoms_spec (ws := Cond.code yX4_chosen cX4_chosen 2 (some .boolean) :: TB) B.pre w (List.mem_cons_of_mem _ h)
  have hown : s.vm.findClass "ManyEyes$Parser" = some m.cls := findClass_of_methodNamed B.named
  have hlocks := B.notSynchronized
  subst hsz
  have hD := hD0.self (sz := s.heap.size)
  generalize hAe : va_A (WS_X4_chosen cI cJ cZ cY a0 a0_code a1 a1_kinds a1_starts a1_values v0 v1) s.heap.size = A at hD hT ⊢
  have hA : ∀ q : Nat, s.heap.size ≤ q → A q := fun q h => by rw [← hAe]; exact Or.inr h
  have hS : va_S A s.heap s.heap [] := va_S.rf
  have hl := lv_entry ([.ref a0, .int p0]) (n := 2) (Nat.le_of_ble_eq_true rfl)
  have he : entryFrame m args 2 = F0 m 0 (lg_sl ([.ref a0, .int p0]) ++ List.replicate (2 - (lg_sl ([.ref a0, .int p0])).length) Slot.unset).toArray [] := by rw [hargs, lg_entry_eq]
  rw [he]
  generalize (lg_sl ([.ref a0, .int p0]) ++ List.replicate (2 - (lg_sl ([.ref a0, .int p0])).length) Slot.unset).toArray = ls at hl ⊢
  have hl : lv_has ls 2 [(0, .ref a0), (1, .int p0)] := hl
  show W p l e (rB d) s m args below meth c s.heap [] 0 0 _ _
  refine W.genQ (fun Q hQ => ?_)
  generalize hHe : s.heap = H at hP ⊢
  have hS : va_S A s.heap H [] := by rw [← hHe]; exact va_S.rf
  generalize ([] : List Loc) = locs at hS ⊢
  unfold fo_X4_chosen at hg
  refine lv_aload_n hx hb dX4_chosen_0 rfl (lv_at hl 0 rfl) ?_
  refine va_get (ci := 3) (v := .ref a1) (C := RX4) (T := TX4) (N := 8) hx hb htb uX4 hown hK.1 hP 0 rfl rfl 0 (by decide) (htb _ tg_385) (fun _ h9 => h9) rfl dX4_chosen_1 ?_
  refine va_get (ci := 8) (v := .int (pX9_kind v1)) (C := RX9) (T := TX9) (N := 8) hx hb htb uX9 hown hK.1 hP 2 rfl rfl 5 (by decide) (htb _ tg_362) (fun _ h9 => h9) rfl dX4_chosen_4 ?_
  refine lv_bipush (v := 40) hx hb dX4_chosen_7 (by decide) ?_
  refine lv_icmp_eq (tgt := 18) hx hb dX4_chosen_9 (by decide) (fun c_1 => ?_) (fun c_1 => ?_)
  · have hg := g_it hg c_1
    refine lv_aload_n hx hb dX4_chosen_18 rfl (lv_at hl 0 rfl) ?_
    obtain ⟨r_2, hr_2, hg⟩ := g_bd hg
    refine cc_i (va_runV (C := RX4) (As := []) (rest := []) ⟨hx, hb, hml, hown, htb⟩ (k_X4_enter a0 a0_code a1 a1_kinds a1_starts a1_values v0 v1 r_2 hr_2) (cw_V 0 htb tg_677 tg_11 tg_674 tg_676 ts_15 rfl rfl (by decide +kernel) (by constructor <;> (dsimp only [rS, rO, rB, rm_X4_enter]; omega))) ⟨PC.blind, va_recv hK.1 hP (ci := 3) (q0 := 0) rfl rfl, PC.pre hK hT hP hD hS hA [0, 1, 2, 3, 4, 5] rfl (by decide)⟩ rfl rfl hl.1 rfl (lv_room (Nat.le_of_ble_eq_true rfl)) dX4_chosen_19 ⟨Nat.le_of_ble_eq_true rfl, Nat.le_of_ble_eq_true rfl⟩) hP hD hS hA [0, 1, 2, 3, 4, 5] [] rfl rfl (by decide) (by decide) (fun r9 u9 H locs hw hP hD hS => ?_)
    obtain ⟨rfl, rfl⟩ := hw
    have hP : va_P D vwCl (WS_X4_chosen cI cJ cZ cY a0 a0_code a1 a1_kinds a1_starts a1_values r_2.2.1 r_2.2.2) H := hP.sub [0, 1, 2, 3, 4, 5] rfl
    have hD : va_D A (WS_X4_chosen cI cJ cZ cY a0 a0_code a1 a1_kinds a1_starts a1_values r_2.2.1 r_2.2.2) := hD.sub [0, 1, 2, 3, 4, 5] (by decide) rfl
    refine lv_if_eq (tgt := 57) hx hb dX4_chosen_22 (by decide) (fun c_3 => ?_) (fun c_3 => ?_)
    · have hg := g_it hg c_3
      refine lv_iconst (v := 0) hx hb dX4_chosen_57 (by decide) ?_
      have hg := Option.some.inj hg
      rw [hQ]
      exact W.zret (v := 0) (ty := .boolean) hx hb hr rfl (fun t ht hW => ⟨⟨0, (r_2.2.1, r_2.2.2), rfl, ⟨by rw [← hg], by rw [← hg]⟩, by rw [ht]; exact hP, hD⟩, hS.F ht⟩) hS.2.2 dX4_chosen_58
    · have hg := g_if hg c_3
      refine lv_aload_n hx hb dX4_chosen_25 rfl (lv_at hl 0 rfl) ?_
      obtain ⟨r_4, hr_4, hg⟩ := g_bd hg
      refine cc_i (va_runV (C := RX4) (As := []) (rest := []) ⟨hx, hb, hml, hown, htb⟩ (hSUM a0 a0_code a1 a1_kinds a1_starts a1_values r_2.2.1 r_2.2.2 r_4 hr_4) (cw_V 0 htb tg_653 tg_11 tg_650 tg_652 ts_9 rfl rfl (by decide +kernel) (by constructor <;> (dsimp only [rS, rO, rB]; omega))) ⟨PC.blind, va_recv hK.1 hP (ci := 3) (q0 := 0) rfl rfl, PC.pre hK hT hP hD hS hA [0, 1, 2, 3, 4, 5] rfl (by decide)⟩ rfl rfl hl.1 rfl (lv_room (Nat.le_of_ble_eq_true rfl)) dX4_chosen_26 ⟨Nat.le_of_ble_eq_true rfl, Nat.le_of_ble_eq_true rfl⟩) hP hD hS hA [0, 1, 2, 3, 4, 5] [] rfl rfl (by decide) (by decide) (fun r9 u9 H locs hw hP hD hS => ?_)
      obtain ⟨rfl, rfl⟩ := hw
      have hP : va_P D vwCl (WS_X4_chosen cI cJ cZ cY a0 a0_code a1 a1_kinds a1_starts a1_values r_4.2.1 r_4.2.2) H := hP.sub [0, 1, 2, 3, 4, 5] rfl
      have hD : va_D A (WS_X4_chosen cI cJ cZ cY a0 a0_code a1 a1_kinds a1_starts a1_values r_4.2.1 r_4.2.2) := hD.sub [0, 1, 2, 3, 4, 5] (by decide) rfl
      refine lv_if_eq (tgt := 57) hx hb dX4_chosen_29 (by decide) (fun c_5 => ?_) (fun c_5 => ?_)
      · have hg := g_it hg c_5
        refine lv_iconst (v := 0) hx hb dX4_chosen_57 (by decide) ?_
        have hg := Option.some.inj hg
        rw [hQ]
        exact W.zret (v := 0) (ty := .boolean) hx hb hr rfl (fun t ht hW => ⟨⟨0, (r_4.2.1, r_4.2.2), rfl, ⟨by rw [← hg], by rw [← hg]⟩, by rw [ht]; exact hP, hD⟩, hS.F ht⟩) hS.2.2 dX4_chosen_58
      · have hg := g_if hg c_5
        refine lv_aload_n hx hb dX4_chosen_32 rfl (lv_at hl 0 rfl) ?_
        refine lv_bipush (v := 44) hx hb dX4_chosen_33 (by decide) ?_
        obtain ⟨r_6, hr_6, hg⟩ := g_bd hg
        refine cc_i (va_runV (C := RX4) (As := [.int 44]) (rest := []) ⟨hx, hb, hml, hown, htb⟩ (k_X4_expect a0 a0_code a1 a1_kinds a1_starts a1_values r_4.2.1 r_4.2.2 44 r_6 hr_6) (cw_V 1 htb tg_681 tg_11 tg_678 tg_680 ts_16 rfl rfl (by decide +kernel) (by constructor <;> (dsimp only [rS, rO, rB, rm_X4_expect]; omega))) ⟨PC.blind, va_recv hK.1 hP (ci := 3) (q0 := 0) rfl rfl, PC.pre hK hT hP hD hS hA [0, 1, 2, 3, 4, 5] rfl (by decide)⟩ rfl rfl hl.1 rfl (lv_room (Nat.le_of_ble_eq_true rfl)) dX4_chosen_35 ⟨Nat.le_of_ble_eq_true rfl, Nat.le_of_ble_eq_true rfl⟩) hP hD hS hA [0, 1, 2, 3, 4, 5] [] rfl rfl (by decide) (by decide) (fun r9 u9 H locs hw hP hD hS => ?_)
        obtain ⟨rfl, rfl⟩ := hw
        have hP : va_P D vwCl (WS_X4_chosen cI cJ cZ cY a0 a0_code a1 a1_kinds a1_starts a1_values r_6.2.1 r_6.2.2) H := hP.sub [0, 1, 2, 3, 4, 5] rfl
        have hD : va_D A (WS_X4_chosen cI cJ cZ cY a0 a0_code a1 a1_kinds a1_starts a1_values r_6.2.1 r_6.2.2) := hD.sub [0, 1, 2, 3, 4, 5] (by decide) rfl
        refine lv_if_eq (tgt := 57) hx hb dX4_chosen_38 (by decide) (fun c_7 => ?_) (fun c_7 => ?_)
        · have hg := g_it hg c_7
          refine lv_iconst (v := 0) hx hb dX4_chosen_57 (by decide) ?_
          have hg := Option.some.inj hg
          rw [hQ]
          exact W.zret (v := 0) (ty := .boolean) hx hb hr rfl (fun t ht hW => ⟨⟨0, (r_6.2.1, r_6.2.2), rfl, ⟨by rw [← hg], by rw [← hg]⟩, by rw [ht]; exact hP, hD⟩, hS.F ht⟩) hS.2.2 dX4_chosen_58
        · have hg := g_if hg c_7
          refine lv_aload_n hx hb dX4_chosen_41 rfl (lv_at hl 0 rfl) ?_
          obtain ⟨r_8, hr_8, hg⟩ := g_bd hg
          refine cc_i (va_runV (C := RX4) (As := []) (rest := []) ⟨hx, hb, hml, hown, htb⟩ (hSUM a0 a0_code a1 a1_kinds a1_starts a1_values r_6.2.1 r_6.2.2 r_8 hr_8) (cw_V 0 htb tg_653 tg_11 tg_650 tg_652 ts_9 rfl rfl (by decide +kernel) (by constructor <;> (dsimp only [rS, rO, rB]; omega))) ⟨PC.blind, va_recv hK.1 hP (ci := 3) (q0 := 0) rfl rfl, PC.pre hK hT hP hD hS hA [0, 1, 2, 3, 4, 5] rfl (by decide)⟩ rfl rfl hl.1 rfl (lv_room (Nat.le_of_ble_eq_true rfl)) dX4_chosen_42 ⟨Nat.le_of_ble_eq_true rfl, Nat.le_of_ble_eq_true rfl⟩) hP hD hS hA [0, 1, 2, 3, 4, 5] [] rfl rfl (by decide) (by decide) (fun r9 u9 H locs hw hP hD hS => ?_)
          obtain ⟨rfl, rfl⟩ := hw
          have hP : va_P D vwCl (WS_X4_chosen cI cJ cZ cY a0 a0_code a1 a1_kinds a1_starts a1_values r_8.2.1 r_8.2.2) H := hP.sub [0, 1, 2, 3, 4, 5] rfl
          have hD : va_D A (WS_X4_chosen cI cJ cZ cY a0 a0_code a1 a1_kinds a1_starts a1_values r_8.2.1 r_8.2.2) := hD.sub [0, 1, 2, 3, 4, 5] (by decide) rfl
          refine lv_if_eq (tgt := 57) hx hb dX4_chosen_45 (by decide) (fun c_9 => ?_) (fun c_9 => ?_)
          · have hg := g_it hg c_9
            refine lv_iconst (v := 0) hx hb dX4_chosen_57 (by decide) ?_
            have hg := Option.some.inj hg
            rw [hQ]
            exact W.zret (v := 0) (ty := .boolean) hx hb hr rfl (fun t ht hW => ⟨⟨0, (r_8.2.1, r_8.2.2), rfl, ⟨by rw [← hg], by rw [← hg]⟩, by rw [ht]; exact hP, hD⟩, hS.F ht⟩) hS.2.2 dX4_chosen_58
          · have hg := g_if hg c_9
            refine lv_aload_n hx hb dX4_chosen_48 rfl (lv_at hl 0 rfl) ?_
            refine lv_bipush (v := 41) hx hb dX4_chosen_49 (by decide) ?_
            obtain ⟨r_10, hr_10, hg⟩ := g_bd hg
            refine cc_i (va_runV (C := RX4) (As := [.int 41]) (rest := []) ⟨hx, hb, hml, hown, htb⟩ (k_X4_expect a0 a0_code a1 a1_kinds a1_starts a1_values r_8.2.1 r_8.2.2 41 r_10 hr_10) (cw_V 1 htb tg_681 tg_11 tg_678 tg_680 ts_16 rfl rfl (by decide +kernel) (by constructor <;> (dsimp only [rS, rO, rB, rm_X4_expect]; omega))) ⟨PC.blind, va_recv hK.1 hP (ci := 3) (q0 := 0) rfl rfl, PC.pre hK hT hP hD hS hA [0, 1, 2, 3, 4, 5] rfl (by decide)⟩ rfl rfl hl.1 rfl (lv_room (Nat.le_of_ble_eq_true rfl)) dX4_chosen_51 ⟨Nat.le_of_ble_eq_true rfl, Nat.le_of_ble_eq_true rfl⟩) hP hD hS hA [0, 1, 2, 3, 4, 5] [] rfl rfl (by decide) (by decide) (fun r9 u9 H locs hw hP hD hS => ?_)
            obtain ⟨rfl, rfl⟩ := hw
            have hP : va_P D vwCl (WS_X4_chosen cI cJ cZ cY a0 a0_code a1 a1_kinds a1_starts a1_values r_10.2.1 r_10.2.2) H := hP.sub [0, 1, 2, 3, 4, 5] rfl
            have hD : va_D A (WS_X4_chosen cI cJ cZ cY a0 a0_code a1 a1_kinds a1_starts a1_values r_10.2.1 r_10.2.2) := hD.sub [0, 1, 2, 3, 4, 5] (by decide) rfl
            refine lv_if_ne (tgt := 59) hx hb dX4_chosen_54 (by decide) (fun c_11 => ?_) (fun c_11 => ?_)
            · have hg := g_if hg c_11
              refine lv_aload_n hx hb dX4_chosen_59 rfl (lv_at hl 0 rfl) ?_
              refine lv_dup hx hb dX4_chosen_60 rfl ?_
              refine va_get (ci := 3) (v := .int (pX4_open r_10.2.1)) (C := RX4) (T := TX4) (N := 8) hx hb htb uX4 hown hK.1 hP 0 rfl rfl 3 (by decide) (htb _ tg_388) (fun _ h9 => h9) rfl dX4_chosen_61 ?_
              refine lv_iconst (v := 1) hx hb dX4_chosen_64 (by decide) ?_
              refine lv_isub hx hb dX4_chosen_65 ?_
              refine lv_topi (fun x_12 ex_12 => ?_)
              have hg := g_lte hg x_12 ex_12
              refine va_put (ci := 3) (v := .int x_12) (ty := .int) (C := RX4) (T := TX4) (N := 8) hx hb htb uX4 tyX4 tyX4_ok nmX4 hown hK.1 hP hD hS 0 rfl rfl 3 (by decide) (htb _ tg_388) (fun _ h9 => h9) rfl (by decide +kernel) rfl rfl (Nat.le_of_ble_eq_true rfl) dX4_chosen_66 (fun H locs hP hD hS => ?_)
              obtain ⟨v0_13, ev0_13⟩ : ∃ z, z = sX4_open r_10.2.1 x_12 := ⟨_, rfl⟩
              have hP : va_P D vwCl (WS_X4_chosen cI cJ cZ cY a0 a0_code a1 a1_kinds a1_starts a1_values v0_13 r_10.2.2) H := by rw [ev0_13]; exact hP
              have hD : va_D A (WS_X4_chosen cI cJ cZ cY a0 a0_code a1 a1_kinds a1_starts a1_values v0_13 r_10.2.2) := by rw [ev0_13]; exact hD
              have hg := g_lte hg v0_13 ev0_13
              refine lv_aload_n hx hb dX4_chosen_69 rfl (lv_at hl 0 rfl) ?_
              refine lv_iload_n hx hb dX4_chosen_70 rfl (lv_at hl 1 rfl) ?_
              refine lv_iconst (v := 0) hx hb dX4_chosen_71 (by decide) ?_
              obtain ⟨r_14, hr_14, hg⟩ := g_bd hg
              refine cc_v (va_runV (C := RX4) (As := [.int p0, .int 0]) (rest := []) ⟨hx, hb, hml, hown, htb⟩ (k_X4_emit a0 a0_code a1 v0_13 p0 0 r_14 hr_14) (cw_V 2 htb tg_665 tg_11 tg_662 tg_664 ts_12 rfl rfl (by decide +kernel) (by constructor <;> (dsimp only [rS, rO, rB, rm_X4_emit]; omega))) ⟨PC.blind, va_recv hK.1 hP (ci := 3) (q0 := 0) rfl rfl, PC.pre hK hT hP hD hS hA [0, 1] rfl (by decide)⟩ rfl rfl hl.1 rfl (lv_room (Nat.le_of_ble_eq_true rfl)) dX4_chosen_72 ⟨Nat.le_of_ble_eq_true rfl, Nat.le_of_ble_eq_true rfl⟩) hP hD hS hA [0, 1] [2, 3, 4, 5] rfl rfl (by decide) (by decide) (fun u9 H locs hw hP hD hS => ?_)
              have hw := hw.symm
              subst hw
              have hP : va_P D vwCl (WS_X4_chosen cI cJ cZ cY a0 a0_code a1 a1_kinds a1_starts a1_values r_14 r_10.2.2) H := hP.sub [4, 5, 0, 1, 2, 3] rfl
              have hD : va_D A (WS_X4_chosen cI cJ cZ cY a0 a0_code a1 a1_kinds a1_starts a1_values r_14 r_10.2.2) := hD.sub [4, 5, 0, 1, 2, 3] (by decide) rfl
              refine lv_iconst (v := 1) hx hb dX4_chosen_75 (by decide) ?_
              have hg := Option.some.inj hg
              rw [hQ]
              exact W.zret (v := 1) (ty := .boolean) hx hb hr rfl (fun t ht hW => ⟨⟨1, (r_14, r_10.2.2), rfl, ⟨by rw [← hg], by rw [← hg]⟩, by rw [ht]; exact hP, hD⟩, hS.F ht⟩) hS.2.2 dX4_chosen_76
            · have hg := g_it hg c_11
              refine lv_iconst (v := 0) hx hb dX4_chosen_57 (by decide) ?_
              have hg := Option.some.inj hg
              rw [hQ]
              exact W.zret (v := 0) (ty := .boolean) hx hb hr rfl (fun t ht hW => ⟨⟨0, (r_10.2.1, r_10.2.2), rfl, ⟨by rw [← hg], by rw [← hg]⟩, by rw [ht]; exact hP, hD⟩, hS.F ht⟩) hS.2.2 dX4_chosen_58
  · have hg := g_if hg c_1
    refine lv_aload_n hx hb dX4_chosen_12 rfl (lv_at hl 0 rfl) ?_
    refine lv_iconst (v := 1) hx hb dX4_chosen_13 (by decide) ?_
    obtain ⟨r_15, hr_15, hg⟩ := g_bd hg
    refine cc_i (va_runV (C := RX4) (As := [.int 1]) (rest := []) ⟨hx, hb, hml, hown, htb⟩ (k_X4_refuse a0 a0_code a1 a1_kinds a1_starts a1_values v0 v1 1 r_15 hr_15) (cw_V 1 htb tg_644 tg_11 tg_641 tg_643 ts_7 rfl rfl (by decide +kernel) (by constructor <;> (dsimp only [rS, rO, rB, rm_X4_refuse]; omega))) ⟨PC.blind, va_recv hK.1 hP (ci := 3) (q0 := 0) rfl rfl, PC.pre hK hT hP hD hS hA [0, 1, 2, 3, 4, 5] rfl (by decide)⟩ rfl rfl hl.1 rfl (lv_room (Nat.le_of_ble_eq_true rfl)) dX4_chosen_14 ⟨Nat.le_of_ble_eq_true rfl, Nat.le_of_ble_eq_true rfl⟩) hP hD hS hA [0, 1, 2, 3, 4, 5] [] rfl rfl (by decide) (by decide) (fun r9 u9 H locs hw hP hD hS => ?_)
    obtain ⟨rfl, rfl⟩ := hw
    have hP : va_P D vwCl (WS_X4_chosen cI cJ cZ cY a0 a0_code a1 a1_kinds a1_starts a1_values r_15.2 v1) H := hP.sub [0, 1, 2, 3, 4, 5] rfl
    have hD : va_D A (WS_X4_chosen cI cJ cZ cY a0 a0_code a1 a1_kinds a1_starts a1_values r_15.2 v1) := hD.sub [0, 1, 2, 3, 4, 5] (by decide) rfl
    obtain ⟨h_16, hg⟩ := g_gde hg
    have hg := Option.some.inj hg
    rw [hQ]
    exact W.zret (v := r_15.1) (ty := .boolean) hx hb hr (bool_nar h_16) (fun t ht hW => ⟨⟨r_15.1, (r_15.2, v1), rfl, ⟨by rw [← hg], by rw [← hg]⟩, by rw [ht]; exact hP, hD⟩, hS.F ht⟩) hS.2.2 dX4_chosen_17

/-! ManyEyes$Parser.one()Z -/
def fo_X4_one (SUM : BX4 → BX9 → Option (Int32 × BX4 × BX9)) (ONE : BX4 → BX9 → Option (Int32 × BX4 × BX9)) (v0 : BX4) (v1 : BX9) : Option (Int32 × BX4 × BX9) := g_lt ((pX9_kind v1) : Int32) (fun k_1 => if k_1 = (-4) then ((f_X4_toldLetter v0 v1).bind (fun r_3 => g_gd (r_3.1 = 0 ∨ r_3.1 = 1) (some (r_3.1, r_3.2.1, r_3.2.2)))) else (if k_1 = (-3) then ((f_X4_number v0 v1 0 9999).bind (fun r_6 => g_gd (r_6.1 = 0 ∨ r_6.1 = 1) (some (r_6.1, r_6.2.1, r_6.2.2)))) else (if k_1 = 40 then ((fo_X4_bracketed SUM v0 v1).bind (fun r_9 => g_gd (r_9.1 = 0 ∨ r_9.1 = 1) (some (r_9.1, r_9.2.1, r_9.2.2)))) else (if k_1 = 45 then ((fo_X4_negated ONE v0 v1).bind (fun r_12 => g_gd (r_12.1 = 0 ∨ r_12.1 = 1) (some (r_12.1, r_12.2.1, r_12.2.2)))) else (if k_1 = 7168376 then ((f_X9_advance v1).bind (fun r_15 => (fo_X4_chosen SUM v0 r_15 12).bind (fun r_16 => g_gd (r_16.1 = 0 ∨ r_16.1 = 1) (some (r_16.1, r_16.2.1, r_16.2.2))))) else (if k_1 = 7170414 then ((f_X9_advance v1).bind (fun r_19 => (fo_X4_chosen SUM v0 r_19 11).bind (fun r_20 => g_gd (r_20.1 = 0 ∨ r_20.1 = 1) (some (r_20.1, r_20.2.1, r_20.2.2))))) else (if k_1 = 1818586739 then ((f_X9_advance v1).bind (fun r_23 => (f_X4_number v0 r_23 2 15).bind (fun r_24 => g_gd (r_24.1 = 0 ∨ r_24.1 = 1) (some (r_24.1, r_24.2.1, r_24.2.2))))) else (if k_1 = 1885432178 then ((f_X9_advance v1).bind (fun r_27 => (f_X4_number v0 r_27 3 15).bind (fun r_28 => g_gd (r_28.1 = 0 ∨ r_28.1 = 1) (some (r_28.1, r_28.2.1, r_28.2.2))))) else (if k_1 = 1953063787 then ((f_X4_emit v0 4 0).bind (fun r_31 => (f_X9_advance v1).bind (fun r_32 => some (1, r_31, r_32)))) else ((f_X4_refuse v0 v1 1).bind (fun r_33 => g_gd (r_33.1 = 0 ∨ r_33.1 = 1) (some (r_33.1, r_33.2, v1)))))))))))))
set_option maxHeartbeats 4000000 in
set_option maxRecDepth 100000 in
theorem ko_X4_one {l : Launch} {D : va_G} {cI cJ cZ cY : ClassId} {tX tY : Nat} (d : Nat) (SUM : BX4 → BX9 → Option (Int32 × BX4 × BX9)) (ONE : BX4 → BX9 → Option (Int32 × BX4 × BX9)) (hBR : ∀ {sz : Nat} (a0 a0_code a1 a1_kinds a1_starts a1_values : Nat) (v0 : BX4) (v1 : BX9) (res : Int32 × BX4 × BX9), fo_X4_bracketed SUM v0 v1 = some res → Met l yX4_bracketed (Cond.code yX4_bracketed cX4_bracketed 1 (some .boolean) :: TB) (rB d) (PC D cI cJ cZ cY tX tY [.ref a0] (WS_X4_bracketed cI cJ cZ cY a0 a0_code a1 a1_kinds a1_starts a1_values v0 v1) sz) (va_Qi (fun (r : Int32) (u : BX4 × BX9) => r = res.1 ∧ u = res.2) (BC D (fun u : BX4 × BX9 => WS_X4_bracketed cI cJ cZ cY a0 a0_code a1 a1_kinds a1_starts a1_values u.1 u.2) (va_A (WS_X4_bracketed cI cJ cZ cY a0 a0_code a1 a1_kinds a1_starts a1_values v0 v1) sz)) (va_A (WS_X4_bracketed cI cJ cZ cY a0 a0_code a1 a1_kinds a1_starts a1_values v0 v1) sz)) 0 0 (va_A (WS_X4_bracketed cI cJ cZ cY a0 a0_code a1 a1_kinds a1_starts a1_values v0 v1) sz)) (hNG : ∀ {sz : Nat} (a0 a0_code a1 a1_kinds a1_starts a1_values : Nat) (v0 : BX4) (v1 : BX9) (res : Int32 × BX4 × BX9), fo_X4_negated ONE v0 v1 = some res → Met l yX4_negated (Cond.code yX4_negated cX4_negated 1 (some .boolean) :: TB) (rB d) (PC D cI cJ cZ cY tX tY [.ref a0] (WS_X4_negated cI cJ cZ cY a0 a0_code a1 a1_kinds a1_starts a1_values v0 v1) sz) (va_Qi (fun (r : Int32) (u : BX4 × BX9) => r = res.1 ∧ u = res.2) (BC D (fun u : BX4 × BX9 => WS_X4_negated cI cJ cZ cY a0 a0_code a1 a1_kinds a1_starts a1_values u.1 u.2) (va_A (WS_X4_negated cI cJ cZ cY a0 a0_code a1 a1_kinds a1_starts a1_values v0 v1) sz)) (va_A (WS_X4_negated cI cJ cZ cY a0 a0_code a1 a1_kinds a1_starts a1_values v0 v1) sz)) 0 0 (va_A (WS_X4_negated cI cJ cZ cY a0 a0_code a1 a1_kinds a1_starts a1_values v0 v1) sz)) (hCH : ∀ {sz : Nat} (a0 a0_code a1 a1_kinds a1_starts a1_values : Nat) (v0 : BX4) (v1 : BX9) (p0 : Int32) (res : Int32 × BX4 × BX9), fo_X4_chosen SUM v0 v1 p0 = some res → Met l yX4_chosen (Cond.code yX4_chosen cX4_chosen 2 (some .boolean) :: TB) (rB d) (PC D cI cJ cZ cY tX tY [.ref a0, .int p0] (WS_X4_chosen cI cJ cZ cY a0 a0_code a1 a1_kinds a1_starts a1_values v0 v1) sz) (va_Qi (fun (r : Int32) (u : BX4 × BX9) => r = res.1 ∧ u = res.2) (BC D (fun u : BX4 × BX9 => WS_X4_chosen cI cJ cZ cY a0 a0_code a1 a1_kinds a1_starts a1_values u.1 u.2) (va_A (WS_X4_chosen cI cJ cZ cY a0 a0_code a1 a1_kinds a1_starts a1_values v0 v1) sz)) (va_A (WS_X4_chosen cI cJ cZ cY a0 a0_code a1 a1_kinds a1_starts a1_values v0 v1) sz)) 0 0 (va_A (WS_X4_chosen cI cJ cZ cY a0 a0_code a1 a1_kinds a1_starts a1_values v0 v1) sz)) {sz : Nat} (a0 a0_code a1 a1_kinds a1_starts a1_values : Nat) (v0 : BX4) (v1 : BX9) (res : Int32 × BX4 × BX9) (hg : fo_X4_one SUM ONE v0 v1 = some res) : Met l yX4_one (Cond.code yX4_one cX4_one 1 (some .boolean) :: TB) (rO (d + 1)) (PC D cI cJ cZ cY tX tY [.ref a0] (WS_X4_one cI cJ cZ cY a0 a0_code a1 a1_kinds a1_starts a1_values v0 v1) sz) (va_Qi (fun (r : Int32) (u : BX4 × BX9) => r = res.1 ∧ u = res.2) (BC D (fun u : BX4 × BX9 => WS_X4_one cI cJ cZ cY a0 a0_code a1 a1_kinds a1_starts a1_values u.1 u.2) (va_A (WS_X4_one cI cJ cZ cY a0 a0_code a1 a1_kinds a1_starts a1_values v0 v1) sz)) (va_A (WS_X4_one cI cJ cZ cY a0 a0_code a1 a1_kinds a1_starts a1_values v0 v1) sz)) 0 0 (va_A (WS_X4_one cI cJ cZ cY a0 a0_code a1 a1_kinds a1_starts a1_values v0 v1) sz) := by
  refine Met.ofW (cc := cX4_one) (maxL := 1) (ret := (some .boolean)) (by decide) rfl ?_
  intro p e s m args below meth c s₁ B hml hv
  obtain ⟨hargs, hsz, hP, hK, hD0, hT⟩ := hv
  have hx := B.exec
  have hb := B.bytes
  have hr := B.returns
  have htb : ∀ w ∈ TB, w.before args s = true := fun w h => atoms_spec (ws := Cond.code yX4_one cX4_one 1 (some .boolean) :: TB) B.pre w (List.mem_cons_of_mem _ h)
  have hown : s.vm.findClass "ManyEyes$Parser" = some m.cls := findClass_of_methodNamed B.named
  have hlocks := B.notSynchronized
  subst hsz
  have hD := hD0.self (sz := s.heap.size)
  generalize hAe : va_A (WS_X4_one cI cJ cZ cY a0 a0_code a1 a1_kinds a1_starts a1_values v0 v1) s.heap.size = A at hD hT ⊢
  have hA : ∀ q : Nat, s.heap.size ≤ q → A q := fun q h => by rw [← hAe]; exact Or.inr h
  have hS : va_S A s.heap s.heap [] := va_S.rf
  have hl := lv_entry ([.ref a0]) (n := 1) (Nat.le_of_ble_eq_true rfl)
  have he : entryFrame m args 1 = F0 m 0 (lg_sl ([.ref a0]) ++ List.replicate (1 - (lg_sl ([.ref a0])).length) Slot.unset).toArray [] := by rw [hargs, lg_entry_eq]
  rw [he]
  generalize (lg_sl ([.ref a0]) ++ List.replicate (1 - (lg_sl ([.ref a0])).length) Slot.unset).toArray = ls at hl ⊢
  have hl : lv_has ls 1 [(0, .ref a0)] := hl
  show W p l e (rO (d + 1)) s m args below meth c s.heap [] 0 0 _ _
  refine W.genQ (fun Q hQ => ?_)
  generalize hHe : s.heap = H at hP ⊢
  have hS : va_S A s.heap H [] := by rw [← hHe]; exact va_S.rf
  generalize ([] : List Loc) = locs at hS ⊢
  unfold fo_X4_one at hg
  refine lv_aload_n hx hb dX4_one_0 rfl (lv_at hl 0 rfl) ?_
  refine va_get (ci := 3) (v := .ref a1) (C := RX4) (T := TX4) (N := 8) hx hb htb uX4 hown hK.1 hP 0 rfl rfl 0 (by decide) (htb _ tg_385) (fun _ h9 => h9) rfl dX4_one_1 ?_
  refine va_get (ci := 8) (v := .int (pX9_kind v1)) (C := RX9) (T := TX9) (N := 8) hx hb htb uX9 hown hK.1 hP 2 rfl rfl 5 (by decide) (htb _ tg_362) (fun _ h9 => h9) rfl dX4_one_4 ?_
  refine lv_topi (fun k_1 ek_1 => ?_)
  have hg := g_lte hg k_1 ek_1
  by_cases c_2 : k_1 = (-4)
  · have hg := g_it hg c_2
    refine lv_lookup (tgt := 97) (off := 90) hx hb dX4_one_7 (by decide +kernel) (by rw [c_2]; decide +kernel) (by decide) ?_
    refine lv_aload_n hx hb dX4_one_97 rfl (lv_at hl 0 rfl) ?_
    obtain ⟨r_3, hr_3, hg⟩ := g_bd hg
    refine cc_i (va_runV (C := RX4) (As := []) (rest := []) ⟨hx, hb, hml, hown, htb⟩ (k_X4_toldLetter a0 a0_code a1 a1_kinds a1_starts a1_values v0 v1 r_3 hr_3) (cw_V 0 htb tg_669 tg_11 tg_666 tg_668 ts_13 rfl rfl (by decide +kernel) (by constructor <;> (dsimp only [rS, rO, rB, rm_X4_toldLetter]; omega))) ⟨PC.blind, va_recv hK.1 hP (ci := 3) (q0 := 0) rfl rfl, PC.pre hK hT hP hD hS hA [0, 1, 2, 3, 4, 5] rfl (by decide)⟩ rfl rfl hl.1 rfl (lv_room (Nat.le_of_ble_eq_true rfl)) dX4_one_98 ⟨Nat.le_of_ble_eq_true rfl, Nat.le_of_ble_eq_true rfl⟩) hP hD hS hA [0, 1, 2, 3, 4, 5] [] rfl rfl (by decide) (by decide) (fun r9 u9 H locs hw hP hD hS => ?_)
    obtain ⟨rfl, rfl⟩ := hw
    have hP : va_P D vwCl (WS_X4_one cI cJ cZ cY a0 a0_code a1 a1_kinds a1_starts a1_values r_3.2.1 r_3.2.2) H := hP.sub [0, 1, 2, 3, 4, 5] rfl
    have hD : va_D A (WS_X4_one cI cJ cZ cY a0 a0_code a1 a1_kinds a1_starts a1_values r_3.2.1 r_3.2.2) := hD.sub [0, 1, 2, 3, 4, 5] (by decide) rfl
    obtain ⟨h_4, hg⟩ := g_gde hg
    have hg := Option.some.inj hg
    rw [hQ]
    exact W.zret (v := r_3.1) (ty := .boolean) hx hb hr (bool_nar h_4) (fun t ht hW => ⟨⟨r_3.1, (r_3.2.1, r_3.2.2), rfl, ⟨by rw [← hg], by rw [← hg]⟩, by rw [ht]; exact hP, hD⟩, hS.F ht⟩) hS.2.2 dX4_one_101
  have hg := g_if hg c_2
  by_cases c_5 : k_1 = (-3)
  · have hg := g_it hg c_5
    refine lv_lookup (tgt := 88) (off := 81) hx hb dX4_one_7 (by decide +kernel) (by rw [c_5]; decide +kernel) (by decide) ?_
    refine lv_aload_n hx hb dX4_one_88 rfl (lv_at hl 0 rfl) ?_
    refine lv_iconst (v := 0) hx hb dX4_one_89 (by decide) ?_
    refine lv_sipush (v := 9999) hx hb dX4_one_90 (by decide) ?_
    obtain ⟨r_6, hr_6, hg⟩ := g_bd hg
    refine cc_i (va_runV (C := RX4) (As := [.int 0, .int 9999]) (rest := []) ⟨hx, hb, hml, hown, htb⟩ (k_X4_number a0 a0_code a1 a1_kinds a1_starts a1_values v0 v1 0 9999 r_6 hr_6) (cw_V 2 htb tg_661 tg_11 tg_658 tg_660 ts_11 rfl rfl (by decide +kernel) (by constructor <;> (dsimp only [rS, rO, rB, rm_X4_number]; omega))) ⟨PC.blind, va_recv hK.1 hP (ci := 3) (q0 := 0) rfl rfl, PC.pre hK hT hP hD hS hA [0, 1, 2, 3, 4, 5] rfl (by decide)⟩ rfl rfl hl.1 rfl (lv_room (Nat.le_of_ble_eq_true rfl)) dX4_one_93 ⟨Nat.le_of_ble_eq_true rfl, Nat.le_of_ble_eq_true rfl⟩) hP hD hS hA [0, 1, 2, 3, 4, 5] [] rfl rfl (by decide) (by decide) (fun r9 u9 H locs hw hP hD hS => ?_)
    obtain ⟨rfl, rfl⟩ := hw
    have hP : va_P D vwCl (WS_X4_one cI cJ cZ cY a0 a0_code a1 a1_kinds a1_starts a1_values r_6.2.1 r_6.2.2) H := hP.sub [0, 1, 2, 3, 4, 5] rfl
    have hD : va_D A (WS_X4_one cI cJ cZ cY a0 a0_code a1 a1_kinds a1_starts a1_values r_6.2.1 r_6.2.2) := hD.sub [0, 1, 2, 3, 4, 5] (by decide) rfl
    obtain ⟨h_7, hg⟩ := g_gde hg
    have hg := Option.some.inj hg
    rw [hQ]
    exact W.zret (v := r_6.1) (ty := .boolean) hx hb hr (bool_nar h_7) (fun t ht hW => ⟨⟨r_6.1, (r_6.2.1, r_6.2.2), rfl, ⟨by rw [← hg], by rw [← hg]⟩, by rw [ht]; exact hP, hD⟩, hS.F ht⟩) hS.2.2 dX4_one_96
  have hg := g_if hg c_5
  by_cases c_8 : k_1 = 40
  · have hg := g_it hg c_8
    refine lv_lookup (tgt := 175) (off := 168) hx hb dX4_one_7 (by decide +kernel) (by rw [c_8]; decide +kernel) (by decide) ?_
    refine lv_aload_n hx hb dX4_one_175 rfl (lv_at hl 0 rfl) ?_
    obtain ⟨r_9, hr_9, hg⟩ := g_bd hg
    refine cc_i (va_runV (C := RX4) (As := []) (rest := []) ⟨hx, hb, hml, hown, htb⟩ (hBR a0 a0_code a1 a1_kinds a1_starts a1_values v0 v1 r_9 hr_9) (cw_V 0 htb tg_685 tg_11 tg_682 tg_684 ts_17 rfl rfl (by decide +kernel) (by constructor <;> (dsimp only [rS, rO, rB]; omega))) ⟨PC.blind, va_recv hK.1 hP (ci := 3) (q0 := 0) rfl rfl, PC.pre hK hT hP hD hS hA [0, 1, 2, 3, 4, 5] rfl (by decide)⟩ rfl rfl hl.1 rfl (lv_room (Nat.le_of_ble_eq_true rfl)) dX4_one_176 ⟨Nat.le_of_ble_eq_true rfl, Nat.le_of_ble_eq_true rfl⟩) hP hD hS hA [0, 1, 2, 3, 4, 5] [] rfl rfl (by decide) (by decide) (fun r9 u9 H locs hw hP hD hS => ?_)
    obtain ⟨rfl, rfl⟩ := hw
    have hP : va_P D vwCl (WS_X4_one cI cJ cZ cY a0 a0_code a1 a1_kinds a1_starts a1_values r_9.2.1 r_9.2.2) H := hP.sub [0, 1, 2, 3, 4, 5] rfl
    have hD : va_D A (WS_X4_one cI cJ cZ cY a0 a0_code a1 a1_kinds a1_starts a1_values r_9.2.1 r_9.2.2) := hD.sub [0, 1, 2, 3, 4, 5] (by decide) rfl
    obtain ⟨h_10, hg⟩ := g_gde hg
    have hg := Option.some.inj hg
    rw [hQ]
    exact W.zret (v := r_9.1) (ty := .boolean) hx hb hr (bool_nar h_10) (fun t ht hW => ⟨⟨r_9.1, (r_9.2.1, r_9.2.2), rfl, ⟨by rw [← hg], by rw [← hg]⟩, by rw [ht]; exact hP, hD⟩, hS.F ht⟩) hS.2.2 dX4_one_179
  have hg := g_if hg c_8
  by_cases c_11 : k_1 = 45
  · have hg := g_it hg c_11
    refine lv_lookup (tgt := 180) (off := 173) hx hb dX4_one_7 (by decide +kernel) (by rw [c_11]; decide +kernel) (by decide) ?_
    refine lv_aload_n hx hb dX4_one_180 rfl (lv_at hl 0 rfl) ?_
    obtain ⟨r_12, hr_12, hg⟩ := g_bd hg
    refine cc_i (va_runV (C := RX4) (As := []) (rest := []) ⟨hx, hb, hml, hown, htb⟩ (hNG a0 a0_code a1 a1_kinds a1_starts a1_values v0 v1 r_12 hr_12) (cw_V 0 htb tg_689 tg_11 tg_686 tg_688 ts_18 rfl rfl (by decide +kernel) (by constructor <;> (dsimp only [rS, rO, rB]; omega))) ⟨PC.blind, va_recv hK.1 hP (ci := 3) (q0 := 0) rfl rfl, PC.pre hK hT hP hD hS hA [0, 1, 2, 3, 4, 5] rfl (by decide)⟩ rfl rfl hl.1 rfl (lv_room (Nat.le_of_ble_eq_true rfl)) dX4_one_181 ⟨Nat.le_of_ble_eq_true rfl, Nat.le_of_ble_eq_true rfl⟩) hP hD hS hA [0, 1, 2, 3, 4, 5] [] rfl rfl (by decide) (by decide) (fun r9 u9 H locs hw hP hD hS => ?_)
    obtain ⟨rfl, rfl⟩ := hw
    have hP : va_P D vwCl (WS_X4_one cI cJ cZ cY a0 a0_code a1 a1_kinds a1_starts a1_values r_12.2.1 r_12.2.2) H := hP.sub [0, 1, 2, 3, 4, 5] rfl
    have hD : va_D A (WS_X4_one cI cJ cZ cY a0 a0_code a1 a1_kinds a1_starts a1_values r_12.2.1 r_12.2.2) := hD.sub [0, 1, 2, 3, 4, 5] (by decide) rfl
    obtain ⟨h_13, hg⟩ := g_gde hg
    have hg := Option.some.inj hg
    rw [hQ]
    exact W.zret (v := r_12.1) (ty := .boolean) hx hb hr (bool_nar h_13) (fun t ht hW => ⟨⟨r_12.1, (r_12.2.1, r_12.2.2), rfl, ⟨by rw [← hg], by rw [← hg]⟩, by rw [ht]; exact hP, hD⟩, hS.F ht⟩) hS.2.2 dX4_one_184
  have hg := g_if hg c_11
  by_cases c_14 : k_1 = 7168376
  · have hg := g_it hg c_14
    refine lv_lookup (tgt := 161) (off := 154) hx hb dX4_one_7 (by decide +kernel) (by rw [c_14]; decide +kernel) (by decide) ?_
    refine lv_aload_n hx hb dX4_one_161 rfl (lv_at hl 0 rfl) ?_
    refine va_get (ci := 3) (v := .ref a1) (C := RX4) (T := TX4) (N := 8) hx hb htb uX4 hown hK.1 hP 0 rfl rfl 0 (by decide) (htb _ tg_385) (fun _ h9 => h9) rfl dX4_one_162 ?_
    obtain ⟨r_15, hr_15, hg⟩ := g_bd hg
    refine cc_v (va_runV (C := RX9) (As := []) (rest := []) ⟨hx, hb, hml, hown, htb⟩ (k_X9_advance a1 a1_kinds a1_starts a1_values v1 r_15 hr_15) (cw_V 0 htb tg_633 tg_12 tg_645 tg_631 tg_632 rfl rfl (by decide +kernel) (by constructor <;> (dsimp only [rS, rO, rB, rm_X9_advance]; omega))) ⟨PC.blind, va_recv hK.1 hP (ci := 8) (q0 := 2) rfl rfl, PC.pre hK hT hP hD hS hA [2, 3, 4, 5] rfl (by decide)⟩ rfl rfl hl.1 rfl (lv_room (Nat.le_of_ble_eq_true rfl)) dX4_one_165 ⟨Nat.le_of_ble_eq_true rfl, Nat.le_of_ble_eq_true rfl⟩) hP hD hS hA [2, 3, 4, 5] [0, 1] rfl rfl (by decide) (by decide) (fun u9 H locs hw hP hD hS => ?_)
    have hw := hw.symm
    subst hw
    have hP : va_P D vwCl (WS_X4_one cI cJ cZ cY a0 a0_code a1 a1_kinds a1_starts a1_values v0 r_15) H := hP.sub [0, 1, 2, 3, 4, 5] rfl
    have hD : va_D A (WS_X4_one cI cJ cZ cY a0 a0_code a1 a1_kinds a1_starts a1_values v0 r_15) := hD.sub [0, 1, 2, 3, 4, 5] (by decide) rfl
    refine lv_aload_n hx hb dX4_one_168 rfl (lv_at hl 0 rfl) ?_
    refine lv_bipush (v := 12) hx hb dX4_one_169 (by decide) ?_
    obtain ⟨r_16, hr_16, hg⟩ := g_bd hg
    refine cc_i (va_runV (C := RX4) (As := [.int 12]) (rest := []) ⟨hx, hb, hml, hown, htb⟩ (hCH a0 a0_code a1 a1_kinds a1_starts a1_values v0 r_15 12 r_16 hr_16) (cw_V 1 htb tg_673 tg_11 tg_670 tg_672 ts_14 rfl rfl (by decide +kernel) (by constructor <;> (dsimp only [rS, rO, rB]; omega))) ⟨PC.blind, va_recv hK.1 hP (ci := 3) (q0 := 0) rfl rfl, PC.pre hK hT hP hD hS hA [0, 1, 2, 3, 4, 5] rfl (by decide)⟩ rfl rfl hl.1 rfl (lv_room (Nat.le_of_ble_eq_true rfl)) dX4_one_171 ⟨Nat.le_of_ble_eq_true rfl, Nat.le_of_ble_eq_true rfl⟩) hP hD hS hA [0, 1, 2, 3, 4, 5] [] rfl rfl (by decide) (by decide) (fun r9 u9 H locs hw hP hD hS => ?_)
    obtain ⟨rfl, rfl⟩ := hw
    have hP : va_P D vwCl (WS_X4_one cI cJ cZ cY a0 a0_code a1 a1_kinds a1_starts a1_values r_16.2.1 r_16.2.2) H := hP.sub [0, 1, 2, 3, 4, 5] rfl
    have hD : va_D A (WS_X4_one cI cJ cZ cY a0 a0_code a1 a1_kinds a1_starts a1_values r_16.2.1 r_16.2.2) := hD.sub [0, 1, 2, 3, 4, 5] (by decide) rfl
    obtain ⟨h_17, hg⟩ := g_gde hg
    have hg := Option.some.inj hg
    rw [hQ]
    exact W.zret (v := r_16.1) (ty := .boolean) hx hb hr (bool_nar h_17) (fun t ht hW => ⟨⟨r_16.1, (r_16.2.1, r_16.2.2), rfl, ⟨by rw [← hg], by rw [← hg]⟩, by rw [ht]; exact hP, hD⟩, hS.F ht⟩) hS.2.2 dX4_one_174
  have hg := g_if hg c_14
  by_cases c_18 : k_1 = 7170414
  · have hg := g_it hg c_18
    refine lv_lookup (tgt := 147) (off := 140) hx hb dX4_one_7 (by decide +kernel) (by rw [c_18]; decide +kernel) (by decide) ?_
    refine lv_aload_n hx hb dX4_one_147 rfl (lv_at hl 0 rfl) ?_
    refine va_get (ci := 3) (v := .ref a1) (C := RX4) (T := TX4) (N := 8) hx hb htb uX4 hown hK.1 hP 0 rfl rfl 0 (by decide) (htb _ tg_385) (fun _ h9 => h9) rfl dX4_one_148 ?_
    obtain ⟨r_19, hr_19, hg⟩ := g_bd hg
    refine cc_v (va_runV (C := RX9) (As := []) (rest := []) ⟨hx, hb, hml, hown, htb⟩ (k_X9_advance a1 a1_kinds a1_starts a1_values v1 r_19 hr_19) (cw_V 0 htb tg_633 tg_12 tg_645 tg_631 tg_632 rfl rfl (by decide +kernel) (by constructor <;> (dsimp only [rS, rO, rB, rm_X9_advance]; omega))) ⟨PC.blind, va_recv hK.1 hP (ci := 8) (q0 := 2) rfl rfl, PC.pre hK hT hP hD hS hA [2, 3, 4, 5] rfl (by decide)⟩ rfl rfl hl.1 rfl (lv_room (Nat.le_of_ble_eq_true rfl)) dX4_one_151 ⟨Nat.le_of_ble_eq_true rfl, Nat.le_of_ble_eq_true rfl⟩) hP hD hS hA [2, 3, 4, 5] [0, 1] rfl rfl (by decide) (by decide) (fun u9 H locs hw hP hD hS => ?_)
    have hw := hw.symm
    subst hw
    have hP : va_P D vwCl (WS_X4_one cI cJ cZ cY a0 a0_code a1 a1_kinds a1_starts a1_values v0 r_19) H := hP.sub [0, 1, 2, 3, 4, 5] rfl
    have hD : va_D A (WS_X4_one cI cJ cZ cY a0 a0_code a1 a1_kinds a1_starts a1_values v0 r_19) := hD.sub [0, 1, 2, 3, 4, 5] (by decide) rfl
    refine lv_aload_n hx hb dX4_one_154 rfl (lv_at hl 0 rfl) ?_
    refine lv_bipush (v := 11) hx hb dX4_one_155 (by decide) ?_
    obtain ⟨r_20, hr_20, hg⟩ := g_bd hg
    refine cc_i (va_runV (C := RX4) (As := [.int 11]) (rest := []) ⟨hx, hb, hml, hown, htb⟩ (hCH a0 a0_code a1 a1_kinds a1_starts a1_values v0 r_19 11 r_20 hr_20) (cw_V 1 htb tg_673 tg_11 tg_670 tg_672 ts_14 rfl rfl (by decide +kernel) (by constructor <;> (dsimp only [rS, rO, rB]; omega))) ⟨PC.blind, va_recv hK.1 hP (ci := 3) (q0 := 0) rfl rfl, PC.pre hK hT hP hD hS hA [0, 1, 2, 3, 4, 5] rfl (by decide)⟩ rfl rfl hl.1 rfl (lv_room (Nat.le_of_ble_eq_true rfl)) dX4_one_157 ⟨Nat.le_of_ble_eq_true rfl, Nat.le_of_ble_eq_true rfl⟩) hP hD hS hA [0, 1, 2, 3, 4, 5] [] rfl rfl (by decide) (by decide) (fun r9 u9 H locs hw hP hD hS => ?_)
    obtain ⟨rfl, rfl⟩ := hw
    have hP : va_P D vwCl (WS_X4_one cI cJ cZ cY a0 a0_code a1 a1_kinds a1_starts a1_values r_20.2.1 r_20.2.2) H := hP.sub [0, 1, 2, 3, 4, 5] rfl
    have hD : va_D A (WS_X4_one cI cJ cZ cY a0 a0_code a1 a1_kinds a1_starts a1_values r_20.2.1 r_20.2.2) := hD.sub [0, 1, 2, 3, 4, 5] (by decide) rfl
    obtain ⟨h_21, hg⟩ := g_gde hg
    have hg := Option.some.inj hg
    rw [hQ]
    exact W.zret (v := r_20.1) (ty := .boolean) hx hb hr (bool_nar h_21) (fun t ht hW => ⟨⟨r_20.1, (r_20.2.1, r_20.2.2), rfl, ⟨by rw [← hg], by rw [← hg]⟩, by rw [ht]; exact hP, hD⟩, hS.F ht⟩) hS.2.2 dX4_one_160
  have hg := g_if hg c_18
  by_cases c_22 : k_1 = 1818586739
  · have hg := g_it hg c_22
    refine lv_lookup (tgt := 102) (off := 95) hx hb dX4_one_7 (by decide +kernel) (by rw [c_22]; decide +kernel) (by decide) ?_
    refine lv_aload_n hx hb dX4_one_102 rfl (lv_at hl 0 rfl) ?_
    refine va_get (ci := 3) (v := .ref a1) (C := RX4) (T := TX4) (N := 8) hx hb htb uX4 hown hK.1 hP 0 rfl rfl 0 (by decide) (htb _ tg_385) (fun _ h9 => h9) rfl dX4_one_103 ?_
    obtain ⟨r_23, hr_23, hg⟩ := g_bd hg
    refine cc_v (va_runV (C := RX9) (As := []) (rest := []) ⟨hx, hb, hml, hown, htb⟩ (k_X9_advance a1 a1_kinds a1_starts a1_values v1 r_23 hr_23) (cw_V 0 htb tg_633 tg_12 tg_645 tg_631 tg_632 rfl rfl (by decide +kernel) (by constructor <;> (dsimp only [rS, rO, rB, rm_X9_advance]; omega))) ⟨PC.blind, va_recv hK.1 hP (ci := 8) (q0 := 2) rfl rfl, PC.pre hK hT hP hD hS hA [2, 3, 4, 5] rfl (by decide)⟩ rfl rfl hl.1 rfl (lv_room (Nat.le_of_ble_eq_true rfl)) dX4_one_106 ⟨Nat.le_of_ble_eq_true rfl, Nat.le_of_ble_eq_true rfl⟩) hP hD hS hA [2, 3, 4, 5] [0, 1] rfl rfl (by decide) (by decide) (fun u9 H locs hw hP hD hS => ?_)
    have hw := hw.symm
    subst hw
    have hP : va_P D vwCl (WS_X4_one cI cJ cZ cY a0 a0_code a1 a1_kinds a1_starts a1_values v0 r_23) H := hP.sub [0, 1, 2, 3, 4, 5] rfl
    have hD : va_D A (WS_X4_one cI cJ cZ cY a0 a0_code a1 a1_kinds a1_starts a1_values v0 r_23) := hD.sub [0, 1, 2, 3, 4, 5] (by decide) rfl
    refine lv_aload_n hx hb dX4_one_109 rfl (lv_at hl 0 rfl) ?_
    refine lv_iconst (v := 2) hx hb dX4_one_110 (by decide) ?_
    refine lv_bipush (v := 15) hx hb dX4_one_111 (by decide) ?_
    obtain ⟨r_24, hr_24, hg⟩ := g_bd hg
    refine cc_i (va_runV (C := RX4) (As := [.int 2, .int 15]) (rest := []) ⟨hx, hb, hml, hown, htb⟩ (k_X4_number a0 a0_code a1 a1_kinds a1_starts a1_values v0 r_23 2 15 r_24 hr_24) (cw_V 2 htb tg_661 tg_11 tg_658 tg_660 ts_11 rfl rfl (by decide +kernel) (by constructor <;> (dsimp only [rS, rO, rB, rm_X4_number]; omega))) ⟨PC.blind, va_recv hK.1 hP (ci := 3) (q0 := 0) rfl rfl, PC.pre hK hT hP hD hS hA [0, 1, 2, 3, 4, 5] rfl (by decide)⟩ rfl rfl hl.1 rfl (lv_room (Nat.le_of_ble_eq_true rfl)) dX4_one_113 ⟨Nat.le_of_ble_eq_true rfl, Nat.le_of_ble_eq_true rfl⟩) hP hD hS hA [0, 1, 2, 3, 4, 5] [] rfl rfl (by decide) (by decide) (fun r9 u9 H locs hw hP hD hS => ?_)
    obtain ⟨rfl, rfl⟩ := hw
    have hP : va_P D vwCl (WS_X4_one cI cJ cZ cY a0 a0_code a1 a1_kinds a1_starts a1_values r_24.2.1 r_24.2.2) H := hP.sub [0, 1, 2, 3, 4, 5] rfl
    have hD : va_D A (WS_X4_one cI cJ cZ cY a0 a0_code a1 a1_kinds a1_starts a1_values r_24.2.1 r_24.2.2) := hD.sub [0, 1, 2, 3, 4, 5] (by decide) rfl
    obtain ⟨h_25, hg⟩ := g_gde hg
    have hg := Option.some.inj hg
    rw [hQ]
    exact W.zret (v := r_24.1) (ty := .boolean) hx hb hr (bool_nar h_25) (fun t ht hW => ⟨⟨r_24.1, (r_24.2.1, r_24.2.2), rfl, ⟨by rw [← hg], by rw [← hg]⟩, by rw [ht]; exact hP, hD⟩, hS.F ht⟩) hS.2.2 dX4_one_116
  have hg := g_if hg c_22
  by_cases c_26 : k_1 = 1885432178
  · have hg := g_it hg c_26
    refine lv_lookup (tgt := 117) (off := 110) hx hb dX4_one_7 (by decide +kernel) (by rw [c_26]; decide +kernel) (by decide) ?_
    refine lv_aload_n hx hb dX4_one_117 rfl (lv_at hl 0 rfl) ?_
    refine va_get (ci := 3) (v := .ref a1) (C := RX4) (T := TX4) (N := 8) hx hb htb uX4 hown hK.1 hP 0 rfl rfl 0 (by decide) (htb _ tg_385) (fun _ h9 => h9) rfl dX4_one_118 ?_
    obtain ⟨r_27, hr_27, hg⟩ := g_bd hg
    refine cc_v (va_runV (C := RX9) (As := []) (rest := []) ⟨hx, hb, hml, hown, htb⟩ (k_X9_advance a1 a1_kinds a1_starts a1_values v1 r_27 hr_27) (cw_V 0 htb tg_633 tg_12 tg_645 tg_631 tg_632 rfl rfl (by decide +kernel) (by constructor <;> (dsimp only [rS, rO, rB, rm_X9_advance]; omega))) ⟨PC.blind, va_recv hK.1 hP (ci := 8) (q0 := 2) rfl rfl, PC.pre hK hT hP hD hS hA [2, 3, 4, 5] rfl (by decide)⟩ rfl rfl hl.1 rfl (lv_room (Nat.le_of_ble_eq_true rfl)) dX4_one_121 ⟨Nat.le_of_ble_eq_true rfl, Nat.le_of_ble_eq_true rfl⟩) hP hD hS hA [2, 3, 4, 5] [0, 1] rfl rfl (by decide) (by decide) (fun u9 H locs hw hP hD hS => ?_)
    have hw := hw.symm
    subst hw
    have hP : va_P D vwCl (WS_X4_one cI cJ cZ cY a0 a0_code a1 a1_kinds a1_starts a1_values v0 r_27) H := hP.sub [0, 1, 2, 3, 4, 5] rfl
    have hD : va_D A (WS_X4_one cI cJ cZ cY a0 a0_code a1 a1_kinds a1_starts a1_values v0 r_27) := hD.sub [0, 1, 2, 3, 4, 5] (by decide) rfl
    refine lv_aload_n hx hb dX4_one_124 rfl (lv_at hl 0 rfl) ?_
    refine lv_iconst (v := 3) hx hb dX4_one_125 (by decide) ?_
    refine lv_bipush (v := 15) hx hb dX4_one_126 (by decide) ?_
    obtain ⟨r_28, hr_28, hg⟩ := g_bd hg
    refine cc_i (va_runV (C := RX4) (As := [.int 3, .int 15]) (rest := []) ⟨hx, hb, hml, hown, htb⟩ (k_X4_number a0 a0_code a1 a1_kinds a1_starts a1_values v0 r_27 3 15 r_28 hr_28) (cw_V 2 htb tg_661 tg_11 tg_658 tg_660 ts_11 rfl rfl (by decide +kernel) (by constructor <;> (dsimp only [rS, rO, rB, rm_X4_number]; omega))) ⟨PC.blind, va_recv hK.1 hP (ci := 3) (q0 := 0) rfl rfl, PC.pre hK hT hP hD hS hA [0, 1, 2, 3, 4, 5] rfl (by decide)⟩ rfl rfl hl.1 rfl (lv_room (Nat.le_of_ble_eq_true rfl)) dX4_one_128 ⟨Nat.le_of_ble_eq_true rfl, Nat.le_of_ble_eq_true rfl⟩) hP hD hS hA [0, 1, 2, 3, 4, 5] [] rfl rfl (by decide) (by decide) (fun r9 u9 H locs hw hP hD hS => ?_)
    obtain ⟨rfl, rfl⟩ := hw
    have hP : va_P D vwCl (WS_X4_one cI cJ cZ cY a0 a0_code a1 a1_kinds a1_starts a1_values r_28.2.1 r_28.2.2) H := hP.sub [0, 1, 2, 3, 4, 5] rfl
    have hD : va_D A (WS_X4_one cI cJ cZ cY a0 a0_code a1 a1_kinds a1_starts a1_values r_28.2.1 r_28.2.2) := hD.sub [0, 1, 2, 3, 4, 5] (by decide) rfl
    obtain ⟨h_29, hg⟩ := g_gde hg
    have hg := Option.some.inj hg
    rw [hQ]
    exact W.zret (v := r_28.1) (ty := .boolean) hx hb hr (bool_nar h_29) (fun t ht hW => ⟨⟨r_28.1, (r_28.2.1, r_28.2.2), rfl, ⟨by rw [← hg], by rw [← hg]⟩, by rw [ht]; exact hP, hD⟩, hS.F ht⟩) hS.2.2 dX4_one_131
  have hg := g_if hg c_26
  by_cases c_30 : k_1 = 1953063787
  · have hg := g_it hg c_30
    refine lv_lookup (tgt := 132) (off := 125) hx hb dX4_one_7 (by decide +kernel) (by rw [c_30]; decide +kernel) (by decide) ?_
    refine lv_aload_n hx hb dX4_one_132 rfl (lv_at hl 0 rfl) ?_
    refine lv_iconst (v := 4) hx hb dX4_one_133 (by decide) ?_
    refine lv_iconst (v := 0) hx hb dX4_one_134 (by decide) ?_
    obtain ⟨r_31, hr_31, hg⟩ := g_bd hg
    refine cc_v (va_runV (C := RX4) (As := [.int 4, .int 0]) (rest := []) ⟨hx, hb, hml, hown, htb⟩ (k_X4_emit a0 a0_code a1 v0 4 0 r_31 hr_31) (cw_V 2 htb tg_665 tg_11 tg_662 tg_664 ts_12 rfl rfl (by decide +kernel) (by constructor <;> (dsimp only [rS, rO, rB, rm_X4_emit]; omega))) ⟨PC.blind, va_recv hK.1 hP (ci := 3) (q0 := 0) rfl rfl, PC.pre hK hT hP hD hS hA [0, 1] rfl (by decide)⟩ rfl rfl hl.1 rfl (lv_room (Nat.le_of_ble_eq_true rfl)) dX4_one_135 ⟨Nat.le_of_ble_eq_true rfl, Nat.le_of_ble_eq_true rfl⟩) hP hD hS hA [0, 1] [2, 3, 4, 5] rfl rfl (by decide) (by decide) (fun u9 H locs hw hP hD hS => ?_)
    have hw := hw.symm
    subst hw
    have hP : va_P D vwCl (WS_X4_one cI cJ cZ cY a0 a0_code a1 a1_kinds a1_starts a1_values r_31 v1) H := hP.sub [4, 5, 0, 1, 2, 3] rfl
    have hD : va_D A (WS_X4_one cI cJ cZ cY a0 a0_code a1 a1_kinds a1_starts a1_values r_31 v1) := hD.sub [4, 5, 0, 1, 2, 3] (by decide) rfl
    refine lv_aload_n hx hb dX4_one_138 rfl (lv_at hl 0 rfl) ?_
    refine va_get (ci := 3) (v := .ref a1) (C := RX4) (T := TX4) (N := 8) hx hb htb uX4 hown hK.1 hP 0 rfl rfl 0 (by decide) (htb _ tg_385) (fun _ h9 => h9) rfl dX4_one_139 ?_
    obtain ⟨r_32, hr_32, hg⟩ := g_bd hg
    refine cc_v (va_runV (C := RX9) (As := []) (rest := []) ⟨hx, hb, hml, hown, htb⟩ (k_X9_advance a1 a1_kinds a1_starts a1_values v1 r_32 hr_32) (cw_V 0 htb tg_633 tg_12 tg_645 tg_631 tg_632 rfl rfl (by decide +kernel) (by constructor <;> (dsimp only [rS, rO, rB, rm_X9_advance]; omega))) ⟨PC.blind, va_recv hK.1 hP (ci := 8) (q0 := 2) rfl rfl, PC.pre hK hT hP hD hS hA [2, 3, 4, 5] rfl (by decide)⟩ rfl rfl hl.1 rfl (lv_room (Nat.le_of_ble_eq_true rfl)) dX4_one_142 ⟨Nat.le_of_ble_eq_true rfl, Nat.le_of_ble_eq_true rfl⟩) hP hD hS hA [2, 3, 4, 5] [0, 1] rfl rfl (by decide) (by decide) (fun u9 H locs hw hP hD hS => ?_)
    have hw := hw.symm
    subst hw
    have hP : va_P D vwCl (WS_X4_one cI cJ cZ cY a0 a0_code a1 a1_kinds a1_starts a1_values r_31 r_32) H := hP.sub [0, 1, 2, 3, 4, 5] rfl
    have hD : va_D A (WS_X4_one cI cJ cZ cY a0 a0_code a1 a1_kinds a1_starts a1_values r_31 r_32) := hD.sub [0, 1, 2, 3, 4, 5] (by decide) rfl
    refine lv_iconst (v := 1) hx hb dX4_one_145 (by decide) ?_
    have hg := Option.some.inj hg
    rw [hQ]
    exact W.zret (v := 1) (ty := .boolean) hx hb hr rfl (fun t ht hW => ⟨⟨1, (r_31, r_32), rfl, ⟨by rw [← hg], by rw [← hg]⟩, by rw [ht]; exact hP, hD⟩, hS.F ht⟩) hS.2.2 dX4_one_146
  have hg := g_if hg c_30
  refine lv_lookup (tgt := 185) (off := 178) hx hb dX4_one_7 (by decide +kernel) ((lv_osw c_2 (by decide)).trans ((lv_osw c_5 (by decide)).trans ((lv_osw c_8 (by decide)).trans ((lv_osw c_11 (by decide)).trans ((lv_osw c_14 (by decide)).trans ((lv_osw c_18 (by decide)).trans ((lv_osw c_22 (by decide)).trans ((lv_osw c_26 (by decide)).trans ((lv_osw c_30 (by decide)).trans (rfl)))))))))) (by decide) ?_
  refine lv_aload_n hx hb dX4_one_185 rfl (lv_at hl 0 rfl) ?_
  refine lv_iconst (v := 1) hx hb dX4_one_186 (by decide) ?_
  obtain ⟨r_33, hr_33, hg⟩ := g_bd hg
  refine cc_i (va_runV (C := RX4) (As := [.int 1]) (rest := []) ⟨hx, hb, hml, hown, htb⟩ (k_X4_refuse a0 a0_code a1 a1_kinds a1_starts a1_values v0 v1 1 r_33 hr_33) (cw_V 1 htb tg_644 tg_11 tg_641 tg_643 ts_7 rfl rfl (by decide +kernel) (by constructor <;> (dsimp only [rS, rO, rB, rm_X4_refuse]; omega))) ⟨PC.blind, va_recv hK.1 hP (ci := 3) (q0 := 0) rfl rfl, PC.pre hK hT hP hD hS hA [0, 1, 2, 3, 4, 5] rfl (by decide)⟩ rfl rfl hl.1 rfl (lv_room (Nat.le_of_ble_eq_true rfl)) dX4_one_187 ⟨Nat.le_of_ble_eq_true rfl, Nat.le_of_ble_eq_true rfl⟩) hP hD hS hA [0, 1, 2, 3, 4, 5] [] rfl rfl (by decide) (by decide) (fun r9 u9 H locs hw hP hD hS => ?_)
  obtain ⟨rfl, rfl⟩ := hw
  have hP : va_P D vwCl (WS_X4_one cI cJ cZ cY a0 a0_code a1 a1_kinds a1_starts a1_values r_33.2 v1) H := hP.sub [0, 1, 2, 3, 4, 5] rfl
  have hD : va_D A (WS_X4_one cI cJ cZ cY a0 a0_code a1 a1_kinds a1_starts a1_values r_33.2 v1) := hD.sub [0, 1, 2, 3, 4, 5] (by decide) rfl
  obtain ⟨h_34, hg⟩ := g_gde hg
  have hg := Option.some.inj hg
  rw [hQ]
  exact W.zret (v := r_33.1) (ty := .boolean) hx hb hr (bool_nar h_34) (fun t ht hW => ⟨⟨r_33.1, (r_33.2, v1), rfl, ⟨by rw [← hg], by rw [← hg]⟩, by rw [ht]; exact hP, hD⟩, hS.F ht⟩) hS.2.2 dX4_one_190

/-! ManyEyes$Parser.sum()Z -/
def f_X4_sum_b114 (ONE : BX4 → BX9 → Option (Int32 × BX4 × BX9)) (x1 : Int32) (x2 : Int32) (v0 : BX4) (v1 : BX9) : Option (Int32 × BX4 × BX9) := if (x1 : Int32) = (-1) then (g_gd (x2 = 0 ∨ x2 = 1) (some (x2, v0, v1))) else ((f_X4_emit v0 x1 0).bind (fun r_3 => g_gd (x2 = 0 ∨ x2 = 1) (some (x2, r_3, v1))))
def f_X4_sum_b108 (ONE : BX4 → BX9 → Option (Int32 × BX4 × BX9)) (J9 : (Int32 × Int32 × Int32 × BX4 × BX9) → Option (Int32 × BX4 × BX9)) (x1 : Int32) (x2 : Int32) (x3 : Int32) (v0 : BX4) (v1 : BX9) : Option (Int32 × BX4 × BX9) := g_lt (x3 + 1 : Int32) (fun x3_5 => J9 (x1, x2, x3_5, v0, v1))
def f_X4_sum_b78 (ONE : BX4 → BX9 → Option (Int32 × BX4 × BX9)) (J9 : (Int32 × Int32 × Int32 × BX4 × BX9) → Option (Int32 × BX4 × BX9)) (x1 : Int32) (x3 : Int32) (x4 : Int32) (x5 : Int32) (v0 : BX4) (v1 : BX9) : Option (Int32 × BX4 × BX9) := (f_X9_advance v1).bind (fun r_6 => (ONE v0 r_6).bind (fun r_7 => if (x5 : Int32) = 0 then (f_X4_sum_b108 ONE J9 x4 r_7.1 x3 r_7.2.1 r_7.2.2) else ((f_X4_emit r_7.2.1 x4 0).bind (fun r_9 => f_X4_sum_b108 ONE J9 x1 r_7.1 x3 r_9 r_7.2.2))))
def f_X4_sum_b60 (ONE : BX4 → BX9 → Option (Int32 × BX4 × BX9)) (J9 : (Int32 × Int32 × Int32 × BX4 × BX9) → Option (Int32 × BX4 × BX9)) (x1 : Int32) (x3 : Int32) (x4 : Int32) (t0 : Int32) (v0 : BX4) (v1 : BX9) : Option (Int32 × BX4 × BX9) := if (t0 : Int32) = 0 then (if (x1 : Int32) = (-1) then (f_X4_sum_b78 ONE J9 x1 x3 x4 t0 v0 v1) else ((f_X4_emit v0 x1 0).bind (fun r_12 => f_X4_sum_b78 ONE J9 x1 x3 x4 t0 r_12 v1))) else (f_X4_sum_b78 ONE J9 x1 x3 x4 t0 v0 v1)
def f_X4_sum_b55 (ONE : BX4 → BX9 → Option (Int32 × BX4 × BX9)) (J9 : (Int32 × Int32 × Int32 × BX4 × BX9) → Option (Int32 × BX4 × BX9)) (x1 : Int32) (x3 : Int32) (x4 : Int32) (v0 : BX4) (v1 : BX9) : Option (Int32 × BX4 × BX9) := f_X4_sum_b60 ONE J9 x1 x3 x4 1 v0 v1
def f_X4_sum_b9B (ONE : BX4 → BX9 → Option (Int32 × BX4 × BX9)) (J9 : Int32 × Int32 × Int32 × BX4 × BX9 → Option (Int32 × BX4 × BX9)) (x1 : Int32) (x2 : Int32) (x3 : Int32) (v0 : BX4) (v1 : BX9) : Option (Int32 × BX4 × BX9) := if (300 : Int32) ≤ x3 then (f_X4_sum_b114 ONE x1 x2 v0 v1) else (if (x2 : Int32) = 0 then (f_X4_sum_b114 ONE x1 x2 v0 v1) else ((f_X4_joinOperation (pX9_kind v1)).bind (fun r_15 => if (r_15 : Int32) = (-1) then (f_X4_sum_b114 ONE x1 x2 v0 v1) else (if (r_15 : Int32) = 9 then (f_X4_sum_b55 ONE J9 x1 x3 r_15 v0 v1) else (if (r_15 : Int32) = 10 then (f_X4_sum_b55 ONE J9 x1 x3 r_15 v0 v1) else (f_X4_sum_b60 ONE J9 x1 x3 r_15 0 v0 v1))))))
def f_X4_sum_b9 (ONE : BX4 → BX9 → Option (Int32 × BX4 × BX9)) : Nat → (Int32 × Int32 × Int32 × BX4 × BX9) → Option (Int32 × BX4 × BX9) := g_lp (fun J z => f_X4_sum_b9B ONE J z.1 z.2.1 z.2.2.1 z.2.2.2.1 z.2.2.2.2)
def fo_X4_sum (ONE : BX4 → BX9 → Option (Int32 × BX4 × BX9)) (v0 : BX4) (v1 : BX9) : Option (Int32 × BX4 × BX9) := g_lt ((-1) : Int32) (fun x1_19 => (ONE v0 v1).bind (fun r_20 => f_X4_sum_b9 ONE fU (x1_19, r_20.1, 0, r_20.2.1, r_20.2.2)))
set_option maxHeartbeats 4000000 in
set_option maxRecDepth 100000 in
theorem ko_X4_sum {l : Launch} {D : va_G} {cI cJ cZ cY : ClassId} {tX tY : Nat} (d : Nat) (ONE : BX4 → BX9 → Option (Int32 × BX4 × BX9)) (hONE : ∀ {sz : Nat} (a0 a0_code a1 a1_kinds a1_starts a1_values : Nat) (v0 : BX4) (v1 : BX9) (res : Int32 × BX4 × BX9), ONE v0 v1 = some res → Met l yX4_one (Cond.code yX4_one cX4_one 1 (some .boolean) :: TB) (rO d) (PC D cI cJ cZ cY tX tY [.ref a0] (WS_X4_one cI cJ cZ cY a0 a0_code a1 a1_kinds a1_starts a1_values v0 v1) sz) (va_Qi (fun (r : Int32) (u : BX4 × BX9) => r = res.1 ∧ u = res.2) (BC D (fun u : BX4 × BX9 => WS_X4_one cI cJ cZ cY a0 a0_code a1 a1_kinds a1_starts a1_values u.1 u.2) (va_A (WS_X4_one cI cJ cZ cY a0 a0_code a1 a1_kinds a1_starts a1_values v0 v1) sz)) (va_A (WS_X4_one cI cJ cZ cY a0 a0_code a1 a1_kinds a1_starts a1_values v0 v1) sz)) 0 0 (va_A (WS_X4_one cI cJ cZ cY a0 a0_code a1 a1_kinds a1_starts a1_values v0 v1) sz)) {sz : Nat} (a0 a0_code a1 a1_kinds a1_starts a1_values : Nat) (v0 : BX4) (v1 : BX9) (res : Int32 × BX4 × BX9) (hg : fo_X4_sum ONE v0 v1 = some res) : Met l yX4_sum (Cond.code yX4_sum cX4_sum 6 (some .boolean) :: TB) (rS d) (PC D cI cJ cZ cY tX tY [.ref a0] (WS_X4_sum cI cJ cZ cY a0 a0_code a1 a1_kinds a1_starts a1_values v0 v1) sz) (va_Qi (fun (r : Int32) (u : BX4 × BX9) => r = res.1 ∧ u = res.2) (BC D (fun u : BX4 × BX9 => WS_X4_sum cI cJ cZ cY a0 a0_code a1 a1_kinds a1_starts a1_values u.1 u.2) (va_A (WS_X4_sum cI cJ cZ cY a0 a0_code a1 a1_kinds a1_starts a1_values v0 v1) sz)) (va_A (WS_X4_sum cI cJ cZ cY a0 a0_code a1 a1_kinds a1_starts a1_values v0 v1) sz)) 0 0 (va_A (WS_X4_sum cI cJ cZ cY a0 a0_code a1 a1_kinds a1_starts a1_values v0 v1) sz) := by
  refine Met.ofW (cc := cX4_sum) (maxL := 6) (ret := (some .boolean)) (by decide) rfl ?_
  intro p e s m args below meth c s₁ B hml hv
  obtain ⟨hargs, hsz, hP, hK, hD0, hT⟩ := hv
  have hx := B.exec
  have hb := B.bytes
  have hr := B.returns
  have htb : ∀ w ∈ TB, w.before args s = true := fun w h => atoms_spec (ws := Cond.code yX4_sum cX4_sum 6 (some .boolean) :: TB) B.pre w (List.mem_cons_of_mem _ h)
  have hown : s.vm.findClass "ManyEyes$Parser" = some m.cls := findClass_of_methodNamed B.named
  have hlocks := B.notSynchronized
  subst hsz
  have hD := hD0.self (sz := s.heap.size)
  generalize hAe : va_A (WS_X4_sum cI cJ cZ cY a0 a0_code a1 a1_kinds a1_starts a1_values v0 v1) s.heap.size = A at hD hT ⊢
  have hA : ∀ q : Nat, s.heap.size ≤ q → A q := fun q h => by rw [← hAe]; exact Or.inr h
  have hS : va_S A s.heap s.heap [] := va_S.rf
  have hl := lv_entry ([.ref a0]) (n := 6) (Nat.le_of_ble_eq_true rfl)
  have he : entryFrame m args 6 = F0 m 0 (lg_sl ([.ref a0]) ++ List.replicate (6 - (lg_sl ([.ref a0])).length) Slot.unset).toArray [] := by rw [hargs, lg_entry_eq]
  rw [he]
  generalize (lg_sl ([.ref a0]) ++ List.replicate (6 - (lg_sl ([.ref a0])).length) Slot.unset).toArray = ls at hl ⊢
  have hl : lv_has ls 6 [(0, .ref a0)] := hl
  show W p l e (rS d) s m args below meth c s.heap [] 0 0 _ _
  refine W.genQ (fun Q hQ => ?_)
  have b_114 : ∀ (x1 : Int32) (x2 : Int32) (v0 : BX4) (v1 : BX9) (H : Heap) (locs : List Loc) (ls : Array Slot), va_P D vwCl (WS_X4_sum cI cJ cZ cY a0 a0_code a1 a1_kinds a1_starts a1_values v0 v1) H → va_D A (WS_X4_sum cI cJ cZ cY a0 a0_code a1 a1_kinds a1_starts a1_values v0 v1) → va_S A s.heap H locs → lv_has ls 6 [(0, .ref a0), (1, .int x1), (2, .int x2)] → f_X4_sum_b114 ONE x1 x2 v0 v1 = some res → W p l e (rS d) s m args below meth c H locs 0 0 Q (F0 m 114 ls []) := by
    intro x1 x2 v0 v1 H locs ls hP hD hS hl hg
    unfold f_X4_sum_b114 at hg
    refine lv_iload_n hx hb dX4_sum_114 rfl (lv_at hl 1 rfl) ?_
    refine lv_iconst (v := (-1)) hx hb dX4_sum_115 (by decide) ?_
    refine lv_icmp_eq (tgt := 125) hx hb dX4_sum_116 (by decide) (fun c_1 => ?_) (fun c_1 => ?_)
    · have hg := g_it hg c_1
      refine lv_iload_n hx hb dX4_sum_125 rfl (lv_at hl 2 rfl) ?_
      obtain ⟨h_2, hg⟩ := g_gde hg
      have hg := Option.some.inj hg
      rw [hQ]
      exact W.zret (v := x2) (ty := .boolean) hx hb hr (bool_nar h_2) (fun t ht hW => ⟨⟨x2, (v0, v1), rfl, ⟨by rw [← hg], by rw [← hg]⟩, by rw [ht]; exact hP, hD⟩, hS.F ht⟩) hS.2.2 dX4_sum_126
    · have hg := g_if hg c_1
      refine lv_aload_n hx hb dX4_sum_119 rfl (lv_at hl 0 rfl) ?_
      refine lv_iload_n hx hb dX4_sum_120 rfl (lv_at hl 1 rfl) ?_
      refine lv_iconst (v := 0) hx hb dX4_sum_121 (by decide) ?_
      obtain ⟨r_3, hr_3, hg⟩ := g_bd hg
      refine cc_v (va_runV (C := RX4) (As := [.int x1, .int 0]) (rest := []) ⟨hx, hb, hml, hown, htb⟩ (k_X4_emit a0 a0_code a1 v0 x1 0 r_3 hr_3) (cw_V 2 htb tg_665 tg_11 tg_662 tg_664 ts_12 rfl rfl (by decide +kernel) (by constructor <;> (dsimp only [rS, rO, rB, rm_X4_emit]; omega))) ⟨PC.blind, va_recv hK.1 hP (ci := 3) (q0 := 0) rfl rfl, PC.pre hK hT hP hD hS hA [0, 1] rfl (by decide)⟩ rfl rfl hl.1 rfl (lv_room (Nat.le_of_ble_eq_true rfl)) dX4_sum_122 ⟨Nat.le_of_ble_eq_true rfl, Nat.le_of_ble_eq_true rfl⟩) hP hD hS hA [0, 1] [2, 3, 4, 5] rfl rfl (by decide) (by decide) (fun u9 H locs hw hP hD hS => ?_)
      have hw := hw.symm
      subst hw
      have hP : va_P D vwCl (WS_X4_sum cI cJ cZ cY a0 a0_code a1 a1_kinds a1_starts a1_values r_3 v1) H := hP.sub [4, 5, 0, 1, 2, 3] rfl
      have hD : va_D A (WS_X4_sum cI cJ cZ cY a0 a0_code a1 a1_kinds a1_starts a1_values r_3 v1) := hD.sub [4, 5, 0, 1, 2, 3] (by decide) rfl
      refine lv_iload_n hx hb dX4_sum_125 rfl (lv_at hl 2 rfl) ?_
      obtain ⟨h_4, hg⟩ := g_gde hg
      have hg := Option.some.inj hg
      rw [hQ]
      exact W.zret (v := x2) (ty := .boolean) hx hb hr (bool_nar h_4) (fun t ht hW => ⟨⟨x2, (r_3, v1), rfl, ⟨by rw [← hg], by rw [← hg]⟩, by rw [ht]; exact hP, hD⟩, hS.F ht⟩) hS.2.2 dX4_sum_126
  have b_108 : ∀ (J9 : (Int32 × Int32 × Int32 × BX4 × BX9) → Option (Int32 × BX4 × BX9)) (hJ9 : ∀ (x1 : Int32) (x2 : Int32) (x3 : Int32) (v0 : BX4) (v1 : BX9) (H : Heap) (locs : List Loc) (ls : Array Slot), va_P D vwCl (WS_X4_sum cI cJ cZ cY a0 a0_code a1 a1_kinds a1_starts a1_values v0 v1) H → va_D A (WS_X4_sum cI cJ cZ cY a0 a0_code a1 a1_kinds a1_starts a1_values v0 v1) → va_S A s.heap H locs → lv_has ls 6 [(0, .ref a0), (1, .int x1), (2, .int x2), (3, .int x3)] → J9 (x1, x2, x3, v0, v1) = some res → W p l e (rS d) s m args below meth c H locs 0 0 Q (F0 m 9 ls [])), ∀ (x1 : Int32) (x2 : Int32) (x3 : Int32) (v0 : BX4) (v1 : BX9) (H : Heap) (locs : List Loc) (ls : Array Slot), va_P D vwCl (WS_X4_sum cI cJ cZ cY a0 a0_code a1 a1_kinds a1_starts a1_values v0 v1) H → va_D A (WS_X4_sum cI cJ cZ cY a0 a0_code a1 a1_kinds a1_starts a1_values v0 v1) → va_S A s.heap H locs → lv_has ls 6 [(0, .ref a0), (1, .int x1), (2, .int x2), (3, .int x3)] → f_X4_sum_b108 ONE J9 x1 x2 x3 v0 v1 = some res → W p l e (rS d) s m args below meth c H locs 0 0 Q (F0 m 108 ls []) := by
    intro J9 hJ9 x1 x2 x3 v0 v1 H locs ls hP hD hS hl hg
    unfold f_X4_sum_b108 at hg
    obtain ⟨x3_5, ex3_5⟩ : ∃ z : Int32, z = x3 + 1 := ⟨_, rfl⟩
    have hg := g_lte hg x3_5 ex3_5
    refine lv_iinc (v := x3_5) (lv' := [(3, .int x3_5), (0, .ref a0), (1, .int x1), (2, .int x2)]) hx hb dX4_sum_108 hl (k := 3) rfl (by rw [ex3_5]; rfl) (by decide) rfl (fun ls hl => ?_)
    refine lv_goto (tgt := 9) hx hb dX4_sum_111 (by decide) ?_
    exact hJ9 x1 x2 x3_5 v0 v1 H locs ls hP hD hS (lv_sub hl [1, 2, 3, 0] rfl) hg
  have b_78 : ∀ (J9 : (Int32 × Int32 × Int32 × BX4 × BX9) → Option (Int32 × BX4 × BX9)) (hJ9 : ∀ (x1 : Int32) (x2 : Int32) (x3 : Int32) (v0 : BX4) (v1 : BX9) (H : Heap) (locs : List Loc) (ls : Array Slot), va_P D vwCl (WS_X4_sum cI cJ cZ cY a0 a0_code a1 a1_kinds a1_starts a1_values v0 v1) H → va_D A (WS_X4_sum cI cJ cZ cY a0 a0_code a1 a1_kinds a1_starts a1_values v0 v1) → va_S A s.heap H locs → lv_has ls 6 [(0, .ref a0), (1, .int x1), (2, .int x2), (3, .int x3)] → J9 (x1, x2, x3, v0, v1) = some res → W p l e (rS d) s m args below meth c H locs 0 0 Q (F0 m 9 ls [])), ∀ (x1 : Int32) (x3 : Int32) (x4 : Int32) (x5 : Int32) (v0 : BX4) (v1 : BX9) (H : Heap) (locs : List Loc) (ls : Array Slot), va_P D vwCl (WS_X4_sum cI cJ cZ cY a0 a0_code a1 a1_kinds a1_starts a1_values v0 v1) H → va_D A (WS_X4_sum cI cJ cZ cY a0 a0_code a1 a1_kinds a1_starts a1_values v0 v1) → va_S A s.heap H locs → lv_has ls 6 [(0, .ref a0), (1, .int x1), (3, .int x3), (4, .int x4), (5, .int x5)] → f_X4_sum_b78 ONE J9 x1 x3 x4 x5 v0 v1 = some res → W p l e (rS d) s m args below meth c H locs 0 0 Q (F0 m 78 ls []) := by
    intro J9 hJ9 x1 x3 x4 x5 v0 v1 H locs ls hP hD hS hl hg
    unfold f_X4_sum_b78 at hg
    refine lv_aload_n hx hb dX4_sum_78 rfl (lv_at hl 0 rfl) ?_
    refine va_get (ci := 3) (v := .ref a1) (C := RX4) (T := TX4) (N := 8) hx hb htb uX4 hown hK.1 hP 0 rfl rfl 0 (by decide) (htb _ tg_385) (fun _ h9 => h9) rfl dX4_sum_79 ?_
    obtain ⟨r_6, hr_6, hg⟩ := g_bd hg
    refine cc_v (va_runV (C := RX9) (As := []) (rest := []) ⟨hx, hb, hml, hown, htb⟩ (k_X9_advance a1 a1_kinds a1_starts a1_values v1 r_6 hr_6) (cw_V 0 htb tg_633 tg_12 tg_645 tg_631 tg_632 rfl rfl (by decide +kernel) (by constructor <;> (dsimp only [rS, rO, rB, rm_X9_advance]; omega))) ⟨PC.blind, va_recv hK.1 hP (ci := 8) (q0 := 2) rfl rfl, PC.pre hK hT hP hD hS hA [2, 3, 4, 5] rfl (by decide)⟩ rfl rfl hl.1 rfl (lv_room (Nat.le_of_ble_eq_true rfl)) dX4_sum_82 ⟨Nat.le_of_ble_eq_true rfl, Nat.le_of_ble_eq_true rfl⟩) hP hD hS hA [2, 3, 4, 5] [0, 1] rfl rfl (by decide) (by decide) (fun u9 H locs hw hP hD hS => ?_)
    have hw := hw.symm
    subst hw
    have hP : va_P D vwCl (WS_X4_sum cI cJ cZ cY a0 a0_code a1 a1_kinds a1_starts a1_values v0 r_6) H := hP.sub [0, 1, 2, 3, 4, 5] rfl
    have hD : va_D A (WS_X4_sum cI cJ cZ cY a0 a0_code a1 a1_kinds a1_starts a1_values v0 r_6) := hD.sub [0, 1, 2, 3, 4, 5] (by decide) rfl
    refine lv_aload_n hx hb dX4_sum_85 rfl (lv_at hl 0 rfl) ?_
    obtain ⟨r_7, hr_7, hg⟩ := g_bd hg
    refine cc_i (va_runV (C := RX4) (As := []) (rest := []) ⟨hx, hb, hml, hown, htb⟩ (hONE a0 a0_code a1 a1_kinds a1_starts a1_values v0 r_6 r_7 hr_7) (cw_V 0 htb tg_657 tg_11 tg_654 tg_656 ts_10 rfl rfl (by decide +kernel) (by constructor <;> (dsimp only [rS, rO, rB]; omega))) ⟨PC.blind, va_recv hK.1 hP (ci := 3) (q0 := 0) rfl rfl, PC.pre hK hT hP hD hS hA [0, 1, 2, 3, 4, 5] rfl (by decide)⟩ rfl rfl hl.1 rfl (lv_room (Nat.le_of_ble_eq_true rfl)) dX4_sum_86 ⟨Nat.le_of_ble_eq_true rfl, Nat.le_of_ble_eq_true rfl⟩) hP hD hS hA [0, 1, 2, 3, 4, 5] [] rfl rfl (by decide) (by decide) (fun r9 u9 H locs hw hP hD hS => ?_)
    obtain ⟨rfl, rfl⟩ := hw
    have hP : va_P D vwCl (WS_X4_sum cI cJ cZ cY a0 a0_code a1 a1_kinds a1_starts a1_values r_7.2.1 r_7.2.2) H := hP.sub [0, 1, 2, 3, 4, 5] rfl
    have hD : va_D A (WS_X4_sum cI cJ cZ cY a0 a0_code a1 a1_kinds a1_starts a1_values r_7.2.1 r_7.2.2) := hD.sub [0, 1, 2, 3, 4, 5] (by decide) rfl
    refine lv_istore_n (lv' := [(2, .int r_7.1), (0, .ref a0), (1, .int x1), (3, .int x3), (4, .int x4), (5, .int x5)]) hx hb dX4_sum_89 rfl hl (by decide) rfl (fun ls hl => ?_)
    refine lv_iload hx hb dX4_sum_90 (lv_at hl 5 rfl) ?_
    refine lv_if_eq (tgt := 105) hx hb dX4_sum_92 (by decide) (fun c_8 => ?_) (fun c_8 => ?_)
    · have hg := g_it hg c_8
      refine lv_iload hx hb dX4_sum_105 (lv_at hl 4 rfl) ?_
      refine lv_istore_n (lv' := [(1, .int x4), (2, .int r_7.1), (0, .ref a0), (3, .int x3), (4, .int x4), (5, .int x5)]) hx hb dX4_sum_107 rfl hl (by decide) rfl (fun ls hl => ?_)
      exact b_108 J9 hJ9 x4 r_7.1 x3 r_7.2.1 r_7.2.2 H locs ls hP hD hS (lv_sub hl [2, 0, 1, 3] rfl) hg
    · have hg := g_if hg c_8
      refine lv_aload_n hx hb dX4_sum_95 rfl (lv_at hl 1 rfl) ?_
      refine lv_iload hx hb dX4_sum_96 (lv_at hl 4 rfl) ?_
      refine lv_iconst (v := 0) hx hb dX4_sum_98 (by decide) ?_
      obtain ⟨r_9, hr_9, hg⟩ := g_bd hg
      refine cc_v (va_runV (C := RX4) (As := [.int x4, .int 0]) (rest := []) ⟨hx, hb, hml, hown, htb⟩ (k_X4_emit a0 a0_code a1 r_7.2.1 x4 0 r_9 hr_9) (cw_V 2 htb tg_665 tg_11 tg_662 tg_664 ts_12 rfl rfl (by decide +kernel) (by constructor <;> (dsimp only [rS, rO, rB, rm_X4_emit]; omega))) ⟨PC.blind, va_recv hK.1 hP (ci := 3) (q0 := 0) rfl rfl, PC.pre hK hT hP hD hS hA [0, 1] rfl (by decide)⟩ rfl rfl hl.1 rfl (lv_room (Nat.le_of_ble_eq_true rfl)) dX4_sum_99 ⟨Nat.le_of_ble_eq_true rfl, Nat.le_of_ble_eq_true rfl⟩) hP hD hS hA [0, 1] [2, 3, 4, 5] rfl rfl (by decide) (by decide) (fun u9 H locs hw hP hD hS => ?_)
      have hw := hw.symm
      subst hw
      have hP : va_P D vwCl (WS_X4_sum cI cJ cZ cY a0 a0_code a1 a1_kinds a1_starts a1_values r_9 r_7.2.2) H := hP.sub [4, 5, 0, 1, 2, 3] rfl
      have hD : va_D A (WS_X4_sum cI cJ cZ cY a0 a0_code a1 a1_kinds a1_starts a1_values r_9 r_7.2.2) := hD.sub [4, 5, 0, 1, 2, 3] (by decide) rfl
      refine lv_goto (tgt := 108) hx hb dX4_sum_102 (by decide) ?_
      exact b_108 J9 hJ9 x1 r_7.1 x3 r_9 r_7.2.2 H locs ls hP hD hS (lv_sub hl [1, 2, 0, 3] rfl) hg
  have b_60 : ∀ (J9 : (Int32 × Int32 × Int32 × BX4 × BX9) → Option (Int32 × BX4 × BX9)) (hJ9 : ∀ (x1 : Int32) (x2 : Int32) (x3 : Int32) (v0 : BX4) (v1 : BX9) (H : Heap) (locs : List Loc) (ls : Array Slot), va_P D vwCl (WS_X4_sum cI cJ cZ cY a0 a0_code a1 a1_kinds a1_starts a1_values v0 v1) H → va_D A (WS_X4_sum cI cJ cZ cY a0 a0_code a1 a1_kinds a1_starts a1_values v0 v1) → va_S A s.heap H locs → lv_has ls 6 [(0, .ref a0), (1, .int x1), (2, .int x2), (3, .int x3)] → J9 (x1, x2, x3, v0, v1) = some res → W p l e (rS d) s m args below meth c H locs 0 0 Q (F0 m 9 ls [])), ∀ (x1 : Int32) (x3 : Int32) (x4 : Int32) (t0 : Int32) (v0 : BX4) (v1 : BX9) (H : Heap) (locs : List Loc) (ls : Array Slot), va_P D vwCl (WS_X4_sum cI cJ cZ cY a0 a0_code a1 a1_kinds a1_starts a1_values v0 v1) H → va_D A (WS_X4_sum cI cJ cZ cY a0 a0_code a1 a1_kinds a1_starts a1_values v0 v1) → va_S A s.heap H locs → lv_has ls 6 [(0, .ref a0), (1, .int x1), (3, .int x3), (4, .int x4)] → f_X4_sum_b60 ONE J9 x1 x3 x4 t0 v0 v1 = some res → W p l e (rS d) s m args below meth c H locs 0 0 Q (F0 m 60 ls [.int t0]) := by
    intro J9 hJ9 x1 x3 x4 t0 v0 v1 H locs ls hP hD hS hl hg
    unfold f_X4_sum_b60 at hg
    refine lv_istore (lv' := [(5, .int t0), (0, .ref a0), (1, .int x1), (3, .int x3), (4, .int x4)]) hx hb dX4_sum_60 hl (by decide) rfl (fun ls hl => ?_)
    refine lv_iload hx hb dX4_sum_62 (lv_at hl 0 rfl) ?_
    refine lv_if_ne (tgt := 78) hx hb dX4_sum_64 (by decide) (fun c_10 => ?_) (fun c_10 => ?_)
    · have hg := g_if hg c_10
      exact b_78 J9 hJ9 x1 x3 x4 t0 v0 v1 H locs ls hP hD hS (lv_sub hl [1, 2, 3, 4, 0] rfl) hg
    · have hg := g_it hg c_10
      refine lv_iload_n hx hb dX4_sum_67 rfl (lv_at hl 2 rfl) ?_
      refine lv_iconst (v := (-1)) hx hb dX4_sum_68 (by decide) ?_
      refine lv_icmp_eq (tgt := 78) hx hb dX4_sum_69 (by decide) (fun c_11 => ?_) (fun c_11 => ?_)
      · have hg := g_it hg c_11
        exact b_78 J9 hJ9 x1 x3 x4 t0 v0 v1 H locs ls hP hD hS (lv_sub hl [1, 2, 3, 4, 0] rfl) hg
      · have hg := g_if hg c_11
        refine lv_aload_n hx hb dX4_sum_72 rfl (lv_at hl 1 rfl) ?_
        refine lv_iload_n hx hb dX4_sum_73 rfl (lv_at hl 2 rfl) ?_
        refine lv_iconst (v := 0) hx hb dX4_sum_74 (by decide) ?_
        obtain ⟨r_12, hr_12, hg⟩ := g_bd hg
        refine cc_v (va_runV (C := RX4) (As := [.int x1, .int 0]) (rest := []) ⟨hx, hb, hml, hown, htb⟩ (k_X4_emit a0 a0_code a1 v0 x1 0 r_12 hr_12) (cw_V 2 htb tg_665 tg_11 tg_662 tg_664 ts_12 rfl rfl (by decide +kernel) (by constructor <;> (dsimp only [rS, rO, rB, rm_X4_emit]; omega))) ⟨PC.blind, va_recv hK.1 hP (ci := 3) (q0 := 0) rfl rfl, PC.pre hK hT hP hD hS hA [0, 1] rfl (by decide)⟩ rfl rfl hl.1 rfl (lv_room (Nat.le_of_ble_eq_true rfl)) dX4_sum_75 ⟨Nat.le_of_ble_eq_true rfl, Nat.le_of_ble_eq_true rfl⟩) hP hD hS hA [0, 1] [2, 3, 4, 5] rfl rfl (by decide) (by decide) (fun u9 H locs hw hP hD hS => ?_)
        have hw := hw.symm
        subst hw
        have hP : va_P D vwCl (WS_X4_sum cI cJ cZ cY a0 a0_code a1 a1_kinds a1_starts a1_values r_12 v1) H := hP.sub [4, 5, 0, 1, 2, 3] rfl
        have hD : va_D A (WS_X4_sum cI cJ cZ cY a0 a0_code a1 a1_kinds a1_starts a1_values r_12 v1) := hD.sub [4, 5, 0, 1, 2, 3] (by decide) rfl
        exact b_78 J9 hJ9 x1 x3 x4 t0 r_12 v1 H locs ls hP hD hS (lv_sub hl [1, 2, 3, 4, 0] rfl) hg
  have b_55 : ∀ (J9 : (Int32 × Int32 × Int32 × BX4 × BX9) → Option (Int32 × BX4 × BX9)) (hJ9 : ∀ (x1 : Int32) (x2 : Int32) (x3 : Int32) (v0 : BX4) (v1 : BX9) (H : Heap) (locs : List Loc) (ls : Array Slot), va_P D vwCl (WS_X4_sum cI cJ cZ cY a0 a0_code a1 a1_kinds a1_starts a1_values v0 v1) H → va_D A (WS_X4_sum cI cJ cZ cY a0 a0_code a1 a1_kinds a1_starts a1_values v0 v1) → va_S A s.heap H locs → lv_has ls 6 [(0, .ref a0), (1, .int x1), (2, .int x2), (3, .int x3)] → J9 (x1, x2, x3, v0, v1) = some res → W p l e (rS d) s m args below meth c H locs 0 0 Q (F0 m 9 ls [])), ∀ (x1 : Int32) (x3 : Int32) (x4 : Int32) (v0 : BX4) (v1 : BX9) (H : Heap) (locs : List Loc) (ls : Array Slot), va_P D vwCl (WS_X4_sum cI cJ cZ cY a0 a0_code a1 a1_kinds a1_starts a1_values v0 v1) H → va_D A (WS_X4_sum cI cJ cZ cY a0 a0_code a1 a1_kinds a1_starts a1_values v0 v1) → va_S A s.heap H locs → lv_has ls 6 [(0, .ref a0), (1, .int x1), (3, .int x3), (4, .int x4)] → f_X4_sum_b55 ONE J9 x1 x3 x4 v0 v1 = some res → W p l e (rS d) s m args below meth c H locs 0 0 Q (F0 m 55 ls []) := by
    intro J9 hJ9 x1 x3 x4 v0 v1 H locs ls hP hD hS hl hg
    unfold f_X4_sum_b55 at hg
    refine lv_iconst (v := 1) hx hb dX4_sum_55 (by decide) ?_
    refine lv_goto (tgt := 60) hx hb dX4_sum_56 (by decide) ?_
    exact b_60 J9 hJ9 x1 x3 x4 1 v0 v1 H locs ls hP hD hS (lv_sub hl [0, 1, 2, 3] rfl) hg
  have b_9 : ∀ (n : Nat), ∀ (x1 : Int32) (x2 : Int32) (x3 : Int32) (v0 : BX4) (v1 : BX9) (H : Heap) (locs : List Loc) (ls : Array Slot), va_P D vwCl (WS_X4_sum cI cJ cZ cY a0 a0_code a1 a1_kinds a1_starts a1_values v0 v1) H → va_D A (WS_X4_sum cI cJ cZ cY a0 a0_code a1 a1_kinds a1_starts a1_values v0 v1) → va_S A s.heap H locs → lv_has ls 6 [(0, .ref a0), (1, .int x1), (2, .int x2), (3, .int x3)] → f_X4_sum_b9 ONE n (x1, x2, x3, v0, v1) = some res → W p l e (rS d) s m args below meth c H locs 0 0 Q (F0 m 9 ls []) := by
    intro n
    induction n with
    | zero =>
      intro x1 x2 x3 v0 v1 H locs ls hP hD hS hl hg
      exact (g_lp0 hg).elim
    | succ n ih =>
      intro x1 x2 x3 v0 v1 H locs ls hP hD hS hl hg
      have hg : f_X4_sum_b9B ONE (f_X4_sum_b9 ONE n) x1 x2 x3 v0 v1 = some res := hg
      unfold f_X4_sum_b9B at hg
      refine lv_iload_n hx hb dX4_sum_9 rfl (lv_at hl 3 rfl) ?_
      refine lv_sipush (v := 300) hx hb dX4_sum_10 (by decide) ?_
      refine lv_icmp_ge (tgt := 114) hx hb dX4_sum_13 (by decide) (fun c_13 => ?_) (fun c_13 => ?_)
      · have hg := g_it hg c_13
        exact b_114 x1 x2 v0 v1 H locs ls hP hD hS (lv_sub hl [0, 1, 2] rfl) hg
      · have hg := g_if hg c_13
        refine lv_iload_n hx hb dX4_sum_16 rfl (lv_at hl 2 rfl) ?_
        refine lv_if_eq (tgt := 114) hx hb dX4_sum_17 (by decide) (fun c_14 => ?_) (fun c_14 => ?_)
        · have hg := g_it hg c_14
          exact b_114 x1 x2 v0 v1 H locs ls hP hD hS (lv_sub hl [0, 1, 2] rfl) hg
        · have hg := g_if hg c_14
          refine lv_aload_n hx hb dX4_sum_20 rfl (lv_at hl 0 rfl) ?_
          refine va_get (ci := 3) (v := .ref a1) (C := RX4) (T := TX4) (N := 8) hx hb htb uX4 hown hK.1 hP 0 rfl rfl 0 (by decide) (htb _ tg_385) (fun _ h9 => h9) rfl dX4_sum_21 ?_
          refine va_get (ci := 8) (v := .int (pX9_kind v1)) (C := RX9) (T := TX9) (N := 8) hx hb htb uX9 hown hK.1 hP 2 rfl rfl 5 (by decide) (htb _ tg_362) (fun _ h9 => h9) rfl dX4_sum_24 ?_
          obtain ⟨r_15, hr_15, hg⟩ := g_bd hg
          refine cc_i (va_runS (As := [.int (pX9_kind v1)]) (rest := []) ⟨hx, hb, hml, hown, htb⟩ (k_X4_joinOperation (pX9_kind v1) r_15 hr_15) (cw_S 1 htb tg_692 tg_11 tg_690 tg_691 rfl rfl (by decide +kernel) (by constructor <;> (dsimp only [rS, rO, rB, rm_X4_joinOperation]; omega))) ⟨PC.blind, PC.pre hK hT hP hD hS hA [] rfl (by decide)⟩ rfl rfl hl.1 rfl (lv_room (Nat.le_of_ble_eq_true rfl)) dX4_sum_27 ⟨Nat.le_of_ble_eq_true rfl, Nat.le_of_ble_eq_true rfl⟩) hP hD hS hA [] [0, 1, 2, 3, 4, 5] rfl rfl (by decide) (by decide) (fun r9 u9 H locs hw hP hD hS => ?_)
          have hw := hw.symm
          subst hw
          have hP : va_P D vwCl (WS_X4_sum cI cJ cZ cY a0 a0_code a1 a1_kinds a1_starts a1_values v0 v1) H := hP.sub [0, 1, 2, 3, 4, 5] rfl
          have hD : va_D A (WS_X4_sum cI cJ cZ cY a0 a0_code a1 a1_kinds a1_starts a1_values v0 v1) := hD.sub [0, 1, 2, 3, 4, 5] (by decide) rfl
          refine lv_istore (lv' := [(4, .int r_15), (0, .ref a0), (1, .int x1), (2, .int x2), (3, .int x3)]) hx hb dX4_sum_30 hl (by decide) rfl (fun ls hl => ?_)
          refine lv_iload hx hb dX4_sum_32 (lv_at hl 0 rfl) ?_
          refine lv_iconst (v := (-1)) hx hb dX4_sum_34 (by decide) ?_
          refine lv_icmp_ne (tgt := 41) hx hb dX4_sum_35 (by decide) (fun c_16 => ?_) (fun c_16 => ?_)
          · have hg := g_if hg c_16
            refine lv_iload hx hb dX4_sum_41 (lv_at hl 0 rfl) ?_
            refine lv_bipush (v := 9) hx hb dX4_sum_43 (by decide) ?_
            refine lv_icmp_eq (tgt := 55) hx hb dX4_sum_45 (by decide) (fun c_17 => ?_) (fun c_17 => ?_)
            · have hg := g_it hg c_17
              exact b_55 (f_X4_sum_b9 ONE n) ih x1 x3 r_15 v0 v1 H locs ls hP hD hS (lv_sub hl [1, 2, 4, 0] rfl) hg
            · have hg := g_if hg c_17
              refine lv_iload hx hb dX4_sum_48 (lv_at hl 0 rfl) ?_
              refine lv_bipush (v := 10) hx hb dX4_sum_50 (by decide) ?_
              refine lv_icmp_ne (tgt := 59) hx hb dX4_sum_52 (by decide) (fun c_18 => ?_) (fun c_18 => ?_)
              · have hg := g_if hg c_18
                refine lv_iconst (v := 0) hx hb dX4_sum_59 (by decide) ?_
                exact b_60 (f_X4_sum_b9 ONE n) ih x1 x3 r_15 0 v0 v1 H locs ls hP hD hS (lv_sub hl [1, 2, 4, 0] rfl) hg
              · have hg := g_it hg c_18
                exact b_55 (f_X4_sum_b9 ONE n) ih x1 x3 r_15 v0 v1 H locs ls hP hD hS (lv_sub hl [1, 2, 4, 0] rfl) hg
          · have hg := g_it hg c_16
            refine lv_goto (tgt := 114) hx hb dX4_sum_38 (by decide) ?_
            exact b_114 x1 x2 v0 v1 H locs ls hP hD hS (lv_sub hl [1, 2, 3] rfl) hg
  generalize hHe : s.heap = H at hP ⊢
  have hS : va_S A s.heap H [] := by rw [← hHe]; exact va_S.rf
  generalize ([] : List Loc) = locs at hS ⊢
  unfold fo_X4_sum at hg
  refine lv_iconst (v := (-1)) hx hb dX4_sum_0 (by decide) ?_
  refine lv_topi (fun x1_19 ex1_19 => ?_)
  have hg := g_lte hg x1_19 ex1_19
  refine lv_istore_n (lv' := [(1, .int x1_19), (0, .ref a0)]) hx hb dX4_sum_1 rfl hl (by decide) rfl (fun ls hl => ?_)
  refine lv_aload_n hx hb dX4_sum_2 rfl (lv_at hl 1 rfl) ?_
  obtain ⟨r_20, hr_20, hg⟩ := g_bd hg
  refine cc_i (va_runV (C := RX4) (As := []) (rest := []) ⟨hx, hb, hml, hown, htb⟩ (hONE a0 a0_code a1 a1_kinds a1_starts a1_values v0 v1 r_20 hr_20) (cw_V 0 htb tg_657 tg_11 tg_654 tg_656 ts_10 rfl rfl (by decide +kernel) (by constructor <;> (dsimp only [rS, rO, rB]; omega))) ⟨PC.blind, va_recv hK.1 hP (ci := 3) (q0 := 0) rfl rfl, PC.pre hK hT hP hD hS hA [0, 1, 2, 3, 4, 5] rfl (by decide)⟩ rfl rfl hl.1 rfl (lv_room (Nat.le_of_ble_eq_true rfl)) dX4_sum_3 ⟨Nat.le_of_ble_eq_true rfl, Nat.le_of_ble_eq_true rfl⟩) hP hD hS hA [0, 1, 2, 3, 4, 5] [] rfl rfl (by decide) (by decide) (fun r9 u9 H locs hw hP hD hS => ?_)
  obtain ⟨rfl, rfl⟩ := hw
  have hP : va_P D vwCl (WS_X4_sum cI cJ cZ cY a0 a0_code a1 a1_kinds a1_starts a1_values r_20.2.1 r_20.2.2) H := hP.sub [0, 1, 2, 3, 4, 5] rfl
  have hD : va_D A (WS_X4_sum cI cJ cZ cY a0 a0_code a1 a1_kinds a1_starts a1_values r_20.2.1 r_20.2.2) := hD.sub [0, 1, 2, 3, 4, 5] (by decide) rfl
  refine lv_istore_n (lv' := [(2, .int r_20.1), (1, .int x1_19), (0, .ref a0)]) hx hb dX4_sum_6 rfl hl (by decide) rfl (fun ls hl => ?_)
  refine lv_iconst (v := 0) hx hb dX4_sum_7 (by decide) ?_
  refine lv_istore_n (lv' := [(3, .int 0), (2, .int r_20.1), (1, .int x1_19), (0, .ref a0)]) hx hb dX4_sum_8 rfl hl (by decide) rfl (fun ls hl => ?_)
  exact b_9 fU x1_19 r_20.1 0 r_20.2.1 r_20.2.2 H locs ls hP hD hS (lv_sub hl [3, 2, 1, 0] rfl) hg

def fr_ : Nat → (BX4 → BX9 → Option (Int32 × BX4 × BX9)) × (BX4 → BX9 → Option (Int32 × BX4 × BX9))
  | 0 => (fun _ _ => none, fun _ _ => none)
  | d + 1 => (fo_X4_sum (fo_X4_one (fr_ d).1 (fr_ d).2), fo_X4_one (fr_ d).1 (fr_ d).2)
theorem kr_ {l : Launch} {D : va_G} {cI cJ cZ cY : ClassId} {tX tY : Nat} : ∀ d : Nat, (∀ {sz : Nat} (a0 a0_code a1 a1_kinds a1_starts a1_values : Nat) (v0 : BX4) (v1 : BX9) (res : Int32 × BX4 × BX9), (fr_ d).1 v0 v1 = some res → Met l yX4_sum (Cond.code yX4_sum cX4_sum 6 (some .boolean) :: TB) (rS d) (PC D cI cJ cZ cY tX tY [.ref a0] (WS_X4_sum cI cJ cZ cY a0 a0_code a1 a1_kinds a1_starts a1_values v0 v1) sz) (va_Qi (fun (r : Int32) (u : BX4 × BX9) => r = res.1 ∧ u = res.2) (BC D (fun u : BX4 × BX9 => WS_X4_sum cI cJ cZ cY a0 a0_code a1 a1_kinds a1_starts a1_values u.1 u.2) (va_A (WS_X4_sum cI cJ cZ cY a0 a0_code a1 a1_kinds a1_starts a1_values v0 v1) sz)) (va_A (WS_X4_sum cI cJ cZ cY a0 a0_code a1 a1_kinds a1_starts a1_values v0 v1) sz)) 0 0 (va_A (WS_X4_sum cI cJ cZ cY a0 a0_code a1 a1_kinds a1_starts a1_values v0 v1) sz)) ∧ (∀ {sz : Nat} (a0 a0_code a1 a1_kinds a1_starts a1_values : Nat) (v0 : BX4) (v1 : BX9) (res : Int32 × BX4 × BX9), (fr_ d).2 v0 v1 = some res → Met l yX4_one (Cond.code yX4_one cX4_one 1 (some .boolean) :: TB) (rO d) (PC D cI cJ cZ cY tX tY [.ref a0] (WS_X4_one cI cJ cZ cY a0 a0_code a1 a1_kinds a1_starts a1_values v0 v1) sz) (va_Qi (fun (r : Int32) (u : BX4 × BX9) => r = res.1 ∧ u = res.2) (BC D (fun u : BX4 × BX9 => WS_X4_one cI cJ cZ cY a0 a0_code a1 a1_kinds a1_starts a1_values u.1 u.2) (va_A (WS_X4_one cI cJ cZ cY a0 a0_code a1 a1_kinds a1_starts a1_values v0 v1) sz)) (va_A (WS_X4_one cI cJ cZ cY a0 a0_code a1 a1_kinds a1_starts a1_values v0 v1) sz)) 0 0 (va_A (WS_X4_one cI cJ cZ cY a0 a0_code a1 a1_kinds a1_starts a1_values v0 v1) sz))
  | 0 => ⟨fun a0 a0_code a1 a1_kinds a1_starts a1_values v0 v1 res hg => absurd (show (none : Option (Int32 × BX4 × BX9)) = some res from hg) (fun h => by cases h), fun a0 a0_code a1 a1_kinds a1_starts a1_values v0 v1 res hg => absurd (show (none : Option (Int32 × BX4 × BX9)) = some res from hg) (fun h => by cases h)⟩
  | d + 1 => by
    obtain ⟨hS, hO⟩ := kr_ d
    have hO1 : ∀ {sz : Nat} (a0 a0_code a1 a1_kinds a1_starts a1_values : Nat) (v0 : BX4) (v1 : BX9) (res : Int32 × BX4 × BX9), (fr_ (d + 1)).2 v0 v1 = some res → Met l yX4_one (Cond.code yX4_one cX4_one 1 (some .boolean) :: TB) (rO (d + 1)) (PC D cI cJ cZ cY tX tY [.ref a0] (WS_X4_one cI cJ cZ cY a0 a0_code a1 a1_kinds a1_starts a1_values v0 v1) sz) (va_Qi (fun (r : Int32) (u : BX4 × BX9) => r = res.1 ∧ u = res.2) (BC D (fun u : BX4 × BX9 => WS_X4_one cI cJ cZ cY a0 a0_code a1 a1_kinds a1_starts a1_values u.1 u.2) (va_A (WS_X4_one cI cJ cZ cY a0 a0_code a1 a1_kinds a1_starts a1_values v0 v1) sz)) (va_A (WS_X4_one cI cJ cZ cY a0 a0_code a1 a1_kinds a1_starts a1_values v0 v1) sz)) 0 0 (va_A (WS_X4_one cI cJ cZ cY a0 a0_code a1 a1_kinds a1_starts a1_values v0 v1) sz) := fun a0 a0_code a1 a1_kinds a1_starts a1_values v0 v1 res hg => ko_X4_one d (fr_ d).1 (fr_ d).2 (ko_X4_bracketed d (fr_ d).1 hS) (ko_X4_negated d (fr_ d).2 hO) (ko_X4_chosen d (fr_ d).1 hS) a0 a0_code a1 a1_kinds a1_starts a1_values v0 v1 res hg
    exact ⟨fun a0 a0_code a1 a1_kinds a1_starts a1_values v0 v1 res hg => ko_X4_sum (d + 1) _ hO1 a0 a0_code a1 a1_kinds a1_starts a1_values v0 v1 res hg, hO1⟩
def f_X4_sum (v0 : BX4) (v1 : BX9) : Option (Int32 × BX4 × BX9) := (fr_ 10).1 v0 v1
def f_X4_one (v0 : BX4) (v1 : BX9) : Option (Int32 × BX4 × BX9) := (fr_ 10).2 v0 v1
abbrev rm_X4_sum : Room := { frames := 60, cells := 0, slots := 0, locals := 2400 }
abbrev rm_X4_one : Room := { frames := 59, cells := 0, slots := 0, locals := 2340 }
theorem k_X4_sum {l : Launch} {D : va_G} {cI cJ cZ cY : ClassId} {tX tY : Nat} : ∀ {sz : Nat} (a0 a0_code a1 a1_kinds a1_starts a1_values : Nat) (v0 : BX4) (v1 : BX9) (res : Int32 × BX4 × BX9), f_X4_sum v0 v1 = some res → Met l yX4_sum (Cond.code yX4_sum cX4_sum 6 (some .boolean) :: TB) rm_X4_sum (PC D cI cJ cZ cY tX tY [.ref a0] (WS_X4_sum cI cJ cZ cY a0 a0_code a1 a1_kinds a1_starts a1_values v0 v1) sz) (va_Qi (fun (r : Int32) (u : BX4 × BX9) => r = res.1 ∧ u = res.2) (BC D (fun u : BX4 × BX9 => WS_X4_sum cI cJ cZ cY a0 a0_code a1 a1_kinds a1_starts a1_values u.1 u.2) (va_A (WS_X4_sum cI cJ cZ cY a0 a0_code a1 a1_kinds a1_starts a1_values v0 v1) sz)) (va_A (WS_X4_sum cI cJ cZ cY a0 a0_code a1 a1_kinds a1_starts a1_values v0 v1) sz)) 0 0 (va_A (WS_X4_sum cI cJ cZ cY a0 a0_code a1 a1_kinds a1_starts a1_values v0 v1) sz) := (kr_ 10).1


/-! ManyEyes$Parser.letClause()V -/
def WS_X4_letClause (cI cJ cZ cY : ClassId) (a0 a0_code a1 a1_kinds a1_starts a1_values : Nat) (v0 : BX4) (v1 : BX9) : va_W := (GX4 cI cJ cZ cY a0 a0_code a1 v0) ++ ((GX9 cI cJ cZ cY a1 a1_kinds a1_starts a1_values v1))
def f_X4_letClause (v0 : BX4) (v1 : BX9) : Option (BX4 × BX9) := g_lt (((pX9_value v1) - 65) : Int32) (fun x1_1 => if ((pX9_kind v1) : Int32) = (-4) then (if ((((pX4_told v0) >>> (x1_1 &&& 31)) &&& 1) : Int32) = 0 then ((f_X9_advance v1).bind (fun r_4 => (f_X4_sum v0 r_4).bind (fun r_5 => if (r_5.1 : Int32) = 0 then (some (r_5.2.1, r_5.2.2)) else ((f_X4_expect r_5.2.1 r_5.2.2 59).bind (fun r_7 => if (r_7.1 : Int32) = 0 then (some (r_7.2.1, r_7.2.2)) else ((f_X4_emit r_7.2.1 21 x1_1).bind (fun r_9 => g_lt (((pX4_told r_9) ||| ((1 : Int32) <<< (x1_1 &&& 31))) : Int32) (fun x_10 => g_lt (sX4_told r_9 x_10) (fun v0_11 => some (v0_11, r_7.2.2)))))))))) else ((f_X4_refuse v0 v1 4).bind (fun r_12 => some (r_12.2, v1)))) else ((f_X4_refuse v0 v1 1).bind (fun r_13 => some (r_13.2, v1))))
abbrev rm_X4_letClause : Room := { frames := 61, cells := 0, slots := 0, locals := 2425 }
set_option maxHeartbeats 4000000 in
set_option maxRecDepth 100000 in
theorem k_X4_letClause {l : Launch} {D : va_G} {cI cJ cZ cY : ClassId} {tX tY : Nat} {sz : Nat} (a0 a0_code a1 a1_kinds a1_starts a1_values : Nat) (v0 : BX4) (v1 : BX9) (res : BX4 × BX9) (hg : f_X4_letClause v0 v1 = some res) : Met l yX4_letClause (Cond.code yX4_letClause cX4_letClause 2 none :: TB) rm_X4_letClause (PC D cI cJ cZ cY tX tY [.ref a0] (WS_X4_letClause cI cJ cZ cY a0 a0_code a1 a1_kinds a1_starts a1_values v0 v1) sz) (va_Qv (fun (u : BX4 × BX9) => u = res) (BC D (fun u : BX4 × BX9 => WS_X4_letClause cI cJ cZ cY a0 a0_code a1 a1_kinds a1_starts a1_values u.1 u.2) (va_A (WS_X4_letClause cI cJ cZ cY a0 a0_code a1 a1_kinds a1_starts a1_values v0 v1) sz)) (va_A (WS_X4_letClause cI cJ cZ cY a0 a0_code a1 a1_kinds a1_starts a1_values v0 v1) sz)) 0 0 (va_A (WS_X4_letClause cI cJ cZ cY a0 a0_code a1 a1_kinds a1_starts a1_values v0 v1) sz) := by
  refine Met.ofW (cc := cX4_letClause) (maxL := 2) (ret := none) (by decide) rfl ?_
  intro p e s m args below meth c s₁ B hml hv
  obtain ⟨hargs, hsz, hP, hK, hD0, hT⟩ := hv
  have hx := B.exec
  have hb := B.bytes
  have hr := B.returns
  have htb : ∀ w ∈ TB, w.before args s = true := fun w h => atoms_spec (ws := Cond.code yX4_letClause cX4_letClause 2 none :: TB) B.pre w (List.mem_cons_of_mem _ h)
  have hown : s.vm.findClass "ManyEyes$Parser" = some m.cls := findClass_of_methodNamed B.named
  have hlocks := B.notSynchronized
  subst hsz
  have hD := hD0.self (sz := s.heap.size)
  generalize hAe : va_A (WS_X4_letClause cI cJ cZ cY a0 a0_code a1 a1_kinds a1_starts a1_values v0 v1) s.heap.size = A at hD hT ⊢
  have hA : ∀ q : Nat, s.heap.size ≤ q → A q := fun q h => by rw [← hAe]; exact Or.inr h
  have hS : va_S A s.heap s.heap [] := va_S.rf
  have hl := lv_entry ([.ref a0]) (n := 2) (Nat.le_of_ble_eq_true rfl)
  have he : entryFrame m args 2 = F0 m 0 (lg_sl ([.ref a0]) ++ List.replicate (2 - (lg_sl ([.ref a0])).length) Slot.unset).toArray [] := by rw [hargs, lg_entry_eq]
  rw [he]
  generalize (lg_sl ([.ref a0]) ++ List.replicate (2 - (lg_sl ([.ref a0])).length) Slot.unset).toArray = ls at hl ⊢
  have hl : lv_has ls 2 [(0, .ref a0)] := hl
  show W p l e rm_X4_letClause s m args below meth c s.heap [] 0 0 _ _
  refine W.genQ (fun Q hQ => ?_)
  generalize hHe : s.heap = H at hP ⊢
  have hS : va_S A s.heap H [] := by rw [← hHe]; exact va_S.rf
  generalize ([] : List Loc) = locs at hS ⊢
  unfold f_X4_letClause at hg
  refine lv_aload_n hx hb dX4_letClause_0 rfl (lv_at hl 0 rfl) ?_
  refine va_get (ci := 3) (v := .ref a1) (C := RX4) (T := TX4) (N := 8) hx hb htb uX4 hown hK.1 hP 0 rfl rfl 0 (by decide) (htb _ tg_385) (fun _ h9 => h9) rfl dX4_letClause_1 ?_
  refine va_get (ci := 8) (v := .int (pX9_value v1)) (C := RX9) (T := TX9) (N := 8) hx hb htb uX9 hown hK.1 hP 2 rfl rfl 7 (by decide) (htb _ tg_367) (fun _ h9 => h9) rfl dX4_letClause_4 ?_
  refine lv_bipush (v := 65) hx hb dX4_letClause_7 (by decide) ?_
  refine lv_isub hx hb dX4_letClause_9 ?_
  refine lv_topi (fun x1_1 ex1_1 => ?_)
  have hg := g_lte hg x1_1 ex1_1
  refine lv_istore_n (lv' := [(1, .int x1_1), (0, .ref a0)]) hx hb dX4_letClause_10 rfl hl (by decide) rfl (fun ls hl => ?_)
  refine lv_aload_n hx hb dX4_letClause_11 rfl (lv_at hl 1 rfl) ?_
  refine va_get (ci := 3) (v := .ref a1) (C := RX4) (T := TX4) (N := 8) hx hb htb uX4 hown hK.1 hP 0 rfl rfl 0 (by decide) (htb _ tg_385) (fun _ h9 => h9) rfl dX4_letClause_12 ?_
  refine va_get (ci := 8) (v := .int (pX9_kind v1)) (C := RX9) (T := TX9) (N := 8) hx hb htb uX9 hown hK.1 hP 2 rfl rfl 5 (by decide) (htb _ tg_362) (fun _ h9 => h9) rfl dX4_letClause_15 ?_
  refine lv_bipush (v := (-4)) hx hb dX4_letClause_18 (by decide) ?_
  refine lv_icmp_eq (tgt := 32) hx hb dX4_letClause_20 (by decide) (fun c_2 => ?_) (fun c_2 => ?_)
  · have hg := g_it hg c_2
    refine lv_aload_n hx hb dX4_letClause_32 rfl (lv_at hl 1 rfl) ?_
    refine va_get (ci := 3) (v := .int (pX4_told v0)) (C := RX4) (T := TX4) (N := 8) hx hb htb uX4 hown hK.1 hP 0 rfl rfl 4 (by decide) (htb _ tg_389) (fun _ h9 => h9) rfl dX4_letClause_33 ?_
    refine lv_iload_n hx hb dX4_letClause_36 rfl (lv_at hl 0 rfl) ?_
    refine lv_ishr hx hb dX4_letClause_37 ?_
    refine lv_iconst (v := 1) hx hb dX4_letClause_38 (by decide) ?_
    refine lv_iand hx hb dX4_letClause_39 ?_
    refine lv_if_eq (tgt := 52) hx hb dX4_letClause_40 (by decide) (fun c_3 => ?_) (fun c_3 => ?_)
    · have hg := g_it hg c_3
      refine lv_aload_n hx hb dX4_letClause_52 rfl (lv_at hl 1 rfl) ?_
      refine va_get (ci := 3) (v := .ref a1) (C := RX4) (T := TX4) (N := 8) hx hb htb uX4 hown hK.1 hP 0 rfl rfl 0 (by decide) (htb _ tg_385) (fun _ h9 => h9) rfl dX4_letClause_53 ?_
      obtain ⟨r_4, hr_4, hg⟩ := g_bd hg
      refine cc_v (va_runV (C := RX9) (As := []) (rest := []) ⟨hx, hb, hml, hown, htb⟩ (k_X9_advance a1 a1_kinds a1_starts a1_values v1 r_4 hr_4) (cw_V 0 htb tg_633 tg_12 tg_645 tg_631 tg_632 rfl rfl (by decide +kernel) ⟨Nat.le_of_ble_eq_true rfl, Nat.le_of_ble_eq_true rfl⟩) ⟨PC.blind, va_recv hK.1 hP (ci := 8) (q0 := 2) rfl rfl, PC.pre hK hT hP hD hS hA [2, 3, 4, 5] rfl (by decide)⟩ rfl rfl hl.1 rfl (lv_room (Nat.le_of_ble_eq_true rfl)) dX4_letClause_56 ⟨Nat.le_of_ble_eq_true rfl, Nat.le_of_ble_eq_true rfl⟩) hP hD hS hA [2, 3, 4, 5] [0, 1] rfl rfl (by decide) (by decide) (fun u9 H locs hw hP hD hS => ?_)
      have hw := hw.symm
      subst hw
      have hP : va_P D vwCl (WS_X4_letClause cI cJ cZ cY a0 a0_code a1 a1_kinds a1_starts a1_values v0 r_4) H := hP.sub [0, 1, 2, 3, 4, 5] rfl
      have hD : va_D A (WS_X4_letClause cI cJ cZ cY a0 a0_code a1 a1_kinds a1_starts a1_values v0 r_4) := hD.sub [0, 1, 2, 3, 4, 5] (by decide) rfl
      refine lv_aload_n hx hb dX4_letClause_59 rfl (lv_at hl 1 rfl) ?_
      obtain ⟨r_5, hr_5, hg⟩ := g_bd hg
      refine cc_i (va_runV (C := RX4) (As := []) (rest := []) ⟨hx, hb, hml, hown, htb⟩ (k_X4_sum a0 a0_code a1 a1_kinds a1_starts a1_values v0 r_4 r_5 hr_5) (cw_V 0 htb tg_653 tg_11 tg_650 tg_652 ts_9 rfl rfl (by decide +kernel) ⟨Nat.le_of_ble_eq_true rfl, Nat.le_of_ble_eq_true rfl⟩) ⟨PC.blind, va_recv hK.1 hP (ci := 3) (q0 := 0) rfl rfl, PC.pre hK hT hP hD hS hA [0, 1, 2, 3, 4, 5] rfl (by decide)⟩ rfl rfl hl.1 rfl (lv_room (Nat.le_of_ble_eq_true rfl)) dX4_letClause_60 ⟨Nat.le_of_ble_eq_true rfl, Nat.le_of_ble_eq_true rfl⟩) hP hD hS hA [0, 1, 2, 3, 4, 5] [] rfl rfl (by decide) (by decide) (fun r9 u9 H locs hw hP hD hS => ?_)
      obtain ⟨rfl, rfl⟩ := hw
      have hP : va_P D vwCl (WS_X4_letClause cI cJ cZ cY a0 a0_code a1 a1_kinds a1_starts a1_values r_5.2.1 r_5.2.2) H := hP.sub [0, 1, 2, 3, 4, 5] rfl
      have hD : va_D A (WS_X4_letClause cI cJ cZ cY a0 a0_code a1 a1_kinds a1_starts a1_values r_5.2.1 r_5.2.2) := hD.sub [0, 1, 2, 3, 4, 5] (by decide) rfl
      refine lv_if_eq (tgt := 94) hx hb dX4_letClause_63 (by decide) (fun c_6 => ?_) (fun c_6 => ?_)
      · have hg := g_it hg c_6
        have hg := Option.some.inj hg
        rw [hQ]
        exact W.vret hx hb hr (fun t ht hW => ⟨⟨(r_5.2.1, r_5.2.2), rfl, hg, by rw [ht]; exact hP, hD⟩, hS.F ht⟩) hS.2.2 dX4_letClause_94
      · have hg := g_if hg c_6
        refine lv_aload_n hx hb dX4_letClause_66 rfl (lv_at hl 1 rfl) ?_
        refine lv_bipush (v := 59) hx hb dX4_letClause_67 (by decide) ?_
        obtain ⟨r_7, hr_7, hg⟩ := g_bd hg
        refine cc_i (va_runV (C := RX4) (As := [.int 59]) (rest := []) ⟨hx, hb, hml, hown, htb⟩ (k_X4_expect a0 a0_code a1 a1_kinds a1_starts a1_values r_5.2.1 r_5.2.2 59 r_7 hr_7) (cw_V 1 htb tg_681 tg_11 tg_678 tg_680 ts_16 rfl rfl (by decide +kernel) ⟨Nat.le_of_ble_eq_true rfl, Nat.le_of_ble_eq_true rfl⟩) ⟨PC.blind, va_recv hK.1 hP (ci := 3) (q0 := 0) rfl rfl, PC.pre hK hT hP hD hS hA [0, 1, 2, 3, 4, 5] rfl (by decide)⟩ rfl rfl hl.1 rfl (lv_room (Nat.le_of_ble_eq_true rfl)) dX4_letClause_69 ⟨Nat.le_of_ble_eq_true rfl, Nat.le_of_ble_eq_true rfl⟩) hP hD hS hA [0, 1, 2, 3, 4, 5] [] rfl rfl (by decide) (by decide) (fun r9 u9 H locs hw hP hD hS => ?_)
        obtain ⟨rfl, rfl⟩ := hw
        have hP : va_P D vwCl (WS_X4_letClause cI cJ cZ cY a0 a0_code a1 a1_kinds a1_starts a1_values r_7.2.1 r_7.2.2) H := hP.sub [0, 1, 2, 3, 4, 5] rfl
        have hD : va_D A (WS_X4_letClause cI cJ cZ cY a0 a0_code a1 a1_kinds a1_starts a1_values r_7.2.1 r_7.2.2) := hD.sub [0, 1, 2, 3, 4, 5] (by decide) rfl
        refine lv_if_eq (tgt := 94) hx hb dX4_letClause_72 (by decide) (fun c_8 => ?_) (fun c_8 => ?_)
        · have hg := g_it hg c_8
          have hg := Option.some.inj hg
          rw [hQ]
          exact W.vret hx hb hr (fun t ht hW => ⟨⟨(r_7.2.1, r_7.2.2), rfl, hg, by rw [ht]; exact hP, hD⟩, hS.F ht⟩) hS.2.2 dX4_letClause_94
        · have hg := g_if hg c_8
          refine lv_aload_n hx hb dX4_letClause_75 rfl (lv_at hl 1 rfl) ?_
          refine lv_bipush (v := 21) hx hb dX4_letClause_76 (by decide) ?_
          refine lv_iload_n hx hb dX4_letClause_78 rfl (lv_at hl 0 rfl) ?_
          obtain ⟨r_9, hr_9, hg⟩ := g_bd hg
          refine cc_v (va_runV (C := RX4) (As := [.int 21, .int x1_1]) (rest := []) ⟨hx, hb, hml, hown, htb⟩ (k_X4_emit a0 a0_code a1 r_7.2.1 21 x1_1 r_9 hr_9) (cw_V 2 htb tg_665 tg_11 tg_662 tg_664 ts_12 rfl rfl (by decide +kernel) ⟨Nat.le_of_ble_eq_true rfl, Nat.le_of_ble_eq_true rfl⟩) ⟨PC.blind, va_recv hK.1 hP (ci := 3) (q0 := 0) rfl rfl, PC.pre hK hT hP hD hS hA [0, 1] rfl (by decide)⟩ rfl rfl hl.1 rfl (lv_room (Nat.le_of_ble_eq_true rfl)) dX4_letClause_79 ⟨Nat.le_of_ble_eq_true rfl, Nat.le_of_ble_eq_true rfl⟩) hP hD hS hA [0, 1] [2, 3, 4, 5] rfl rfl (by decide) (by decide) (fun u9 H locs hw hP hD hS => ?_)
          have hw := hw.symm
          subst hw
          have hP : va_P D vwCl (WS_X4_letClause cI cJ cZ cY a0 a0_code a1 a1_kinds a1_starts a1_values r_9 r_7.2.2) H := hP.sub [4, 5, 0, 1, 2, 3] rfl
          have hD : va_D A (WS_X4_letClause cI cJ cZ cY a0 a0_code a1 a1_kinds a1_starts a1_values r_9 r_7.2.2) := hD.sub [4, 5, 0, 1, 2, 3] (by decide) rfl
          refine lv_aload_n hx hb dX4_letClause_82 rfl (lv_at hl 1 rfl) ?_
          refine lv_dup hx hb dX4_letClause_83 rfl ?_
          refine va_get (ci := 3) (v := .int (pX4_told r_9)) (C := RX4) (T := TX4) (N := 8) hx hb htb uX4 hown hK.1 hP 0 rfl rfl 4 (by decide) (htb _ tg_389) (fun _ h9 => h9) rfl dX4_letClause_84 ?_
          refine lv_iconst (v := 1) hx hb dX4_letClause_87 (by decide) ?_
          refine lv_iload_n hx hb dX4_letClause_88 rfl (lv_at hl 0 rfl) ?_
          refine lv_ishl hx hb dX4_letClause_89 ?_
          refine lv_ior hx hb dX4_letClause_90 ?_
          refine lv_topi (fun x_10 ex_10 => ?_)
          have hg := g_lte hg x_10 ex_10
          refine va_put (ci := 3) (v := .int x_10) (ty := .int) (C := RX4) (T := TX4) (N := 8) hx hb htb uX4 tyX4 tyX4_ok nmX4 hown hK.1 hP hD hS 0 rfl rfl 4 (by decide) (htb _ tg_389) (fun _ h9 => h9) rfl (by decide +kernel) rfl rfl (Nat.le_of_ble_eq_true rfl) dX4_letClause_91 (fun H locs hP hD hS => ?_)
          obtain ⟨v0_11, ev0_11⟩ : ∃ z, z = sX4_told r_9 x_10 := ⟨_, rfl⟩
          have hP : va_P D vwCl (WS_X4_letClause cI cJ cZ cY a0 a0_code a1 a1_kinds a1_starts a1_values v0_11 r_7.2.2) H := by rw [ev0_11]; exact hP
          have hD : va_D A (WS_X4_letClause cI cJ cZ cY a0 a0_code a1 a1_kinds a1_starts a1_values v0_11 r_7.2.2) := by rw [ev0_11]; exact hD
          have hg := g_lte hg v0_11 ev0_11
          have hg := Option.some.inj hg
          rw [hQ]
          exact W.vret hx hb hr (fun t ht hW => ⟨⟨(v0_11, r_7.2.2), rfl, hg, by rw [ht]; exact hP, hD⟩, hS.F ht⟩) hS.2.2 dX4_letClause_94
    · have hg := g_if hg c_3
      refine lv_aload_n hx hb dX4_letClause_43 rfl (lv_at hl 1 rfl) ?_
      refine lv_iconst (v := 4) hx hb dX4_letClause_44 (by decide) ?_
      obtain ⟨r_12, hr_12, hg⟩ := g_bd hg
      refine cc_i (va_runV (C := RX4) (As := [.int 4]) (rest := []) ⟨hx, hb, hml, hown, htb⟩ (k_X4_refuse a0 a0_code a1 a1_kinds a1_starts a1_values v0 v1 4 r_12 hr_12) (cw_V 1 htb tg_644 tg_11 tg_641 tg_643 ts_7 rfl rfl (by decide +kernel) ⟨Nat.le_of_ble_eq_true rfl, Nat.le_of_ble_eq_true rfl⟩) ⟨PC.blind, va_recv hK.1 hP (ci := 3) (q0 := 0) rfl rfl, PC.pre hK hT hP hD hS hA [0, 1, 2, 3, 4, 5] rfl (by decide)⟩ rfl rfl hl.1 rfl (lv_room (Nat.le_of_ble_eq_true rfl)) dX4_letClause_45 ⟨Nat.le_of_ble_eq_true rfl, Nat.le_of_ble_eq_true rfl⟩) hP hD hS hA [0, 1, 2, 3, 4, 5] [] rfl rfl (by decide) (by decide) (fun r9 u9 H locs hw hP hD hS => ?_)
      obtain ⟨rfl, rfl⟩ := hw
      have hP : va_P D vwCl (WS_X4_letClause cI cJ cZ cY a0 a0_code a1 a1_kinds a1_starts a1_values r_12.2 v1) H := hP.sub [0, 1, 2, 3, 4, 5] rfl
      have hD : va_D A (WS_X4_letClause cI cJ cZ cY a0 a0_code a1 a1_kinds a1_starts a1_values r_12.2 v1) := hD.sub [0, 1, 2, 3, 4, 5] (by decide) rfl
      refine lv_pop hx hb dX4_letClause_48 rfl ?_
      refine lv_goto (tgt := 94) hx hb dX4_letClause_49 (by decide) ?_
      have hg := Option.some.inj hg
      rw [hQ]
      exact W.vret hx hb hr (fun t ht hW => ⟨⟨(r_12.2, v1), rfl, hg, by rw [ht]; exact hP, hD⟩, hS.F ht⟩) hS.2.2 dX4_letClause_94
  · have hg := g_if hg c_2
    refine lv_aload_n hx hb dX4_letClause_23 rfl (lv_at hl 1 rfl) ?_
    refine lv_iconst (v := 1) hx hb dX4_letClause_24 (by decide) ?_
    obtain ⟨r_13, hr_13, hg⟩ := g_bd hg
    refine cc_i (va_runV (C := RX4) (As := [.int 1]) (rest := []) ⟨hx, hb, hml, hown, htb⟩ (k_X4_refuse a0 a0_code a1 a1_kinds a1_starts a1_values v0 v1 1 r_13 hr_13) (cw_V 1 htb tg_644 tg_11 tg_641 tg_643 ts_7 rfl rfl (by decide +kernel) ⟨Nat.le_of_ble_eq_true rfl, Nat.le_of_ble_eq_true rfl⟩) ⟨PC.blind, va_recv hK.1 hP (ci := 3) (q0 := 0) rfl rfl, PC.pre hK hT hP hD hS hA [0, 1, 2, 3, 4, 5] rfl (by decide)⟩ rfl rfl hl.1 rfl (lv_room (Nat.le_of_ble_eq_true rfl)) dX4_letClause_25 ⟨Nat.le_of_ble_eq_true rfl, Nat.le_of_ble_eq_true rfl⟩) hP hD hS hA [0, 1, 2, 3, 4, 5] [] rfl rfl (by decide) (by decide) (fun r9 u9 H locs hw hP hD hS => ?_)
    obtain ⟨rfl, rfl⟩ := hw
    have hP : va_P D vwCl (WS_X4_letClause cI cJ cZ cY a0 a0_code a1 a1_kinds a1_starts a1_values r_13.2 v1) H := hP.sub [0, 1, 2, 3, 4, 5] rfl
    have hD : va_D A (WS_X4_letClause cI cJ cZ cY a0 a0_code a1 a1_kinds a1_starts a1_values r_13.2 v1) := hD.sub [0, 1, 2, 3, 4, 5] (by decide) rfl
    refine lv_pop hx hb dX4_letClause_28 rfl ?_
    refine lv_goto (tgt := 94) hx hb dX4_letClause_29 (by decide) ?_
    have hg := Option.some.inj hg
    rw [hQ]
    exact W.vret hx hb hr (fun t ht hW => ⟨⟨(r_13.2, v1), rfl, hg, by rw [ht]; exact hP, hD⟩, hS.F ht⟩) hS.2.2 dX4_letClause_94
