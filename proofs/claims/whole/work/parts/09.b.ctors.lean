/-! ManyEyes$Eye.<init>()V -/
def f_X1_init : Option (BX1) := some (0, 0, (fun _ => 0), (fun _ => 0), (fun _ => 0), (fun _ => 0), (fun _ => 0))
abbrev rm_X1_init : Room := { frames := 1, cells := 5, slots := 80, locals := 12 }
set_option maxHeartbeats 8000000 in
set_option maxRecDepth 100000 in
theorem k_X1_init {l : Launch} {D : va_G} {cI cJ cZ cY : ClassId} {tX tY sz : Nat} (a0 : Nat) (res : BX1) (hg : f_X1_init = some res) : Met l yX1_init (Cond.code yX1_init cX1_init 1 none :: TB) rm_X1_init (PC D cI cJ cZ cY tX tY [.ref a0] (([(a0, .inr (0, [.null, .null, .null, .null, .null, .int 0, .int 0]))])) sz) (va_Qv (fun u : (Nat → Nat) × (BX1) => u.2 = res) (BC D (fun u : (Nat → Nat) × (BX1) => (GX1 cI cJ cZ cY a0 (u.1 0) (u.1 1) (u.1 2) (u.1 3) (u.1 4) u.2)) (va_A (([(a0, .inr (0, [.null, .null, .null, .null, .null, .int 0, .int 0]))])) sz)) (va_A (([(a0, .inr (0, [.null, .null, .null, .null, .null, .int 0, .int 0]))])) sz)) 5 80 (va_A (([(a0, .inr (0, [.null, .null, .null, .null, .null, .int 0, .int 0]))])) sz) := by
  refine Met.ofW (cc := cX1_init) (maxL := 1) (ret := none) (by decide) rfl ?_
  intro p e s m args below meth c s₁ B hml hv
  obtain ⟨hargs, hsz, hP, hK, hD0, hT⟩ := hv
  have hx := B.exec
  have hb := B.bytes
  have hr := B.returns
  have hin : meth.name = "<init>" := (name_of_methodNamed B.named B.method).1
  have htb : ∀ w ∈ TB, w.before args s = true := fun w h => atoms_spec (ws := Cond.code yX1_init cX1_init 1 none :: TB) B.pre w (List.mem_cons_of_mem _ h)
  have hown : s.vm.findClass "ManyEyes$Eye" = some m.cls := findClass_of_methodNamed B.named
  have hlocks := B.notSynchronized
  subst hsz
  have hD := hD0.self (sz := s.heap.size)
  generalize hAe : va_A (([(a0, .inr (0, [.null, .null, .null, .null, .null, .int 0, .int 0]))])) s.heap.size = A at hD hT ⊢
  have hA : ∀ q : Nat, s.heap.size ≤ q → A q := fun q h => by rw [← hAe]; exact Or.inr h
  have hl := lv_entry ([.ref a0]) (n := 1) (Nat.le_of_ble_eq_true rfl)
  have he : entryFrame m args 1 = F0 m 0 (lg_sl ([.ref a0]) ++ List.replicate (1 - (lg_sl ([.ref a0])).length) Slot.unset).toArray [] := by rw [hargs, lg_entry_eq]
  rw [he]
  generalize (lg_sl ([.ref a0]) ++ List.replicate (1 - (lg_sl ([.ref a0])).length) Slot.unset).toArray = ls at hl ⊢
  have hl : lv_has ls 1 [(0, .ref a0)] := hl
  show W p l e rm_X1_init s m args below meth c s.heap [] 0 0 _ _
  refine W.genQ (fun Q hQ => ?_)
  generalize hHe : s.heap = H at hP ⊢
  have hS : va_S A s.heap H [] := by rw [← hHe]; exact va_S.rf
  generalize ([] : List Loc) = locs at hS ⊢
  unfold f_X1_init at hg
  refine lv_aload_n hx hb dX1_init_0 rfl (lv_at hl 0 rfl) ?_
  refine W.objInit hx hb hown (htb _ tg_91) (htb _ tg_23) (htb _ tg_24) rfl (by rw [hml]; exact hl.1) rfl dX1_init_1 (Nat.le_of_ble_eq_true rfl) (Nat.le_of_ble_eq_true rfl) ?_
  refine W.eq (g2 := F0 m 4 ls []) rfl ?_
  refine lv_aload_n hx hb dX1_init_4 rfl (lv_at hl 0 rfl) ?_
  refine lv_bipush (v := 16) hx hb dX1_init_5 (by decide) ?_
  refine nw_I (N := 16) hx hb (htb _ tg_85) hK hP hD hS hA (by decide) (by decide) (by decide) (Nat.le_of_ble_eq_true rfl) (Nat.le_of_ble_eq_true rfl) dX1_init_7 (fun q_1 H hP hD hS => ?_)
  have hP : va_P D vwCl (([(a0, .inr (0, [.null, .null, .null, .null, .null, .int 0, .int 0]))]) ++ (([(q_1, .inl (cI, 16, .inl (fun _ => 0)))]))) H := hP
  have hD : va_D A (([(a0, .inr (0, [.null, .null, .null, .null, .null, .int 0, .int 0]))]) ++ (([(q_1, .inl (cI, 16, .inl (fun _ => 0)))]))) := hD
  refine W.widen (k := 1) (n := 16) (by omega) (by omega) ?_
  refine va_putF (ci := 0) (v := .ref q_1) (ty := .array .int) (C := RX1) (T := TX1) (N := 7) hx hb htb uX1 tyX1 tyX1_ok nmX1 hown hK.1 hP hD hS 0 rfl rfl 0 (by decide) (htb _ tg_92) (fun _ h9 => h9) rfl hin rfl (by decide +kernel) rfl rfl (Nat.le_of_ble_eq_true rfl) dX1_init_9 (fun H locs hP hD hS => ?_)
  have hP : va_P D vwCl (([(a0, .inr (0, [.ref q_1, .null, .null, .null, .null, .int 0, .int 0]))]) ++ (([(q_1, .inl (cI, 16, .inl (fun _ => 0)))]))) H := hP
  have hD : va_D A (([(a0, .inr (0, [.ref q_1, .null, .null, .null, .null, .int 0, .int 0]))]) ++ (([(q_1, .inl (cI, 16, .inl (fun _ => 0)))]))) := hD
  refine lv_aload_n hx hb dX1_init_12 rfl (lv_at hl 0 rfl) ?_
  refine lv_bipush (v := 16) hx hb dX1_init_13 (by decide) ?_
  refine nw_I (N := 16) hx hb (htb _ tg_85) hK hP hD hS hA (by decide) (by decide) (by decide) (Nat.le_of_ble_eq_true rfl) (Nat.le_of_ble_eq_true rfl) dX1_init_15 (fun q_2 H hP hD hS => ?_)
  have hP : va_P D vwCl (([(a0, .inr (0, [.ref q_1, .null, .null, .null, .null, .int 0, .int 0]))]) ++ (([(q_1, .inl (cI, 16, .inl (fun _ => 0)))]) ++ (([(q_2, .inl (cI, 16, .inl (fun _ => 0)))])))) H := hP
  have hD : va_D A (([(a0, .inr (0, [.ref q_1, .null, .null, .null, .null, .int 0, .int 0]))]) ++ (([(q_1, .inl (cI, 16, .inl (fun _ => 0)))]) ++ (([(q_2, .inl (cI, 16, .inl (fun _ => 0)))])))) := hD
  refine W.widen (k := 2) (n := 32) (by omega) (by omega) ?_
  refine va_putF (ci := 0) (v := .ref q_2) (ty := .array .int) (C := RX1) (T := TX1) (N := 7) hx hb htb uX1 tyX1 tyX1_ok nmX1 hown hK.1 hP hD hS 0 rfl rfl 1 (by decide) (htb _ tg_95) (fun _ h9 => h9) rfl hin rfl (by decide +kernel) rfl rfl (Nat.le_of_ble_eq_true rfl) dX1_init_17 (fun H locs hP hD hS => ?_)
  have hP : va_P D vwCl (([(a0, .inr (0, [.ref q_1, .ref q_2, .null, .null, .null, .int 0, .int 0]))]) ++ (([(q_1, .inl (cI, 16, .inl (fun _ => 0)))]) ++ (([(q_2, .inl (cI, 16, .inl (fun _ => 0)))])))) H := hP
  have hD : va_D A (([(a0, .inr (0, [.ref q_1, .ref q_2, .null, .null, .null, .int 0, .int 0]))]) ++ (([(q_1, .inl (cI, 16, .inl (fun _ => 0)))]) ++ (([(q_2, .inl (cI, 16, .inl (fun _ => 0)))])))) := hD
  refine lv_aload_n hx hb dX1_init_20 rfl (lv_at hl 0 rfl) ?_
  refine lv_bipush (v := 16) hx hb dX1_init_21 (by decide) ?_
  refine nw_I (N := 16) hx hb (htb _ tg_85) hK hP hD hS hA (by decide) (by decide) (by decide) (Nat.le_of_ble_eq_true rfl) (Nat.le_of_ble_eq_true rfl) dX1_init_23 (fun q_3 H hP hD hS => ?_)
  have hP : va_P D vwCl (([(a0, .inr (0, [.ref q_1, .ref q_2, .null, .null, .null, .int 0, .int 0]))]) ++ (([(q_1, .inl (cI, 16, .inl (fun _ => 0)))]) ++ (([(q_2, .inl (cI, 16, .inl (fun _ => 0)))]) ++ (([(q_3, .inl (cI, 16, .inl (fun _ => 0)))]))))) H := hP
  have hD : va_D A (([(a0, .inr (0, [.ref q_1, .ref q_2, .null, .null, .null, .int 0, .int 0]))]) ++ (([(q_1, .inl (cI, 16, .inl (fun _ => 0)))]) ++ (([(q_2, .inl (cI, 16, .inl (fun _ => 0)))]) ++ (([(q_3, .inl (cI, 16, .inl (fun _ => 0)))]))))) := hD
  refine W.widen (k := 3) (n := 48) (by omega) (by omega) ?_
  refine va_putF (ci := 0) (v := .ref q_3) (ty := .array .int) (C := RX1) (T := TX1) (N := 7) hx hb htb uX1 tyX1 tyX1_ok nmX1 hown hK.1 hP hD hS 0 rfl rfl 2 (by decide) (htb _ tg_98) (fun _ h9 => h9) rfl hin rfl (by decide +kernel) rfl rfl (Nat.le_of_ble_eq_true rfl) dX1_init_25 (fun H locs hP hD hS => ?_)
  have hP : va_P D vwCl (([(a0, .inr (0, [.ref q_1, .ref q_2, .ref q_3, .null, .null, .int 0, .int 0]))]) ++ (([(q_1, .inl (cI, 16, .inl (fun _ => 0)))]) ++ (([(q_2, .inl (cI, 16, .inl (fun _ => 0)))]) ++ (([(q_3, .inl (cI, 16, .inl (fun _ => 0)))]))))) H := hP
  have hD : va_D A (([(a0, .inr (0, [.ref q_1, .ref q_2, .ref q_3, .null, .null, .int 0, .int 0]))]) ++ (([(q_1, .inl (cI, 16, .inl (fun _ => 0)))]) ++ (([(q_2, .inl (cI, 16, .inl (fun _ => 0)))]) ++ (([(q_3, .inl (cI, 16, .inl (fun _ => 0)))]))))) := hD
  refine lv_aload_n hx hb dX1_init_28 rfl (lv_at hl 0 rfl) ?_
  refine lv_bipush (v := 16) hx hb dX1_init_29 (by decide) ?_
  refine nw_I (N := 16) hx hb (htb _ tg_85) hK hP hD hS hA (by decide) (by decide) (by decide) (Nat.le_of_ble_eq_true rfl) (Nat.le_of_ble_eq_true rfl) dX1_init_31 (fun q_4 H hP hD hS => ?_)
  have hP : va_P D vwCl (([(a0, .inr (0, [.ref q_1, .ref q_2, .ref q_3, .null, .null, .int 0, .int 0]))]) ++ (([(q_1, .inl (cI, 16, .inl (fun _ => 0)))]) ++ (([(q_2, .inl (cI, 16, .inl (fun _ => 0)))]) ++ (([(q_3, .inl (cI, 16, .inl (fun _ => 0)))]) ++ (([(q_4, .inl (cI, 16, .inl (fun _ => 0)))])))))) H := hP
  have hD : va_D A (([(a0, .inr (0, [.ref q_1, .ref q_2, .ref q_3, .null, .null, .int 0, .int 0]))]) ++ (([(q_1, .inl (cI, 16, .inl (fun _ => 0)))]) ++ (([(q_2, .inl (cI, 16, .inl (fun _ => 0)))]) ++ (([(q_3, .inl (cI, 16, .inl (fun _ => 0)))]) ++ (([(q_4, .inl (cI, 16, .inl (fun _ => 0)))])))))) := hD
  refine W.widen (k := 4) (n := 64) (by omega) (by omega) ?_
  refine va_putF (ci := 0) (v := .ref q_4) (ty := .array .int) (C := RX1) (T := TX1) (N := 7) hx hb htb uX1 tyX1 tyX1_ok nmX1 hown hK.1 hP hD hS 0 rfl rfl 3 (by decide) (htb _ tg_101) (fun _ h9 => h9) rfl hin rfl (by decide +kernel) rfl rfl (Nat.le_of_ble_eq_true rfl) dX1_init_33 (fun H locs hP hD hS => ?_)
  have hP : va_P D vwCl (([(a0, .inr (0, [.ref q_1, .ref q_2, .ref q_3, .ref q_4, .null, .int 0, .int 0]))]) ++ (([(q_1, .inl (cI, 16, .inl (fun _ => 0)))]) ++ (([(q_2, .inl (cI, 16, .inl (fun _ => 0)))]) ++ (([(q_3, .inl (cI, 16, .inl (fun _ => 0)))]) ++ (([(q_4, .inl (cI, 16, .inl (fun _ => 0)))])))))) H := hP
  have hD : va_D A (([(a0, .inr (0, [.ref q_1, .ref q_2, .ref q_3, .ref q_4, .null, .int 0, .int 0]))]) ++ (([(q_1, .inl (cI, 16, .inl (fun _ => 0)))]) ++ (([(q_2, .inl (cI, 16, .inl (fun _ => 0)))]) ++ (([(q_3, .inl (cI, 16, .inl (fun _ => 0)))]) ++ (([(q_4, .inl (cI, 16, .inl (fun _ => 0)))])))))) := hD
  refine lv_aload_n hx hb dX1_init_36 rfl (lv_at hl 0 rfl) ?_
  refine lv_bipush (v := 16) hx hb dX1_init_37 (by decide) ?_
  refine nw_I (N := 16) hx hb (htb _ tg_85) hK hP hD hS hA (by decide) (by decide) (by decide) (Nat.le_of_ble_eq_true rfl) (Nat.le_of_ble_eq_true rfl) dX1_init_39 (fun q_5 H hP hD hS => ?_)
  have hP : va_P D vwCl (([(a0, .inr (0, [.ref q_1, .ref q_2, .ref q_3, .ref q_4, .null, .int 0, .int 0]))]) ++ (([(q_1, .inl (cI, 16, .inl (fun _ => 0)))]) ++ (([(q_2, .inl (cI, 16, .inl (fun _ => 0)))]) ++ (([(q_3, .inl (cI, 16, .inl (fun _ => 0)))]) ++ (([(q_4, .inl (cI, 16, .inl (fun _ => 0)))]) ++ (([(q_5, .inl (cI, 16, .inl (fun _ => 0)))]))))))) H := hP
  have hD : va_D A (([(a0, .inr (0, [.ref q_1, .ref q_2, .ref q_3, .ref q_4, .null, .int 0, .int 0]))]) ++ (([(q_1, .inl (cI, 16, .inl (fun _ => 0)))]) ++ (([(q_2, .inl (cI, 16, .inl (fun _ => 0)))]) ++ (([(q_3, .inl (cI, 16, .inl (fun _ => 0)))]) ++ (([(q_4, .inl (cI, 16, .inl (fun _ => 0)))]) ++ (([(q_5, .inl (cI, 16, .inl (fun _ => 0)))]))))))) := hD
  refine W.widen (k := 5) (n := 80) (by omega) (by omega) ?_
  refine va_putF (ci := 0) (v := .ref q_5) (ty := .array .int) (C := RX1) (T := TX1) (N := 7) hx hb htb uX1 tyX1 tyX1_ok nmX1 hown hK.1 hP hD hS 0 rfl rfl 4 (by decide) (htb _ tg_104) (fun _ h9 => h9) rfl hin rfl (by decide +kernel) rfl rfl (Nat.le_of_ble_eq_true rfl) dX1_init_41 (fun H locs hP hD hS => ?_)
  have hP : va_P D vwCl (([(a0, .inr (0, [.ref q_1, .ref q_2, .ref q_3, .ref q_4, .ref q_5, .int 0, .int 0]))]) ++ (([(q_1, .inl (cI, 16, .inl (fun _ => 0)))]) ++ (([(q_2, .inl (cI, 16, .inl (fun _ => 0)))]) ++ (([(q_3, .inl (cI, 16, .inl (fun _ => 0)))]) ++ (([(q_4, .inl (cI, 16, .inl (fun _ => 0)))]) ++ (([(q_5, .inl (cI, 16, .inl (fun _ => 0)))]))))))) H := hP
  have hD : va_D A (([(a0, .inr (0, [.ref q_1, .ref q_2, .ref q_3, .ref q_4, .ref q_5, .int 0, .int 0]))]) ++ (([(q_1, .inl (cI, 16, .inl (fun _ => 0)))]) ++ (([(q_2, .inl (cI, 16, .inl (fun _ => 0)))]) ++ (([(q_3, .inl (cI, 16, .inl (fun _ => 0)))]) ++ (([(q_4, .inl (cI, 16, .inl (fun _ => 0)))]) ++ (([(q_5, .inl (cI, 16, .inl (fun _ => 0)))]))))))) := hD
  have hg := Option.some.inj hg
  rw [hQ]
  refine W.widen (k := 5) (n := 80) (by omega) (by omega) ?_
  have hP : va_P D vwCl ((GX1 cI cJ cZ cY a0 ((fun k => match k with | 0 => q_1 | 1 => q_2 | 2 => q_3 | 3 => q_4 | 4 => q_5 | _ => 0) 0) ((fun k => match k with | 0 => q_1 | 1 => q_2 | 2 => q_3 | 3 => q_4 | 4 => q_5 | _ => 0) 1) ((fun k => match k with | 0 => q_1 | 1 => q_2 | 2 => q_3 | 3 => q_4 | 4 => q_5 | _ => 0) 2) ((fun k => match k with | 0 => q_1 | 1 => q_2 | 2 => q_3 | 3 => q_4 | 4 => q_5 | _ => 0) 3) ((fun k => match k with | 0 => q_1 | 1 => q_2 | 2 => q_3 | 3 => q_4 | 4 => q_5 | _ => 0) 4) res)) H := by rw [← hg]; exact hP.sub [0, 1, 2, 3, 4, 5] rfl
  have hD : va_D A ((GX1 cI cJ cZ cY a0 ((fun k => match k with | 0 => q_1 | 1 => q_2 | 2 => q_3 | 3 => q_4 | 4 => q_5 | _ => 0) 0) ((fun k => match k with | 0 => q_1 | 1 => q_2 | 2 => q_3 | 3 => q_4 | 4 => q_5 | _ => 0) 1) ((fun k => match k with | 0 => q_1 | 1 => q_2 | 2 => q_3 | 3 => q_4 | 4 => q_5 | _ => 0) 2) ((fun k => match k with | 0 => q_1 | 1 => q_2 | 2 => q_3 | 3 => q_4 | 4 => q_5 | _ => 0) 3) ((fun k => match k with | 0 => q_1 | 1 => q_2 | 2 => q_3 | 3 => q_4 | 4 => q_5 | _ => 0) 4) res)) := by rw [← hg]; exact hD.sub [0, 1, 2, 3, 4, 5] (by decide) rfl
  exact W.vret hx hb hr (fun t ht hW => ⟨⟨((fun k => match k with | 0 => q_1 | 1 => q_2 | 2 => q_3 | 3 => q_4 | 4 => q_5 | _ => 0), res), rfl, rfl, by rw [ht]; exact hP, hD⟩, hS.F ht⟩) hS.2.2 dX1_init_44

/-! ManyEyes$Flight.<init>()V -/
def f_X2_init : Option (BX2) := some (0, 0, 0, 0, 0, 0, 0, 0, 0, 0, (fun _ => 0), (fun _ => 0))
abbrev rm_X2_init : Room := { frames := 1, cells := 2, slots := 1260, locals := 12 }
set_option maxHeartbeats 8000000 in
set_option maxRecDepth 100000 in
theorem k_X2_init {l : Launch} {D : va_G} {cI cJ cZ cY : ClassId} {tX tY sz : Nat} (a0 : Nat) (res : BX2) (hg : f_X2_init = some res) : Met l yX2_init (Cond.code yX2_init cX2_init 1 none :: TB) rm_X2_init (PC D cI cJ cZ cY tX tY [.ref a0] (([(a0, .inr (1, [.null, .null, .int 0, .int 0, .int 0, .int 0, .int 0, .int 0, .int 0, .int 0, .int 0, .int 0]))])) sz) (va_Qv (fun u : (Nat → Nat) × (BX2) => u.2 = res) (BC D (fun u : (Nat → Nat) × (BX2) => (GX2 cI cJ cZ cY a0 (u.1 0) (u.1 1) u.2)) (va_A (([(a0, .inr (1, [.null, .null, .int 0, .int 0, .int 0, .int 0, .int 0, .int 0, .int 0, .int 0, .int 0, .int 0]))])) sz)) (va_A (([(a0, .inr (1, [.null, .null, .int 0, .int 0, .int 0, .int 0, .int 0, .int 0, .int 0, .int 0, .int 0, .int 0]))])) sz)) 2 1260 (va_A (([(a0, .inr (1, [.null, .null, .int 0, .int 0, .int 0, .int 0, .int 0, .int 0, .int 0, .int 0, .int 0, .int 0]))])) sz) := by
  refine Met.ofW (cc := cX2_init) (maxL := 1) (ret := none) (by decide) rfl ?_
  intro p e s m args below meth c s₁ B hml hv
  obtain ⟨hargs, hsz, hP, hK, hD0, hT⟩ := hv
  have hx := B.exec
  have hb := B.bytes
  have hr := B.returns
  have hin : meth.name = "<init>" := (name_of_methodNamed B.named B.method).1
  have htb : ∀ w ∈ TB, w.before args s = true := fun w h => atoms_spec (ws := Cond.code yX2_init cX2_init 1 none :: TB) B.pre w (List.mem_cons_of_mem _ h)
  have hown : s.vm.findClass "ManyEyes$Flight" = some m.cls := findClass_of_methodNamed B.named
  have hlocks := B.notSynchronized
  subst hsz
  have hD := hD0.self (sz := s.heap.size)
  generalize hAe : va_A (([(a0, .inr (1, [.null, .null, .int 0, .int 0, .int 0, .int 0, .int 0, .int 0, .int 0, .int 0, .int 0, .int 0]))])) s.heap.size = A at hD hT ⊢
  have hA : ∀ q : Nat, s.heap.size ≤ q → A q := fun q h => by rw [← hAe]; exact Or.inr h
  have hl := lv_entry ([.ref a0]) (n := 1) (Nat.le_of_ble_eq_true rfl)
  have he : entryFrame m args 1 = F0 m 0 (lg_sl ([.ref a0]) ++ List.replicate (1 - (lg_sl ([.ref a0])).length) Slot.unset).toArray [] := by rw [hargs, lg_entry_eq]
  rw [he]
  generalize (lg_sl ([.ref a0]) ++ List.replicate (1 - (lg_sl ([.ref a0])).length) Slot.unset).toArray = ls at hl ⊢
  have hl : lv_has ls 1 [(0, .ref a0)] := hl
  show W p l e rm_X2_init s m args below meth c s.heap [] 0 0 _ _
  refine W.genQ (fun Q hQ => ?_)
  generalize hHe : s.heap = H at hP ⊢
  have hS : va_S A s.heap H [] := by rw [← hHe]; exact va_S.rf
  generalize ([] : List Loc) = locs at hS ⊢
  unfold f_X2_init at hg
  refine lv_aload_n hx hb dX2_init_0 rfl (lv_at hl 0 rfl) ?_
  refine W.objInit hx hb hown (htb _ tg_170) (htb _ tg_23) (htb _ tg_24) rfl (by rw [hml]; exact hl.1) rfl dX2_init_1 (Nat.le_of_ble_eq_true rfl) (Nat.le_of_ble_eq_true rfl) ?_
  refine W.eq (g2 := F0 m 4 ls []) rfl ?_
  refine lv_aload_n hx hb dX2_init_4 rfl (lv_at hl 0 rfl) ?_
  refine lv_sipush (v := 300) hx hb dX2_init_5 (by decide) ?_
  refine nw_I (N := 300) hx hb (htb _ tg_85) hK hP hD hS hA (by decide) (by decide) (by decide) (Nat.le_of_ble_eq_true rfl) (Nat.le_of_ble_eq_true rfl) dX2_init_8 (fun q_1 H hP hD hS => ?_)
  have hP : va_P D vwCl (([(a0, .inr (1, [.null, .null, .int 0, .int 0, .int 0, .int 0, .int 0, .int 0, .int 0, .int 0, .int 0, .int 0]))]) ++ (([(q_1, .inl (cI, 300, .inl (fun _ => 0)))]))) H := hP
  have hD : va_D A (([(a0, .inr (1, [.null, .null, .int 0, .int 0, .int 0, .int 0, .int 0, .int 0, .int 0, .int 0, .int 0, .int 0]))]) ++ (([(q_1, .inl (cI, 300, .inl (fun _ => 0)))]))) := hD
  refine W.widen (k := 1) (n := 300) (by omega) (by omega) ?_
  refine va_putF (ci := 1) (v := .ref q_1) (ty := .array .int) (C := RX2) (T := TX2) (N := 12) hx hb htb uX2 tyX2 tyX2_ok nmX2 hown hK.1 hP hD hS 0 rfl rfl 0 (by decide) (htb _ tg_171) (fun _ h9 => h9) rfl hin rfl (by decide +kernel) rfl rfl (Nat.le_of_ble_eq_true rfl) dX2_init_10 (fun H locs hP hD hS => ?_)
  have hP : va_P D vwCl (([(a0, .inr (1, [.ref q_1, .null, .int 0, .int 0, .int 0, .int 0, .int 0, .int 0, .int 0, .int 0, .int 0, .int 0]))]) ++ (([(q_1, .inl (cI, 300, .inl (fun _ => 0)))]))) H := hP
  have hD : va_D A (([(a0, .inr (1, [.ref q_1, .null, .int 0, .int 0, .int 0, .int 0, .int 0, .int 0, .int 0, .int 0, .int 0, .int 0]))]) ++ (([(q_1, .inl (cI, 300, .inl (fun _ => 0)))]))) := hD
  refine lv_aload_n hx hb dX2_init_13 rfl (lv_at hl 0 rfl) ?_
  refine lv_sipush (v := 960) hx hb dX2_init_14 (by decide) ?_
  refine nw_I (N := 960) hx hb (htb _ tg_85) hK hP hD hS hA (by decide) (by decide) (by decide) (Nat.le_of_ble_eq_true rfl) (Nat.le_of_ble_eq_true rfl) dX2_init_17 (fun q_2 H hP hD hS => ?_)
  have hP : va_P D vwCl (([(a0, .inr (1, [.ref q_1, .null, .int 0, .int 0, .int 0, .int 0, .int 0, .int 0, .int 0, .int 0, .int 0, .int 0]))]) ++ (([(q_1, .inl (cI, 300, .inl (fun _ => 0)))]) ++ (([(q_2, .inl (cI, 960, .inl (fun _ => 0)))])))) H := hP
  have hD : va_D A (([(a0, .inr (1, [.ref q_1, .null, .int 0, .int 0, .int 0, .int 0, .int 0, .int 0, .int 0, .int 0, .int 0, .int 0]))]) ++ (([(q_1, .inl (cI, 300, .inl (fun _ => 0)))]) ++ (([(q_2, .inl (cI, 960, .inl (fun _ => 0)))])))) := hD
  refine W.widen (k := 2) (n := 1260) (by omega) (by omega) ?_
  refine va_putF (ci := 1) (v := .ref q_2) (ty := .array .int) (C := RX2) (T := TX2) (N := 12) hx hb htb uX2 tyX2 tyX2_ok nmX2 hown hK.1 hP hD hS 0 rfl rfl 1 (by decide) (htb _ tg_172) (fun _ h9 => h9) rfl hin rfl (by decide +kernel) rfl rfl (Nat.le_of_ble_eq_true rfl) dX2_init_19 (fun H locs hP hD hS => ?_)
  have hP : va_P D vwCl (([(a0, .inr (1, [.ref q_1, .ref q_2, .int 0, .int 0, .int 0, .int 0, .int 0, .int 0, .int 0, .int 0, .int 0, .int 0]))]) ++ (([(q_1, .inl (cI, 300, .inl (fun _ => 0)))]) ++ (([(q_2, .inl (cI, 960, .inl (fun _ => 0)))])))) H := hP
  have hD : va_D A (([(a0, .inr (1, [.ref q_1, .ref q_2, .int 0, .int 0, .int 0, .int 0, .int 0, .int 0, .int 0, .int 0, .int 0, .int 0]))]) ++ (([(q_1, .inl (cI, 300, .inl (fun _ => 0)))]) ++ (([(q_2, .inl (cI, 960, .inl (fun _ => 0)))])))) := hD
  have hg := Option.some.inj hg
  rw [hQ]
  refine W.widen (k := 2) (n := 1260) (by omega) (by omega) ?_
  have hP : va_P D vwCl ((GX2 cI cJ cZ cY a0 ((fun k => match k with | 0 => q_1 | 1 => q_2 | _ => 0) 0) ((fun k => match k with | 0 => q_1 | 1 => q_2 | _ => 0) 1) res)) H := by rw [← hg]; exact hP.sub [0, 1, 2] rfl
  have hD : va_D A ((GX2 cI cJ cZ cY a0 ((fun k => match k with | 0 => q_1 | 1 => q_2 | _ => 0) 0) ((fun k => match k with | 0 => q_1 | 1 => q_2 | _ => 0) 1) res)) := by rw [← hg]; exact hD.sub [0, 1, 2] (by decide) rfl
  exact W.vret hx hb hr (fun t ht hW => ⟨⟨((fun k => match k with | 0 => q_1 | 1 => q_2 | _ => 0), res), rfl, rfl, by rw [ht]; exact hP, hD⟩, hS.F ht⟩) hS.2.2 dX2_init_22

/-! ManyEyes$Reads.<init>()V -/
def f_X5_init : Option (BX5) := some (0, (fun _ => 0), (fun _ => 0), (fun _ => 0), (fun _ => 0), (fun _ => 0))
abbrev rm_X5_init : Room := { frames := 1, cells := 5, slots := 144, locals := 12 }
set_option maxHeartbeats 8000000 in
set_option maxRecDepth 100000 in
theorem k_X5_init {l : Launch} {D : va_G} {cI cJ cZ cY : ClassId} {tX tY sz : Nat} (a0 : Nat) (res : BX5) (hg : f_X5_init = some res) : Met l yX5_init (Cond.code yX5_init cX5_init 1 none :: TB) rm_X5_init (PC D cI cJ cZ cY tX tY [.ref a0] (([(a0, .inr (4, [.null, .null, .null, .null, .null, .int 0]))])) sz) (va_Qv (fun u : (Nat → Nat) × (BX5) => u.2 = res) (BC D (fun u : (Nat → Nat) × (BX5) => (GX5 cI cJ cZ cY a0 (u.1 0) (u.1 1) (u.1 2) (u.1 3) (u.1 4) u.2)) (va_A (([(a0, .inr (4, [.null, .null, .null, .null, .null, .int 0]))])) sz)) (va_A (([(a0, .inr (4, [.null, .null, .null, .null, .null, .int 0]))])) sz)) 5 144 (va_A (([(a0, .inr (4, [.null, .null, .null, .null, .null, .int 0]))])) sz) := by
  refine Met.ofW (cc := cX5_init) (maxL := 1) (ret := none) (by decide) rfl ?_
  intro p e s m args below meth c s₁ B hml hv
  obtain ⟨hargs, hsz, hP, hK, hD0, hT⟩ := hv
  have hx := B.exec
  have hb := B.bytes
  have hr := B.returns
  have hin : meth.name = "<init>" := (name_of_methodNamed B.named B.method).1
  have htb : ∀ w ∈ TB, w.before args s = true := fun w h => atoms_spec (ws := Cond.code yX5_init cX5_init 1 none :: TB) B.pre w (List.mem_cons_of_mem _ h)
  have hown : s.vm.findClass "ManyEyes$Reads" = some m.cls := findClass_of_methodNamed B.named
  have hlocks := B.notSynchronized
  subst hsz
  have hD := hD0.self (sz := s.heap.size)
  generalize hAe : va_A (([(a0, .inr (4, [.null, .null, .null, .null, .null, .int 0]))])) s.heap.size = A at hD hT ⊢
  have hA : ∀ q : Nat, s.heap.size ≤ q → A q := fun q h => by rw [← hAe]; exact Or.inr h
  have hl := lv_entry ([.ref a0]) (n := 1) (Nat.le_of_ble_eq_true rfl)
  have he : entryFrame m args 1 = F0 m 0 (lg_sl ([.ref a0]) ++ List.replicate (1 - (lg_sl ([.ref a0])).length) Slot.unset).toArray [] := by rw [hargs, lg_entry_eq]
  rw [he]
  generalize (lg_sl ([.ref a0]) ++ List.replicate (1 - (lg_sl ([.ref a0])).length) Slot.unset).toArray = ls at hl ⊢
  have hl : lv_has ls 1 [(0, .ref a0)] := hl
  show W p l e rm_X5_init s m args below meth c s.heap [] 0 0 _ _
  refine W.genQ (fun Q hQ => ?_)
  generalize hHe : s.heap = H at hP ⊢
  have hS : va_S A s.heap H [] := by rw [← hHe]; exact va_S.rf
  generalize ([] : List Loc) = locs at hS ⊢
  unfold f_X5_init at hg
  refine lv_aload_n hx hb dX5_init_0 rfl (lv_at hl 0 rfl) ?_
  refine W.objInit hx hb hown (htb _ tg_133) (htb _ tg_23) (htb _ tg_24) rfl (by rw [hml]; exact hl.1) rfl dX5_init_1 (Nat.le_of_ble_eq_true rfl) (Nat.le_of_ble_eq_true rfl) ?_
  refine W.eq (g2 := F0 m 4 ls []) rfl ?_
  refine lv_aload_n hx hb dX5_init_4 rfl (lv_at hl 0 rfl) ?_
  refine lv_bipush (v := 6) hx hb dX5_init_5 (by decide) ?_
  refine nw_I (N := 6) hx hb (htb _ tg_85) hK hP hD hS hA (by decide) (by decide) (by decide) (Nat.le_of_ble_eq_true rfl) (Nat.le_of_ble_eq_true rfl) dX5_init_7 (fun q_1 H hP hD hS => ?_)
  have hP : va_P D vwCl (([(a0, .inr (4, [.null, .null, .null, .null, .null, .int 0]))]) ++ (([(q_1, .inl (cI, 6, .inl (fun _ => 0)))]))) H := hP
  have hD : va_D A (([(a0, .inr (4, [.null, .null, .null, .null, .null, .int 0]))]) ++ (([(q_1, .inl (cI, 6, .inl (fun _ => 0)))]))) := hD
  refine W.widen (k := 1) (n := 6) (by omega) (by omega) ?_
  refine va_putF (ci := 4) (v := .ref q_1) (ty := .array .int) (C := RX5) (T := TX5) (N := 6) hx hb htb uX5 tyX5 tyX5_ok nmX5 hown hK.1 hP hD hS 0 rfl rfl 0 (by decide) (htb _ tg_134) (fun _ h9 => h9) rfl hin rfl (by decide +kernel) rfl rfl (Nat.le_of_ble_eq_true rfl) dX5_init_9 (fun H locs hP hD hS => ?_)
  have hP : va_P D vwCl (([(a0, .inr (4, [.ref q_1, .null, .null, .null, .null, .int 0]))]) ++ (([(q_1, .inl (cI, 6, .inl (fun _ => 0)))]))) H := hP
  have hD : va_D A (([(a0, .inr (4, [.ref q_1, .null, .null, .null, .null, .int 0]))]) ++ (([(q_1, .inl (cI, 6, .inl (fun _ => 0)))]))) := hD
  refine lv_aload_n hx hb dX5_init_12 rfl (lv_at hl 0 rfl) ?_
  refine lv_bipush (v := 6) hx hb dX5_init_13 (by decide) ?_
  refine nw_I (N := 6) hx hb (htb _ tg_85) hK hP hD hS hA (by decide) (by decide) (by decide) (Nat.le_of_ble_eq_true rfl) (Nat.le_of_ble_eq_true rfl) dX5_init_15 (fun q_2 H hP hD hS => ?_)
  have hP : va_P D vwCl (([(a0, .inr (4, [.ref q_1, .null, .null, .null, .null, .int 0]))]) ++ (([(q_1, .inl (cI, 6, .inl (fun _ => 0)))]) ++ (([(q_2, .inl (cI, 6, .inl (fun _ => 0)))])))) H := hP
  have hD : va_D A (([(a0, .inr (4, [.ref q_1, .null, .null, .null, .null, .int 0]))]) ++ (([(q_1, .inl (cI, 6, .inl (fun _ => 0)))]) ++ (([(q_2, .inl (cI, 6, .inl (fun _ => 0)))])))) := hD
  refine W.widen (k := 2) (n := 12) (by omega) (by omega) ?_
  refine va_putF (ci := 4) (v := .ref q_2) (ty := .array .int) (C := RX5) (T := TX5) (N := 6) hx hb htb uX5 tyX5 tyX5_ok nmX5 hown hK.1 hP hD hS 0 rfl rfl 1 (by decide) (htb _ tg_137) (fun _ h9 => h9) rfl hin rfl (by decide +kernel) rfl rfl (Nat.le_of_ble_eq_true rfl) dX5_init_17 (fun H locs hP hD hS => ?_)
  have hP : va_P D vwCl (([(a0, .inr (4, [.ref q_1, .ref q_2, .null, .null, .null, .int 0]))]) ++ (([(q_1, .inl (cI, 6, .inl (fun _ => 0)))]) ++ (([(q_2, .inl (cI, 6, .inl (fun _ => 0)))])))) H := hP
  have hD : va_D A (([(a0, .inr (4, [.ref q_1, .ref q_2, .null, .null, .null, .int 0]))]) ++ (([(q_1, .inl (cI, 6, .inl (fun _ => 0)))]) ++ (([(q_2, .inl (cI, 6, .inl (fun _ => 0)))])))) := hD
  refine lv_aload_n hx hb dX5_init_20 rfl (lv_at hl 0 rfl) ?_
  refine lv_bipush (v := 6) hx hb dX5_init_21 (by decide) ?_
  refine nw_I (N := 6) hx hb (htb _ tg_85) hK hP hD hS hA (by decide) (by decide) (by decide) (Nat.le_of_ble_eq_true rfl) (Nat.le_of_ble_eq_true rfl) dX5_init_23 (fun q_3 H hP hD hS => ?_)
  have hP : va_P D vwCl (([(a0, .inr (4, [.ref q_1, .ref q_2, .null, .null, .null, .int 0]))]) ++ (([(q_1, .inl (cI, 6, .inl (fun _ => 0)))]) ++ (([(q_2, .inl (cI, 6, .inl (fun _ => 0)))]) ++ (([(q_3, .inl (cI, 6, .inl (fun _ => 0)))]))))) H := hP
  have hD : va_D A (([(a0, .inr (4, [.ref q_1, .ref q_2, .null, .null, .null, .int 0]))]) ++ (([(q_1, .inl (cI, 6, .inl (fun _ => 0)))]) ++ (([(q_2, .inl (cI, 6, .inl (fun _ => 0)))]) ++ (([(q_3, .inl (cI, 6, .inl (fun _ => 0)))]))))) := hD
  refine W.widen (k := 3) (n := 18) (by omega) (by omega) ?_
  refine va_putF (ci := 4) (v := .ref q_3) (ty := .array .int) (C := RX5) (T := TX5) (N := 6) hx hb htb uX5 tyX5 tyX5_ok nmX5 hown hK.1 hP hD hS 0 rfl rfl 2 (by decide) (htb _ tg_140) (fun _ h9 => h9) rfl hin rfl (by decide +kernel) rfl rfl (Nat.le_of_ble_eq_true rfl) dX5_init_25 (fun H locs hP hD hS => ?_)
  have hP : va_P D vwCl (([(a0, .inr (4, [.ref q_1, .ref q_2, .ref q_3, .null, .null, .int 0]))]) ++ (([(q_1, .inl (cI, 6, .inl (fun _ => 0)))]) ++ (([(q_2, .inl (cI, 6, .inl (fun _ => 0)))]) ++ (([(q_3, .inl (cI, 6, .inl (fun _ => 0)))]))))) H := hP
  have hD : va_D A (([(a0, .inr (4, [.ref q_1, .ref q_2, .ref q_3, .null, .null, .int 0]))]) ++ (([(q_1, .inl (cI, 6, .inl (fun _ => 0)))]) ++ (([(q_2, .inl (cI, 6, .inl (fun _ => 0)))]) ++ (([(q_3, .inl (cI, 6, .inl (fun _ => 0)))]))))) := hD
  refine lv_aload_n hx hb dX5_init_28 rfl (lv_at hl 0 rfl) ?_
  refine lv_bipush (v := 6) hx hb dX5_init_29 (by decide) ?_
  refine nw_I (N := 6) hx hb (htb _ tg_85) hK hP hD hS hA (by decide) (by decide) (by decide) (Nat.le_of_ble_eq_true rfl) (Nat.le_of_ble_eq_true rfl) dX5_init_31 (fun q_4 H hP hD hS => ?_)
  have hP : va_P D vwCl (([(a0, .inr (4, [.ref q_1, .ref q_2, .ref q_3, .null, .null, .int 0]))]) ++ (([(q_1, .inl (cI, 6, .inl (fun _ => 0)))]) ++ (([(q_2, .inl (cI, 6, .inl (fun _ => 0)))]) ++ (([(q_3, .inl (cI, 6, .inl (fun _ => 0)))]) ++ (([(q_4, .inl (cI, 6, .inl (fun _ => 0)))])))))) H := hP
  have hD : va_D A (([(a0, .inr (4, [.ref q_1, .ref q_2, .ref q_3, .null, .null, .int 0]))]) ++ (([(q_1, .inl (cI, 6, .inl (fun _ => 0)))]) ++ (([(q_2, .inl (cI, 6, .inl (fun _ => 0)))]) ++ (([(q_3, .inl (cI, 6, .inl (fun _ => 0)))]) ++ (([(q_4, .inl (cI, 6, .inl (fun _ => 0)))])))))) := hD
  refine W.widen (k := 4) (n := 24) (by omega) (by omega) ?_
  refine va_putF (ci := 4) (v := .ref q_4) (ty := .array .int) (C := RX5) (T := TX5) (N := 6) hx hb htb uX5 tyX5 tyX5_ok nmX5 hown hK.1 hP hD hS 0 rfl rfl 3 (by decide) (htb _ tg_143) (fun _ h9 => h9) rfl hin rfl (by decide +kernel) rfl rfl (Nat.le_of_ble_eq_true rfl) dX5_init_33 (fun H locs hP hD hS => ?_)
  have hP : va_P D vwCl (([(a0, .inr (4, [.ref q_1, .ref q_2, .ref q_3, .ref q_4, .null, .int 0]))]) ++ (([(q_1, .inl (cI, 6, .inl (fun _ => 0)))]) ++ (([(q_2, .inl (cI, 6, .inl (fun _ => 0)))]) ++ (([(q_3, .inl (cI, 6, .inl (fun _ => 0)))]) ++ (([(q_4, .inl (cI, 6, .inl (fun _ => 0)))])))))) H := hP
  have hD : va_D A (([(a0, .inr (4, [.ref q_1, .ref q_2, .ref q_3, .ref q_4, .null, .int 0]))]) ++ (([(q_1, .inl (cI, 6, .inl (fun _ => 0)))]) ++ (([(q_2, .inl (cI, 6, .inl (fun _ => 0)))]) ++ (([(q_3, .inl (cI, 6, .inl (fun _ => 0)))]) ++ (([(q_4, .inl (cI, 6, .inl (fun _ => 0)))])))))) := hD
  refine lv_aload_n hx hb dX5_init_36 rfl (lv_at hl 0 rfl) ?_
  refine lv_bipush (v := 120) hx hb dX5_init_37 (by decide) ?_
  refine nw_I (N := 120) hx hb (htb _ tg_85) hK hP hD hS hA (by decide) (by decide) (by decide) (Nat.le_of_ble_eq_true rfl) (Nat.le_of_ble_eq_true rfl) dX5_init_39 (fun q_5 H hP hD hS => ?_)
  have hP : va_P D vwCl (([(a0, .inr (4, [.ref q_1, .ref q_2, .ref q_3, .ref q_4, .null, .int 0]))]) ++ (([(q_1, .inl (cI, 6, .inl (fun _ => 0)))]) ++ (([(q_2, .inl (cI, 6, .inl (fun _ => 0)))]) ++ (([(q_3, .inl (cI, 6, .inl (fun _ => 0)))]) ++ (([(q_4, .inl (cI, 6, .inl (fun _ => 0)))]) ++ (([(q_5, .inl (cI, 120, .inl (fun _ => 0)))]))))))) H := hP
  have hD : va_D A (([(a0, .inr (4, [.ref q_1, .ref q_2, .ref q_3, .ref q_4, .null, .int 0]))]) ++ (([(q_1, .inl (cI, 6, .inl (fun _ => 0)))]) ++ (([(q_2, .inl (cI, 6, .inl (fun _ => 0)))]) ++ (([(q_3, .inl (cI, 6, .inl (fun _ => 0)))]) ++ (([(q_4, .inl (cI, 6, .inl (fun _ => 0)))]) ++ (([(q_5, .inl (cI, 120, .inl (fun _ => 0)))]))))))) := hD
  refine W.widen (k := 5) (n := 144) (by omega) (by omega) ?_
  refine va_putF (ci := 4) (v := .ref q_5) (ty := .array .int) (C := RX5) (T := TX5) (N := 6) hx hb htb uX5 tyX5 tyX5_ok nmX5 hown hK.1 hP hD hS 0 rfl rfl 4 (by decide) (htb _ tg_146) (fun _ h9 => h9) rfl hin rfl (by decide +kernel) rfl rfl (Nat.le_of_ble_eq_true rfl) dX5_init_41 (fun H locs hP hD hS => ?_)
  have hP : va_P D vwCl (([(a0, .inr (4, [.ref q_1, .ref q_2, .ref q_3, .ref q_4, .ref q_5, .int 0]))]) ++ (([(q_1, .inl (cI, 6, .inl (fun _ => 0)))]) ++ (([(q_2, .inl (cI, 6, .inl (fun _ => 0)))]) ++ (([(q_3, .inl (cI, 6, .inl (fun _ => 0)))]) ++ (([(q_4, .inl (cI, 6, .inl (fun _ => 0)))]) ++ (([(q_5, .inl (cI, 120, .inl (fun _ => 0)))]))))))) H := hP
  have hD : va_D A (([(a0, .inr (4, [.ref q_1, .ref q_2, .ref q_3, .ref q_4, .ref q_5, .int 0]))]) ++ (([(q_1, .inl (cI, 6, .inl (fun _ => 0)))]) ++ (([(q_2, .inl (cI, 6, .inl (fun _ => 0)))]) ++ (([(q_3, .inl (cI, 6, .inl (fun _ => 0)))]) ++ (([(q_4, .inl (cI, 6, .inl (fun _ => 0)))]) ++ (([(q_5, .inl (cI, 120, .inl (fun _ => 0)))]))))))) := hD
  have hg := Option.some.inj hg
  rw [hQ]
  refine W.widen (k := 5) (n := 144) (by omega) (by omega) ?_
  have hP : va_P D vwCl ((GX5 cI cJ cZ cY a0 ((fun k => match k with | 0 => q_1 | 1 => q_2 | 2 => q_3 | 3 => q_4 | 4 => q_5 | _ => 0) 0) ((fun k => match k with | 0 => q_1 | 1 => q_2 | 2 => q_3 | 3 => q_4 | 4 => q_5 | _ => 0) 1) ((fun k => match k with | 0 => q_1 | 1 => q_2 | 2 => q_3 | 3 => q_4 | 4 => q_5 | _ => 0) 2) ((fun k => match k with | 0 => q_1 | 1 => q_2 | 2 => q_3 | 3 => q_4 | 4 => q_5 | _ => 0) 3) ((fun k => match k with | 0 => q_1 | 1 => q_2 | 2 => q_3 | 3 => q_4 | 4 => q_5 | _ => 0) 4) res)) H := by rw [← hg]; exact hP.sub [0, 1, 2, 3, 4, 5] rfl
  have hD : va_D A ((GX5 cI cJ cZ cY a0 ((fun k => match k with | 0 => q_1 | 1 => q_2 | 2 => q_3 | 3 => q_4 | 4 => q_5 | _ => 0) 0) ((fun k => match k with | 0 => q_1 | 1 => q_2 | 2 => q_3 | 3 => q_4 | 4 => q_5 | _ => 0) 1) ((fun k => match k with | 0 => q_1 | 1 => q_2 | 2 => q_3 | 3 => q_4 | 4 => q_5 | _ => 0) 2) ((fun k => match k with | 0 => q_1 | 1 => q_2 | 2 => q_3 | 3 => q_4 | 4 => q_5 | _ => 0) 3) ((fun k => match k with | 0 => q_1 | 1 => q_2 | 2 => q_3 | 3 => q_4 | 4 => q_5 | _ => 0) 4) res)) := by rw [← hg]; exact hD.sub [0, 1, 2, 3, 4, 5] (by decide) rfl
  exact W.vret hx hb hr (fun t ht hW => ⟨⟨((fun k => match k with | 0 => q_1 | 1 => q_2 | 2 => q_3 | 3 => q_4 | 4 => q_5 | _ => 0), res), rfl, rfl, by rw [ht]; exact hP, hD⟩, hS.F ht⟩) hS.2.2 dX5_init_44

/-! ManyEyes$Tokens.<init>()V -/
def f_X9_init : Option (BX9) := some (0, 0, 0, 0, 0, (fun _ => 0), (fun _ => 0), (fun _ => 0))
abbrev rm_X9_init : Room := { frames := 1, cells := 3, slots := 903, locals := 12 }
set_option maxHeartbeats 8000000 in
set_option maxRecDepth 100000 in
theorem k_X9_init {l : Launch} {D : va_G} {cI cJ cZ cY : ClassId} {tX tY sz : Nat} (a0 : Nat) (res : BX9) (hg : f_X9_init = some res) : Met l yX9_init (Cond.code yX9_init cX9_init 1 none :: TB) rm_X9_init (PC D cI cJ cZ cY tX tY [.ref a0] (([(a0, .inr (8, [.null, .null, .null, .int 0, .int 0, .int 0, .int 0, .int 0]))])) sz) (va_Qv (fun u : (Nat → Nat) × (BX9) => u.2 = res) (BC D (fun u : (Nat → Nat) × (BX9) => (GX9 cI cJ cZ cY a0 (u.1 0) (u.1 1) (u.1 2) u.2)) (va_A (([(a0, .inr (8, [.null, .null, .null, .int 0, .int 0, .int 0, .int 0, .int 0]))])) sz)) (va_A (([(a0, .inr (8, [.null, .null, .null, .int 0, .int 0, .int 0, .int 0, .int 0]))])) sz)) 3 903 (va_A (([(a0, .inr (8, [.null, .null, .null, .int 0, .int 0, .int 0, .int 0, .int 0]))])) sz) := by
  refine Met.ofW (cc := cX9_init) (maxL := 1) (ret := none) (by decide) rfl ?_
  intro p e s m args below meth c s₁ B hml hv
  obtain ⟨hargs, hsz, hP, hK, hD0, hT⟩ := hv
  have hx := B.exec
  have hb := B.bytes
  have hr := B.returns
  have hin : meth.name = "<init>" := (name_of_methodNamed B.named B.method).1
  have htb : ∀ w ∈ TB, w.before args s = true := fun w h => atoms_spec (ws := Cond.code yX9_init cX9_init 1 none :: TB) B.pre w (List.mem_cons_of_mem _ h)
  have hown : s.vm.findClass "ManyEyes$Tokens" = some m.cls := findClass_of_methodNamed B.named
  have hlocks := B.notSynchronized
  subst hsz
  have hD := hD0.self (sz := s.heap.size)
  generalize hAe : va_A (([(a0, .inr (8, [.null, .null, .null, .int 0, .int 0, .int 0, .int 0, .int 0]))])) s.heap.size = A at hD hT ⊢
  have hA : ∀ q : Nat, s.heap.size ≤ q → A q := fun q h => by rw [← hAe]; exact Or.inr h
  have hl := lv_entry ([.ref a0]) (n := 1) (Nat.le_of_ble_eq_true rfl)
  have he : entryFrame m args 1 = F0 m 0 (lg_sl ([.ref a0]) ++ List.replicate (1 - (lg_sl ([.ref a0])).length) Slot.unset).toArray [] := by rw [hargs, lg_entry_eq]
  rw [he]
  generalize (lg_sl ([.ref a0]) ++ List.replicate (1 - (lg_sl ([.ref a0])).length) Slot.unset).toArray = ls at hl ⊢
  have hl : lv_has ls 1 [(0, .ref a0)] := hl
  show W p l e rm_X9_init s m args below meth c s.heap [] 0 0 _ _
  refine W.genQ (fun Q hQ => ?_)
  generalize hHe : s.heap = H at hP ⊢
  have hS : va_S A s.heap H [] := by rw [← hHe]; exact va_S.rf
  generalize ([] : List Loc) = locs at hS ⊢
  unfold f_X9_init at hg
  refine lv_aload_n hx hb dX9_init_0 rfl (lv_at hl 0 rfl) ?_
  refine W.objInit hx hb hown (htb _ tg_356) (htb _ tg_23) (htb _ tg_24) rfl (by rw [hml]; exact hl.1) rfl dX9_init_1 (Nat.le_of_ble_eq_true rfl) (Nat.le_of_ble_eq_true rfl) ?_
  refine W.eq (g2 := F0 m 4 ls []) rfl ?_
  refine lv_aload_n hx hb dX9_init_4 rfl (lv_at hl 0 rfl) ?_
  refine lv_sipush (v := 301) hx hb dX9_init_5 (by decide) ?_
  refine nw_I (N := 301) hx hb (htb _ tg_85) hK hP hD hS hA (by decide) (by decide) (by decide) (Nat.le_of_ble_eq_true rfl) (Nat.le_of_ble_eq_true rfl) dX9_init_8 (fun q_1 H hP hD hS => ?_)
  have hP : va_P D vwCl (([(a0, .inr (8, [.null, .null, .null, .int 0, .int 0, .int 0, .int 0, .int 0]))]) ++ (([(q_1, .inl (cI, 301, .inl (fun _ => 0)))]))) H := hP
  have hD : va_D A (([(a0, .inr (8, [.null, .null, .null, .int 0, .int 0, .int 0, .int 0, .int 0]))]) ++ (([(q_1, .inl (cI, 301, .inl (fun _ => 0)))]))) := hD
  refine W.widen (k := 1) (n := 301) (by omega) (by omega) ?_
  refine va_putF (ci := 8) (v := .ref q_1) (ty := .array .int) (C := RX9) (T := TX9) (N := 8) hx hb htb uX9 tyX9 tyX9_ok nmX9 hown hK.1 hP hD hS 0 rfl rfl 0 (by decide) (htb _ tg_357) (fun _ h9 => h9) rfl hin rfl (by decide +kernel) rfl rfl (Nat.le_of_ble_eq_true rfl) dX9_init_10 (fun H locs hP hD hS => ?_)
  have hP : va_P D vwCl (([(a0, .inr (8, [.ref q_1, .null, .null, .int 0, .int 0, .int 0, .int 0, .int 0]))]) ++ (([(q_1, .inl (cI, 301, .inl (fun _ => 0)))]))) H := hP
  have hD : va_D A (([(a0, .inr (8, [.ref q_1, .null, .null, .int 0, .int 0, .int 0, .int 0, .int 0]))]) ++ (([(q_1, .inl (cI, 301, .inl (fun _ => 0)))]))) := hD
  refine lv_aload_n hx hb dX9_init_13 rfl (lv_at hl 0 rfl) ?_
  refine lv_sipush (v := 301) hx hb dX9_init_14 (by decide) ?_
  refine nw_I (N := 301) hx hb (htb _ tg_85) hK hP hD hS hA (by decide) (by decide) (by decide) (Nat.le_of_ble_eq_true rfl) (Nat.le_of_ble_eq_true rfl) dX9_init_17 (fun q_2 H hP hD hS => ?_)
  have hP : va_P D vwCl (([(a0, .inr (8, [.ref q_1, .null, .null, .int 0, .int 0, .int 0, .int 0, .int 0]))]) ++ (([(q_1, .inl (cI, 301, .inl (fun _ => 0)))]) ++ (([(q_2, .inl (cI, 301, .inl (fun _ => 0)))])))) H := hP
  have hD : va_D A (([(a0, .inr (8, [.ref q_1, .null, .null, .int 0, .int 0, .int 0, .int 0, .int 0]))]) ++ (([(q_1, .inl (cI, 301, .inl (fun _ => 0)))]) ++ (([(q_2, .inl (cI, 301, .inl (fun _ => 0)))])))) := hD
  refine W.widen (k := 2) (n := 602) (by omega) (by omega) ?_
  refine va_putF (ci := 8) (v := .ref q_2) (ty := .array .int) (C := RX9) (T := TX9) (N := 8) hx hb htb uX9 tyX9 tyX9_ok nmX9 hown hK.1 hP hD hS 0 rfl rfl 1 (by decide) (htb _ tg_358) (fun _ h9 => h9) rfl hin rfl (by decide +kernel) rfl rfl (Nat.le_of_ble_eq_true rfl) dX9_init_19 (fun H locs hP hD hS => ?_)
  have hP : va_P D vwCl (([(a0, .inr (8, [.ref q_1, .ref q_2, .null, .int 0, .int 0, .int 0, .int 0, .int 0]))]) ++ (([(q_1, .inl (cI, 301, .inl (fun _ => 0)))]) ++ (([(q_2, .inl (cI, 301, .inl (fun _ => 0)))])))) H := hP
  have hD : va_D A (([(a0, .inr (8, [.ref q_1, .ref q_2, .null, .int 0, .int 0, .int 0, .int 0, .int 0]))]) ++ (([(q_1, .inl (cI, 301, .inl (fun _ => 0)))]) ++ (([(q_2, .inl (cI, 301, .inl (fun _ => 0)))])))) := hD
  refine lv_aload_n hx hb dX9_init_22 rfl (lv_at hl 0 rfl) ?_
  refine lv_sipush (v := 301) hx hb dX9_init_23 (by decide) ?_
  refine nw_I (N := 301) hx hb (htb _ tg_85) hK hP hD hS hA (by decide) (by decide) (by decide) (Nat.le_of_ble_eq_true rfl) (Nat.le_of_ble_eq_true rfl) dX9_init_26 (fun q_3 H hP hD hS => ?_)
  have hP : va_P D vwCl (([(a0, .inr (8, [.ref q_1, .ref q_2, .null, .int 0, .int 0, .int 0, .int 0, .int 0]))]) ++ (([(q_1, .inl (cI, 301, .inl (fun _ => 0)))]) ++ (([(q_2, .inl (cI, 301, .inl (fun _ => 0)))]) ++ (([(q_3, .inl (cI, 301, .inl (fun _ => 0)))]))))) H := hP
  have hD : va_D A (([(a0, .inr (8, [.ref q_1, .ref q_2, .null, .int 0, .int 0, .int 0, .int 0, .int 0]))]) ++ (([(q_1, .inl (cI, 301, .inl (fun _ => 0)))]) ++ (([(q_2, .inl (cI, 301, .inl (fun _ => 0)))]) ++ (([(q_3, .inl (cI, 301, .inl (fun _ => 0)))]))))) := hD
  refine W.widen (k := 3) (n := 903) (by omega) (by omega) ?_
  refine va_putF (ci := 8) (v := .ref q_3) (ty := .array .int) (C := RX9) (T := TX9) (N := 8) hx hb htb uX9 tyX9 tyX9_ok nmX9 hown hK.1 hP hD hS 0 rfl rfl 2 (by decide) (htb _ tg_359) (fun _ h9 => h9) rfl hin rfl (by decide +kernel) rfl rfl (Nat.le_of_ble_eq_true rfl) dX9_init_28 (fun H locs hP hD hS => ?_)
  have hP : va_P D vwCl (([(a0, .inr (8, [.ref q_1, .ref q_2, .ref q_3, .int 0, .int 0, .int 0, .int 0, .int 0]))]) ++ (([(q_1, .inl (cI, 301, .inl (fun _ => 0)))]) ++ (([(q_2, .inl (cI, 301, .inl (fun _ => 0)))]) ++ (([(q_3, .inl (cI, 301, .inl (fun _ => 0)))]))))) H := hP
  have hD : va_D A (([(a0, .inr (8, [.ref q_1, .ref q_2, .ref q_3, .int 0, .int 0, .int 0, .int 0, .int 0]))]) ++ (([(q_1, .inl (cI, 301, .inl (fun _ => 0)))]) ++ (([(q_2, .inl (cI, 301, .inl (fun _ => 0)))]) ++ (([(q_3, .inl (cI, 301, .inl (fun _ => 0)))]))))) := hD
  have hg := Option.some.inj hg
  rw [hQ]
  refine W.widen (k := 3) (n := 903) (by omega) (by omega) ?_
  have hP : va_P D vwCl ((GX9 cI cJ cZ cY a0 ((fun k => match k with | 0 => q_1 | 1 => q_2 | 2 => q_3 | _ => 0) 0) ((fun k => match k with | 0 => q_1 | 1 => q_2 | 2 => q_3 | _ => 0) 1) ((fun k => match k with | 0 => q_1 | 1 => q_2 | 2 => q_3 | _ => 0) 2) res)) H := by rw [← hg]; exact hP.sub [0, 1, 2, 3] rfl
  have hD : va_D A ((GX9 cI cJ cZ cY a0 ((fun k => match k with | 0 => q_1 | 1 => q_2 | 2 => q_3 | _ => 0) 0) ((fun k => match k with | 0 => q_1 | 1 => q_2 | 2 => q_3 | _ => 0) 1) ((fun k => match k with | 0 => q_1 | 1 => q_2 | 2 => q_3 | _ => 0) 2) res)) := by rw [← hg]; exact hD.sub [0, 1, 2, 3] (by decide) rfl
  exact W.vret hx hb hr (fun t ht hW => ⟨⟨((fun k => match k with | 0 => q_1 | 1 => q_2 | 2 => q_3 | _ => 0), res), rfl, rfl, by rw [ht]; exact hP, hD⟩, hS.F ht⟩) hS.2.2 dX9_init_31

/-! ManyEyes$Parser.<init>()V -/
def f_X4_init : Option (BX4 × BX9) := (f_X9_init).bind (fun r_2 => some ((0, 0, 0, 0, 0, 0, (fun _ => 0)), r_2))
abbrev rm_X4_init : Room := { frames := 2, cells := 5, slots := 1211, locals := 32 }
set_option maxHeartbeats 8000000 in
set_option maxRecDepth 100000 in
theorem k_X4_init {l : Launch} {D : va_G} {cI cJ cZ cY : ClassId} {tX tY sz : Nat} (a0 : Nat) (res : BX4 × BX9) (hg : f_X4_init = some res) : Met l yX4_init (Cond.code yX4_init cX4_init 1 none :: TB) rm_X4_init (PC D cI cJ cZ cY tX tY [.ref a0] (([(a0, .inr (3, [.null, .null, .int 0, .int 0, .int 0, .int 0, .int 0, .int 0]))])) sz) (va_Qv (fun u : (Nat → Nat) × (BX4 × BX9) => u.2 = res) (BC D (fun u : (Nat → Nat) × (BX4 × BX9) => (GX4 cI cJ cZ cY a0 (u.1 0) (u.1 1) u.2.1) ++ ((GX9 cI cJ cZ cY (u.1 1) (u.1 2) (u.1 3) (u.1 4) u.2.2))) (va_A (([(a0, .inr (3, [.null, .null, .int 0, .int 0, .int 0, .int 0, .int 0, .int 0]))])) sz)) (va_A (([(a0, .inr (3, [.null, .null, .int 0, .int 0, .int 0, .int 0, .int 0, .int 0]))])) sz)) 5 1211 (va_A (([(a0, .inr (3, [.null, .null, .int 0, .int 0, .int 0, .int 0, .int 0, .int 0]))])) sz) := by
  refine Met.ofW (cc := cX4_init) (maxL := 1) (ret := none) (by decide) rfl ?_
  intro p e s m args below meth c s₁ B hml hv
  obtain ⟨hargs, hsz, hP, hK, hD0, hT⟩ := hv
  have hx := B.exec
  have hb := B.bytes
  have hr := B.returns
  have hin : meth.name = "<init>" := (name_of_methodNamed B.named B.method).1
  have htb : ∀ w ∈ TB, w.before args s = true := fun w h => atoms_spec (ws := Cond.code yX4_init cX4_init 1 none :: TB) B.pre w (List.mem_cons_of_mem _ h)
  have hown : s.vm.findClass "ManyEyes$Parser" = some m.cls := findClass_of_methodNamed B.named
  have hlocks := B.notSynchronized
  subst hsz
  have hD := hD0.self (sz := s.heap.size)
  generalize hAe : va_A (([(a0, .inr (3, [.null, .null, .int 0, .int 0, .int 0, .int 0, .int 0, .int 0]))])) s.heap.size = A at hD hT ⊢
  have hA : ∀ q : Nat, s.heap.size ≤ q → A q := fun q h => by rw [← hAe]; exact Or.inr h
  have hl := lv_entry ([.ref a0]) (n := 1) (Nat.le_of_ble_eq_true rfl)
  have he : entryFrame m args 1 = F0 m 0 (lg_sl ([.ref a0]) ++ List.replicate (1 - (lg_sl ([.ref a0])).length) Slot.unset).toArray [] := by rw [hargs, lg_entry_eq]
  rw [he]
  generalize (lg_sl ([.ref a0]) ++ List.replicate (1 - (lg_sl ([.ref a0])).length) Slot.unset).toArray = ls at hl ⊢
  have hl : lv_has ls 1 [(0, .ref a0)] := hl
  show W p l e rm_X4_init s m args below meth c s.heap [] 0 0 _ _
  refine W.genQ (fun Q hQ => ?_)
  generalize hHe : s.heap = H at hP ⊢
  have hS : va_S A s.heap H [] := by rw [← hHe]; exact va_S.rf
  generalize ([] : List Loc) = locs at hS ⊢
  unfold f_X4_init at hg
  refine lv_aload_n hx hb dX4_init_0 rfl (lv_at hl 0 rfl) ?_
  refine W.objInit hx hb hown (htb _ tg_350) (htb _ tg_23) (htb _ tg_24) rfl (by rw [hml]; exact hl.1) rfl dX4_init_1 (Nat.le_of_ble_eq_true rfl) (Nat.le_of_ble_eq_true rfl) ?_
  refine W.eq (g2 := F0 m 4 ls []) rfl ?_
  refine lv_aload_n hx hb dX4_init_4 rfl (lv_at hl 0 rfl) ?_
  refine va_new (ci := 8) (fs := [.null, .null, .null, .int 0, .int 0, .int 0, .int 0, .int 0]) (C := RX9) (T := TX9) (N := 8) hx hb htb uX9 tyX9 tyX9_ok hown (htb _ tg_351) (htb _ tg_352) (htb _ tg_12) hK.1 hP hD hS hA rfl (fun j hj => by match j, hj with | 0, _ => rfl | 1, _ => rfl | 2, _ => rfl | 3, _ => rfl | 4, _ => rfl | 5, _ => rfl | 6, _ => rfl | 7, _ => rfl | z + 8, h => exact absurd h (by omega)) (Nat.le_of_ble_eq_true rfl) (Nat.le_of_ble_eq_true rfl) dX4_init_5 (fun q_1 H hP hD hS => ?_)
  have hP : va_P D vwCl (([(a0, .inr (3, [.null, .null, .int 0, .int 0, .int 0, .int 0, .int 0, .int 0]))]) ++ (([(q_1, .inr (8, [.null, .null, .null, .int 0, .int 0, .int 0, .int 0, .int 0]))]))) H := hP
  have hD : va_D A (([(a0, .inr (3, [.null, .null, .int 0, .int 0, .int 0, .int 0, .int 0, .int 0]))]) ++ (([(q_1, .inr (8, [.null, .null, .null, .int 0, .int 0, .int 0, .int 0, .int 0]))]))) := hD
  refine W.widen (k := 1) (n := 8) (by omega) (by omega) ?_
  refine lv_dup hx hb dX4_init_8 rfl ?_
  obtain ⟨r_2, hr_2, hg⟩ := g_bd hg
  refine cc_v (va_runIN (As := []) (rest := [.ref q_1, .ref a0]) ⟨hx, hb, hml, hown, htb⟩ (k_X9_init q_1 r_2 hr_2) (⟨va_cnB (Ts := Cond.code yX9_init cX9_init 1 none :: TB) 0 (fun w hw => (List.mem_cons.mp hw).elim (fun e => by rw [e]; exact htb _ tg_355) (htb w)) (goodTB tg_355) rfl rfl rfl (hK.2.1 _ nw_353) (htb _ tg_12) (by decide +kernel) ⟨Nat.le_of_ble_eq_true rfl, Nat.le_of_ble_eq_true rfl⟩, rfl, htb _ tg_354⟩) ⟨PC.blind, PC.pre hK hT hP hD hS hA [1] rfl (by decide)⟩ rfl rfl hl.1 rfl (lv_room (Nat.le_of_ble_eq_true rfl)) dX4_init_9 ⟨Nat.le_of_ble_eq_true rfl, Nat.le_of_ble_eq_true rfl⟩) hP hD hS hA [1] [0] rfl rfl (by decide) (by decide) (fun u_3 H locs hw hP hD hS => ?_)
  try dsimp only at hw
  rw [hw] at hP hD
  have hP : va_P D vwCl (([(a0, .inr (3, [.null, .null, .int 0, .int 0, .int 0, .int 0, .int 0, .int 0]))]) ++ ((GX9 cI cJ cZ cY q_1 (u_3.1 0) (u_3.1 1) (u_3.1 2) r_2))) H := hP.sub [0, 1, 2, 3, 4] rfl
  have hD : va_D A (([(a0, .inr (3, [.null, .null, .int 0, .int 0, .int 0, .int 0, .int 0, .int 0]))]) ++ ((GX9 cI cJ cZ cY q_1 (u_3.1 0) (u_3.1 1) (u_3.1 2) r_2))) := hD.sub [0, 1, 2, 3, 4] (by decide) rfl
  refine W.widen (k := 4) (n := 911) (by omega) (by omega) ?_
  refine va_putF (ci := 3) (v := .ref q_1) (ty := .object "ManyEyes$Tokens") (C := RX4) (T := TX4) (N := 8) hx hb htb uX4 tyX4 tyX4_ok nmX4 hown hK.1 hP hD hS 0 rfl rfl 0 (by decide) (htb _ tg_385) (fun _ h9 => h9) rfl hin rfl (by decide +kernel) rfl rfl (Nat.le_of_ble_eq_true rfl) dX4_init_12 (fun H locs hP hD hS => ?_)
  have hP : va_P D vwCl (([(a0, .inr (3, [.ref q_1, .null, .int 0, .int 0, .int 0, .int 0, .int 0, .int 0]))]) ++ ((GX9 cI cJ cZ cY q_1 (u_3.1 0) (u_3.1 1) (u_3.1 2) r_2))) H := hP
  have hD : va_D A (([(a0, .inr (3, [.ref q_1, .null, .int 0, .int 0, .int 0, .int 0, .int 0, .int 0]))]) ++ ((GX9 cI cJ cZ cY q_1 (u_3.1 0) (u_3.1 1) (u_3.1 2) r_2))) := hD
  refine lv_aload_n hx hb dX4_init_15 rfl (lv_at hl 0 rfl) ?_
  refine lv_sipush (v := 300) hx hb dX4_init_16 (by decide) ?_
  refine nw_I (N := 300) hx hb (htb _ tg_85) hK hP hD hS hA (by decide) (by decide) (by decide) (Nat.le_of_ble_eq_true rfl) (Nat.le_of_ble_eq_true rfl) dX4_init_19 (fun q_4 H hP hD hS => ?_)
  have hP : va_P D vwCl (([(a0, .inr (3, [.ref q_1, .null, .int 0, .int 0, .int 0, .int 0, .int 0, .int 0]))]) ++ ((GX9 cI cJ cZ cY q_1 (u_3.1 0) (u_3.1 1) (u_3.1 2) r_2) ++ (([(q_4, .inl (cI, 300, .inl (fun _ => 0)))])))) H := hP
  have hD : va_D A (([(a0, .inr (3, [.ref q_1, .null, .int 0, .int 0, .int 0, .int 0, .int 0, .int 0]))]) ++ ((GX9 cI cJ cZ cY q_1 (u_3.1 0) (u_3.1 1) (u_3.1 2) r_2) ++ (([(q_4, .inl (cI, 300, .inl (fun _ => 0)))])))) := hD
  refine W.widen (k := 5) (n := 1211) (by omega) (by omega) ?_
  refine va_putF (ci := 3) (v := .ref q_4) (ty := .array .int) (C := RX4) (T := TX4) (N := 8) hx hb htb uX4 tyX4 tyX4_ok nmX4 hown hK.1 hP hD hS 0 rfl rfl 1 (by decide) (htb _ tg_386) (fun _ h9 => h9) rfl hin rfl (by decide +kernel) rfl rfl (Nat.le_of_ble_eq_true rfl) dX4_init_21 (fun H locs hP hD hS => ?_)
  have hP : va_P D vwCl (([(a0, .inr (3, [.ref q_1, .ref q_4, .int 0, .int 0, .int 0, .int 0, .int 0, .int 0]))]) ++ ((GX9 cI cJ cZ cY q_1 (u_3.1 0) (u_3.1 1) (u_3.1 2) r_2) ++ (([(q_4, .inl (cI, 300, .inl (fun _ => 0)))])))) H := hP
  have hD : va_D A (([(a0, .inr (3, [.ref q_1, .ref q_4, .int 0, .int 0, .int 0, .int 0, .int 0, .int 0]))]) ++ ((GX9 cI cJ cZ cY q_1 (u_3.1 0) (u_3.1 1) (u_3.1 2) r_2) ++ (([(q_4, .inl (cI, 300, .inl (fun _ => 0)))])))) := hD
  have hg := Option.some.inj hg
  rw [hQ]
  refine W.widen (k := 5) (n := 1211) (by omega) (by omega) ?_
  have hP : va_P D vwCl ((GX4 cI cJ cZ cY a0 ((fun k => match k with | 0 => q_4 | 1 => q_1 | 2 => (u_3.1 0) | 3 => (u_3.1 1) | 4 => (u_3.1 2) | _ => 0) 0) ((fun k => match k with | 0 => q_4 | 1 => q_1 | 2 => (u_3.1 0) | 3 => (u_3.1 1) | 4 => (u_3.1 2) | _ => 0) 1) res.1) ++ ((GX9 cI cJ cZ cY ((fun k => match k with | 0 => q_4 | 1 => q_1 | 2 => (u_3.1 0) | 3 => (u_3.1 1) | 4 => (u_3.1 2) | _ => 0) 1) ((fun k => match k with | 0 => q_4 | 1 => q_1 | 2 => (u_3.1 0) | 3 => (u_3.1 1) | 4 => (u_3.1 2) | _ => 0) 2) ((fun k => match k with | 0 => q_4 | 1 => q_1 | 2 => (u_3.1 0) | 3 => (u_3.1 1) | 4 => (u_3.1 2) | _ => 0) 3) ((fun k => match k with | 0 => q_4 | 1 => q_1 | 2 => (u_3.1 0) | 3 => (u_3.1 1) | 4 => (u_3.1 2) | _ => 0) 4) res.2))) H := by rw [← hg]; exact hP.sub [0, 5, 1, 2, 3, 4] rfl
  have hD : va_D A ((GX4 cI cJ cZ cY a0 ((fun k => match k with | 0 => q_4 | 1 => q_1 | 2 => (u_3.1 0) | 3 => (u_3.1 1) | 4 => (u_3.1 2) | _ => 0) 0) ((fun k => match k with | 0 => q_4 | 1 => q_1 | 2 => (u_3.1 0) | 3 => (u_3.1 1) | 4 => (u_3.1 2) | _ => 0) 1) res.1) ++ ((GX9 cI cJ cZ cY ((fun k => match k with | 0 => q_4 | 1 => q_1 | 2 => (u_3.1 0) | 3 => (u_3.1 1) | 4 => (u_3.1 2) | _ => 0) 1) ((fun k => match k with | 0 => q_4 | 1 => q_1 | 2 => (u_3.1 0) | 3 => (u_3.1 1) | 4 => (u_3.1 2) | _ => 0) 2) ((fun k => match k with | 0 => q_4 | 1 => q_1 | 2 => (u_3.1 0) | 3 => (u_3.1 1) | 4 => (u_3.1 2) | _ => 0) 3) ((fun k => match k with | 0 => q_4 | 1 => q_1 | 2 => (u_3.1 0) | 3 => (u_3.1 1) | 4 => (u_3.1 2) | _ => 0) 4) res.2))) := by rw [← hg]; exact hD.sub [0, 5, 1, 2, 3, 4] (by decide) rfl
  exact W.vret hx hb hr (fun t ht hW => ⟨⟨((fun k => match k with | 0 => q_4 | 1 => q_1 | 2 => (u_3.1 0) | 3 => (u_3.1 1) | 4 => (u_3.1 2) | _ => 0), res), rfl, rfl, by rw [ht]; exact hP, hD⟩, hS.F ht⟩) hS.2.2 dX4_init_24

/-! ManyEyes$Runner.<init>(LManyEyes$Eye;)V -/
def f_X6_init : Option (BX6) := some (0, 1000000, 0, 0, 0, 0, (fun _ => 0), (fun _ => 0))
abbrev rm_X6_init : Room := { frames := 1, cells := 2, slots := 72, locals := 12 }
set_option maxHeartbeats 8000000 in
set_option maxRecDepth 100000 in
theorem k_X6_init {l : Launch} {D : va_G} {cI cJ cZ cY : ClassId} {tX tY sz : Nat} (a0 q_arg0 : Nat) (res : BX6) (hg : f_X6_init = some res) : Met l yX6_init (Cond.code yX6_init cX6_init 2 none :: TB) rm_X6_init (PC D cI cJ cZ cY tX tY [.ref a0, .ref q_arg0] (([(a0, .inr (5, [.null, .null, .null, .int 0, .int 0, .int 0, .int 0, .int 0, .int 0]))])) sz) (va_Qv (fun u : (Nat → Nat) × (BX6) => u.2 = res) (BC D (fun u : (Nat → Nat) × (BX6) => (GX6 cI cJ cZ cY a0 (u.1 0) (u.1 1) q_arg0 u.2)) (va_A (([(a0, .inr (5, [.null, .null, .null, .int 0, .int 0, .int 0, .int 0, .int 0, .int 0]))])) sz)) (va_A (([(a0, .inr (5, [.null, .null, .null, .int 0, .int 0, .int 0, .int 0, .int 0, .int 0]))])) sz)) 2 72 (va_A (([(a0, .inr (5, [.null, .null, .null, .int 0, .int 0, .int 0, .int 0, .int 0, .int 0]))])) sz) := by
  refine Met.ofW (cc := cX6_init) (maxL := 2) (ret := none) (by decide) rfl ?_
  intro p e s m args below meth c s₁ B hml hv
  obtain ⟨hargs, hsz, hP, hK, hD0, hT⟩ := hv
  have hx := B.exec
  have hb := B.bytes
  have hr := B.returns
  have hin : meth.name = "<init>" := (name_of_methodNamed B.named B.method).1
  have htb : ∀ w ∈ TB, w.before args s = true := fun w h => atoms_spec (ws := Cond.code yX6_init cX6_init 2 none :: TB) B.pre w (List.mem_cons_of_mem _ h)
  have hown : s.vm.findClass "ManyEyes$Runner" = some m.cls := findClass_of_methodNamed B.named
  have hlocks := B.notSynchronized
  subst hsz
  have hD := hD0.self (sz := s.heap.size)
  generalize hAe : va_A (([(a0, .inr (5, [.null, .null, .null, .int 0, .int 0, .int 0, .int 0, .int 0, .int 0]))])) s.heap.size = A at hD hT ⊢
  have hA : ∀ q : Nat, s.heap.size ≤ q → A q := fun q h => by rw [← hAe]; exact Or.inr h
  have hl := lv_entry ([.ref a0, .ref q_arg0]) (n := 2) (Nat.le_of_ble_eq_true rfl)
  have he : entryFrame m args 2 = F0 m 0 (lg_sl ([.ref a0, .ref q_arg0]) ++ List.replicate (2 - (lg_sl ([.ref a0, .ref q_arg0])).length) Slot.unset).toArray [] := by rw [hargs, lg_entry_eq]
  rw [he]
  generalize (lg_sl ([.ref a0, .ref q_arg0]) ++ List.replicate (2 - (lg_sl ([.ref a0, .ref q_arg0])).length) Slot.unset).toArray = ls at hl ⊢
  have hl : lv_has ls 2 [(0, .ref a0), (1, .ref q_arg0)] := hl
  show W p l e rm_X6_init s m args below meth c s.heap [] 0 0 _ _
  refine W.genQ (fun Q hQ => ?_)
  generalize hHe : s.heap = H at hP ⊢
  have hS : va_S A s.heap H [] := by rw [← hHe]; exact va_S.rf
  generalize ([] : List Loc) = locs at hS ⊢
  unfold f_X6_init at hg
  refine lv_aload_n hx hb dX6_init_0 rfl (lv_at hl 0 rfl) ?_
  refine W.objInit hx hb hown (htb _ tg_295) (htb _ tg_23) (htb _ tg_24) rfl (by rw [hml]; exact hl.1) rfl dX6_init_1 (Nat.le_of_ble_eq_true rfl) (Nat.le_of_ble_eq_true rfl) ?_
  refine W.eq (g2 := F0 m 4 ls []) rfl ?_
  refine lv_aload_n hx hb dX6_init_4 rfl (lv_at hl 0 rfl) ?_
  refine lv_aload_n hx hb dX6_init_5 rfl (lv_at hl 1 rfl) ?_
  refine va_putF (ci := 5) (v := .ref q_arg0) (ty := .object "ManyEyes$Eye") (C := RX6) (T := TX6) (N := 9) hx hb htb uX6 tyX6 tyX6_ok nmX6 hown hK.1 hP hD hS 0 rfl rfl 0 (by decide) (htb _ tg_297) (fun _ h9 => h9) rfl hin rfl (by decide +kernel) rfl rfl (Nat.le_of_ble_eq_true rfl) dX6_init_6 (fun H locs hP hD hS => ?_)
  have hP : va_P D vwCl (([(a0, .inr (5, [.ref q_arg0, .null, .null, .int 0, .int 0, .int 0, .int 0, .int 0, .int 0]))])) H := hP
  have hD : va_D A (([(a0, .inr (5, [.ref q_arg0, .null, .null, .int 0, .int 0, .int 0, .int 0, .int 0, .int 0]))])) := hD
  refine lv_aload_n hx hb dX6_init_9 rfl (lv_at hl 0 rfl) ?_
  refine lv_bipush (v := 64) hx hb dX6_init_10 (by decide) ?_
  refine nw_I (N := 64) hx hb (htb _ tg_85) hK hP hD hS hA (by decide) (by decide) (by decide) (Nat.le_of_ble_eq_true rfl) (Nat.le_of_ble_eq_true rfl) dX6_init_12 (fun q_1 H hP hD hS => ?_)
  have hP : va_P D vwCl (([(a0, .inr (5, [.ref q_arg0, .null, .null, .int 0, .int 0, .int 0, .int 0, .int 0, .int 0]))]) ++ (([(q_1, .inl (cI, 64, .inl (fun _ => 0)))]))) H := hP
  have hD : va_D A (([(a0, .inr (5, [.ref q_arg0, .null, .null, .int 0, .int 0, .int 0, .int 0, .int 0, .int 0]))]) ++ (([(q_1, .inl (cI, 64, .inl (fun _ => 0)))]))) := hD
  refine W.widen (k := 1) (n := 64) (by omega) (by omega) ?_
  refine va_putF (ci := 5) (v := .ref q_1) (ty := .array .int) (C := RX6) (T := TX6) (N := 9) hx hb htb uX6 tyX6 tyX6_ok nmX6 hown hK.1 hP hD hS 0 rfl rfl 1 (by decide) (htb _ tg_298) (fun _ h9 => h9) rfl hin rfl (by decide +kernel) rfl rfl (Nat.le_of_ble_eq_true rfl) dX6_init_14 (fun H locs hP hD hS => ?_)
  have hP : va_P D vwCl (([(a0, .inr (5, [.ref q_arg0, .ref q_1, .null, .int 0, .int 0, .int 0, .int 0, .int 0, .int 0]))]) ++ (([(q_1, .inl (cI, 64, .inl (fun _ => 0)))]))) H := hP
  have hD : va_D A (([(a0, .inr (5, [.ref q_arg0, .ref q_1, .null, .int 0, .int 0, .int 0, .int 0, .int 0, .int 0]))]) ++ (([(q_1, .inl (cI, 64, .inl (fun _ => 0)))]))) := hD
  refine lv_aload_n hx hb dX6_init_17 rfl (lv_at hl 0 rfl) ?_
  refine lv_bipush (v := 8) hx hb dX6_init_18 (by decide) ?_
  refine nw_I (N := 8) hx hb (htb _ tg_85) hK hP hD hS hA (by decide) (by decide) (by decide) (Nat.le_of_ble_eq_true rfl) (Nat.le_of_ble_eq_true rfl) dX6_init_20 (fun q_2 H hP hD hS => ?_)
  have hP : va_P D vwCl (([(a0, .inr (5, [.ref q_arg0, .ref q_1, .null, .int 0, .int 0, .int 0, .int 0, .int 0, .int 0]))]) ++ (([(q_1, .inl (cI, 64, .inl (fun _ => 0)))]) ++ (([(q_2, .inl (cI, 8, .inl (fun _ => 0)))])))) H := hP
  have hD : va_D A (([(a0, .inr (5, [.ref q_arg0, .ref q_1, .null, .int 0, .int 0, .int 0, .int 0, .int 0, .int 0]))]) ++ (([(q_1, .inl (cI, 64, .inl (fun _ => 0)))]) ++ (([(q_2, .inl (cI, 8, .inl (fun _ => 0)))])))) := hD
  refine W.widen (k := 2) (n := 72) (by omega) (by omega) ?_
  refine va_putF (ci := 5) (v := .ref q_2) (ty := .array .int) (C := RX6) (T := TX6) (N := 9) hx hb htb uX6 tyX6 tyX6_ok nmX6 hown hK.1 hP hD hS 0 rfl rfl 2 (by decide) (htb _ tg_299) (fun _ h9 => h9) rfl hin rfl (by decide +kernel) rfl rfl (Nat.le_of_ble_eq_true rfl) dX6_init_22 (fun H locs hP hD hS => ?_)
  have hP : va_P D vwCl (([(a0, .inr (5, [.ref q_arg0, .ref q_1, .ref q_2, .int 0, .int 0, .int 0, .int 0, .int 0, .int 0]))]) ++ (([(q_1, .inl (cI, 64, .inl (fun _ => 0)))]) ++ (([(q_2, .inl (cI, 8, .inl (fun _ => 0)))])))) H := hP
  have hD : va_D A (([(a0, .inr (5, [.ref q_arg0, .ref q_1, .ref q_2, .int 0, .int 0, .int 0, .int 0, .int 0, .int 0]))]) ++ (([(q_1, .inl (cI, 64, .inl (fun _ => 0)))]) ++ (([(q_2, .inl (cI, 8, .inl (fun _ => 0)))])))) := hD
  refine lv_aload_n hx hb dX6_init_25 rfl (lv_at hl 0 rfl) ?_
  refine lv_ldc (v := 1000000) hx hb hown (htb _ tg_296) dX6_init_26 ?_
  refine va_put (ci := 5) (v := .int 1000000) (ty := .int) (C := RX6) (T := TX6) (N := 9) hx hb htb uX6 tyX6 tyX6_ok nmX6 hown hK.1 hP hD hS 0 rfl rfl 4 (by decide) (htb _ tg_301) (fun _ h9 => h9) rfl (by decide +kernel) rfl rfl (Nat.le_of_ble_eq_true rfl) dX6_init_28 (fun H locs hP hD hS => ?_)
  have hP : va_P D vwCl (([(a0, .inr (5, [.ref q_arg0, .ref q_1, .ref q_2, .int 0, .int 1000000, .int 0, .int 0, .int 0, .int 0]))]) ++ (([(q_1, .inl (cI, 64, .inl (fun _ => 0)))]) ++ (([(q_2, .inl (cI, 8, .inl (fun _ => 0)))])))) H := hP
  have hD : va_D A (([(a0, .inr (5, [.ref q_arg0, .ref q_1, .ref q_2, .int 0, .int 1000000, .int 0, .int 0, .int 0, .int 0]))]) ++ (([(q_1, .inl (cI, 64, .inl (fun _ => 0)))]) ++ (([(q_2, .inl (cI, 8, .inl (fun _ => 0)))])))) := hD
  have hg := Option.some.inj hg
  rw [hQ]
  refine W.widen (k := 2) (n := 72) (by omega) (by omega) ?_
  have hP : va_P D vwCl ((GX6 cI cJ cZ cY a0 ((fun k => match k with | 0 => q_1 | 1 => q_2 | _ => 0) 0) ((fun k => match k with | 0 => q_1 | 1 => q_2 | _ => 0) 1) q_arg0 res)) H := by rw [← hg]; exact hP.sub [0, 1, 2] rfl
  have hD : va_D A ((GX6 cI cJ cZ cY a0 ((fun k => match k with | 0 => q_1 | 1 => q_2 | _ => 0) 0) ((fun k => match k with | 0 => q_1 | 1 => q_2 | _ => 0) 1) q_arg0 res)) := by rw [← hg]; exact hD.sub [0, 1, 2] (by decide) rfl
  exact W.vret hx hb hr (fun t ht hW => ⟨⟨((fun k => match k with | 0 => q_1 | 1 => q_2 | _ => 0), res), rfl, rfl, by rw [ht]; exact hP, hD⟩, hS.F ht⟩) hS.2.2 dX6_init_31

/-! ManyEyes$Sight.<init>(LManyEyes$World;)V -/
def f_X7_init (v_g0 : BX10) : Option (BX7) := g_gd (¬ ((Int32.ofNat (pX10_n v_g0)) : Int32) < 0 ∧ (((Int32.ofNat (pX10_n v_g0)) : Int32).toNatClampNeg) ≤ 576) (some ((((Int32.ofNat (pX10_n v_g0)) : Int32).toNatClampNeg), 0, 0, (fun _ => 0), (fun _ => 0)))
abbrev rm_X7_init : Room := { frames := 1, cells := 2, slots := 640, locals := 12 }
set_option maxHeartbeats 8000000 in
set_option maxRecDepth 100000 in
theorem k_X7_init {l : Launch} {D : va_G} {cI cJ cZ cY : ClassId} {tX tY sz : Nat} (a0 g0 g0_own g0_bodyX g0_bodyY g0_bodyWayX g0_bodyWayY g0_bodyMark : Nat) (v_g0 : BX10) (res : BX7) (hg : f_X7_init v_g0 = some res) : Met l yX7_init (Cond.code yX7_init cX7_init 2 none :: TB) rm_X7_init (PC D cI cJ cZ cY tX tY [.ref a0, .ref g0] (([(a0, .inr (6, [.null, .null, .null, .int 0, .int 0]))]) ++ ((GX10 cI cJ cZ cY g0 g0_own g0_bodyX g0_bodyY g0_bodyWayX g0_bodyWayY g0_bodyMark v_g0))) sz) (va_Qv (fun u : (Nat → Nat) × (BX7) => u.2 = res) (BC D (fun u : (Nat → Nat) × (BX7) => (GX7 cI cJ cZ cY a0 (u.1 0) (u.1 1) g0 u.2) ++ ((GX10 cI cJ cZ cY g0 g0_own g0_bodyX g0_bodyY g0_bodyWayX g0_bodyWayY g0_bodyMark v_g0))) (va_A (([(a0, .inr (6, [.null, .null, .null, .int 0, .int 0]))]) ++ ((GX10 cI cJ cZ cY g0 g0_own g0_bodyX g0_bodyY g0_bodyWayX g0_bodyWayY g0_bodyMark v_g0))) sz)) (va_A (([(a0, .inr (6, [.null, .null, .null, .int 0, .int 0]))]) ++ ((GX10 cI cJ cZ cY g0 g0_own g0_bodyX g0_bodyY g0_bodyWayX g0_bodyWayY g0_bodyMark v_g0))) sz)) 2 640 (va_A (([(a0, .inr (6, [.null, .null, .null, .int 0, .int 0]))]) ++ ((GX10 cI cJ cZ cY g0 g0_own g0_bodyX g0_bodyY g0_bodyWayX g0_bodyWayY g0_bodyMark v_g0))) sz) := by
  refine Met.ofW (cc := cX7_init) (maxL := 2) (ret := none) (by decide) rfl ?_
  intro p e s m args below meth c s₁ B hml hv
  obtain ⟨hargs, hsz, hP, hK, hD0, hT⟩ := hv
  have hx := B.exec
  have hb := B.bytes
  have hr := B.returns
  have hin : meth.name = "<init>" := (name_of_methodNamed B.named B.method).1
  have htb : ∀ w ∈ TB, w.before args s = true := fun w h => atoms_spec (ws := Cond.code yX7_init cX7_init 2 none :: TB) B.pre w (List.mem_cons_of_mem _ h)
  have hown : s.vm.findClass "ManyEyes$Sight" = some m.cls := findClass_of_methodNamed B.named
  have hlocks := B.notSynchronized
  subst hsz
  have hD := hD0.self (sz := s.heap.size)
  generalize hAe : va_A (([(a0, .inr (6, [.null, .null, .null, .int 0, .int 0]))]) ++ ((GX10 cI cJ cZ cY g0 g0_own g0_bodyX g0_bodyY g0_bodyWayX g0_bodyWayY g0_bodyMark v_g0))) s.heap.size = A at hD hT ⊢
  have hA : ∀ q : Nat, s.heap.size ≤ q → A q := fun q h => by rw [← hAe]; exact Or.inr h
  have hl := lv_entry ([.ref a0, .ref g0]) (n := 2) (Nat.le_of_ble_eq_true rfl)
  have he : entryFrame m args 2 = F0 m 0 (lg_sl ([.ref a0, .ref g0]) ++ List.replicate (2 - (lg_sl ([.ref a0, .ref g0])).length) Slot.unset).toArray [] := by rw [hargs, lg_entry_eq]
  rw [he]
  generalize (lg_sl ([.ref a0, .ref g0]) ++ List.replicate (2 - (lg_sl ([.ref a0, .ref g0])).length) Slot.unset).toArray = ls at hl ⊢
  have hl : lv_has ls 2 [(0, .ref a0), (1, .ref g0)] := hl
  show W p l e rm_X7_init s m args below meth c s.heap [] 0 0 _ _
  refine W.genQ (fun Q hQ => ?_)
  generalize hHe : s.heap = H at hP ⊢
  have hS : va_S A s.heap H [] := by rw [← hHe]; exact va_S.rf
  generalize ([] : List Loc) = locs at hS ⊢
  unfold f_X7_init at hg
  refine lv_aload_n hx hb dX7_init_0 rfl (lv_at hl 0 rfl) ?_
  refine W.objInit hx hb hown (htb _ tg_267) (htb _ tg_23) (htb _ tg_24) rfl (by rw [hml]; exact hl.1) rfl dX7_init_1 (Nat.le_of_ble_eq_true rfl) (Nat.le_of_ble_eq_true rfl) ?_
  refine W.eq (g2 := F0 m 4 ls []) rfl ?_
  refine lv_aload_n hx hb dX7_init_4 rfl (lv_at hl 0 rfl) ?_
  refine lv_aload_n hx hb dX7_init_5 rfl (lv_at hl 1 rfl) ?_
  refine va_putF (ci := 6) (v := .ref g0) (ty := .object "ManyEyes$World") (C := RX7) (T := TX7) (N := 5) hx hb htb uX7 tyX7 tyX7_ok nmX7 hown hK.1 hP hD hS 0 rfl rfl 0 (by decide) (htb _ tg_268) (fun _ h9 => h9) rfl hin rfl (by decide +kernel) rfl rfl (Nat.le_of_ble_eq_true rfl) dX7_init_6 (fun H locs hP hD hS => ?_)
  have hP : va_P D vwCl (([(a0, .inr (6, [.ref g0, .null, .null, .int 0, .int 0]))]) ++ ((GX10 cI cJ cZ cY g0 g0_own g0_bodyX g0_bodyY g0_bodyWayX g0_bodyWayY g0_bodyMark v_g0))) H := hP
  have hD : va_D A (([(a0, .inr (6, [.ref g0, .null, .null, .int 0, .int 0]))]) ++ ((GX10 cI cJ cZ cY g0 g0_own g0_bodyX g0_bodyY g0_bodyWayX g0_bodyWayY g0_bodyMark v_g0))) := hD
  refine lv_aload_n hx hb dX7_init_9 rfl (lv_at hl 0 rfl) ?_
  refine lv_aload_n hx hb dX7_init_10 rfl (lv_at hl 1 rfl) ?_
  refine va_get (ci := 9) (v := .ref g0_own) (C := RX10) (T := TX10) (N := 9) hx hb htb uX10 hown hK.1 hP 1 rfl rfl 2 (by decide) (htb _ tg_49) (fun _ h9 => h9) rfl dX7_init_11 ?_
  refine va_alen (v := (Int32.ofNat (pX10_n v_g0))) hx hb hK.1 hP 2 0 rfl rfl rfl dX7_init_14 ?_
  obtain ⟨h_2, hg⟩ := g_gde hg
  have h9h_2 := h_2.2
  refine nw_I (N := (((Int32.ofNat (pX10_n v_g0)) : Int32).toNatClampNeg)) hx hb (htb _ tg_85) hK hP hD hS hA h_2.1 rfl (by omega) (Nat.le_of_ble_eq_true rfl) (by show 0 + _ ≤ rm_X7_init.slots; have := h_2.2; show 0 + _ ≤ 640; omega) dX7_init_15 (fun q_1 H hP hD hS => ?_)
  have hP : va_P D vwCl (([(a0, .inr (6, [.ref g0, .null, .null, .int 0, .int 0]))]) ++ ((GX10 cI cJ cZ cY g0 g0_own g0_bodyX g0_bodyY g0_bodyWayX g0_bodyWayY g0_bodyMark v_g0) ++ (([(q_1, .inl (cI, (((Int32.ofNat (pX10_n v_g0)) : Int32).toNatClampNeg), .inl (fun _ => 0)))])))) H := hP
  have hD : va_D A (([(a0, .inr (6, [.ref g0, .null, .null, .int 0, .int 0]))]) ++ ((GX10 cI cJ cZ cY g0 g0_own g0_bodyX g0_bodyY g0_bodyWayX g0_bodyWayY g0_bodyMark v_g0) ++ (([(q_1, .inl (cI, (((Int32.ofNat (pX10_n v_g0)) : Int32).toNatClampNeg), .inl (fun _ => 0)))])))) := hD
  refine W.widen (k := 1) (n := 576) (by omega) (by omega) ?_
  refine va_putF (ci := 6) (v := .ref q_1) (ty := .array .int) (C := RX7) (T := TX7) (N := 5) hx hb htb uX7 tyX7 tyX7_ok nmX7 hown hK.1 hP hD hS 0 rfl rfl 1 (by decide) (htb _ tg_269) (fun _ h9 => h9) rfl hin rfl (by decide +kernel) rfl rfl (Nat.le_of_ble_eq_true rfl) dX7_init_17 (fun H locs hP hD hS => ?_)
  have hP : va_P D vwCl (([(a0, .inr (6, [.ref g0, .ref q_1, .null, .int 0, .int 0]))]) ++ ((GX10 cI cJ cZ cY g0 g0_own g0_bodyX g0_bodyY g0_bodyWayX g0_bodyWayY g0_bodyMark v_g0) ++ (([(q_1, .inl (cI, (((Int32.ofNat (pX10_n v_g0)) : Int32).toNatClampNeg), .inl (fun _ => 0)))])))) H := hP
  have hD : va_D A (([(a0, .inr (6, [.ref g0, .ref q_1, .null, .int 0, .int 0]))]) ++ ((GX10 cI cJ cZ cY g0 g0_own g0_bodyX g0_bodyY g0_bodyWayX g0_bodyWayY g0_bodyMark v_g0) ++ (([(q_1, .inl (cI, (((Int32.ofNat (pX10_n v_g0)) : Int32).toNatClampNeg), .inl (fun _ => 0)))])))) := hD
  refine lv_aload_n hx hb dX7_init_20 rfl (lv_at hl 0 rfl) ?_
  refine lv_bipush (v := 64) hx hb dX7_init_21 (by decide) ?_
  refine nw_I (N := 64) hx hb (htb _ tg_85) hK hP hD hS hA (by decide) (by decide) (by decide) (Nat.le_of_ble_eq_true rfl) (Nat.le_of_ble_eq_true rfl) dX7_init_23 (fun q_3 H hP hD hS => ?_)
  have hP : va_P D vwCl (([(a0, .inr (6, [.ref g0, .ref q_1, .null, .int 0, .int 0]))]) ++ ((GX10 cI cJ cZ cY g0 g0_own g0_bodyX g0_bodyY g0_bodyWayX g0_bodyWayY g0_bodyMark v_g0) ++ (([(q_1, .inl (cI, (((Int32.ofNat (pX10_n v_g0)) : Int32).toNatClampNeg), .inl (fun _ => 0)))]) ++ (([(q_3, .inl (cI, 64, .inl (fun _ => 0)))]))))) H := hP
  have hD : va_D A (([(a0, .inr (6, [.ref g0, .ref q_1, .null, .int 0, .int 0]))]) ++ ((GX10 cI cJ cZ cY g0 g0_own g0_bodyX g0_bodyY g0_bodyWayX g0_bodyWayY g0_bodyMark v_g0) ++ (([(q_1, .inl (cI, (((Int32.ofNat (pX10_n v_g0)) : Int32).toNatClampNeg), .inl (fun _ => 0)))]) ++ (([(q_3, .inl (cI, 64, .inl (fun _ => 0)))]))))) := hD
  refine W.widen (k := 2) (n := 640) (by omega) (by omega) ?_
  refine va_putF (ci := 6) (v := .ref q_3) (ty := .array .int) (C := RX7) (T := TX7) (N := 5) hx hb htb uX7 tyX7 tyX7_ok nmX7 hown hK.1 hP hD hS 0 rfl rfl 2 (by decide) (htb _ tg_270) (fun _ h9 => h9) rfl hin rfl (by decide +kernel) rfl rfl (Nat.le_of_ble_eq_true rfl) dX7_init_25 (fun H locs hP hD hS => ?_)
  have hP : va_P D vwCl (([(a0, .inr (6, [.ref g0, .ref q_1, .ref q_3, .int 0, .int 0]))]) ++ ((GX10 cI cJ cZ cY g0 g0_own g0_bodyX g0_bodyY g0_bodyWayX g0_bodyWayY g0_bodyMark v_g0) ++ (([(q_1, .inl (cI, (((Int32.ofNat (pX10_n v_g0)) : Int32).toNatClampNeg), .inl (fun _ => 0)))]) ++ (([(q_3, .inl (cI, 64, .inl (fun _ => 0)))]))))) H := hP
  have hD : va_D A (([(a0, .inr (6, [.ref g0, .ref q_1, .ref q_3, .int 0, .int 0]))]) ++ ((GX10 cI cJ cZ cY g0 g0_own g0_bodyX g0_bodyY g0_bodyWayX g0_bodyWayY g0_bodyMark v_g0) ++ (([(q_1, .inl (cI, (((Int32.ofNat (pX10_n v_g0)) : Int32).toNatClampNeg), .inl (fun _ => 0)))]) ++ (([(q_3, .inl (cI, 64, .inl (fun _ => 0)))]))))) := hD
  have hg := Option.some.inj hg
  rw [hQ]
  refine W.widen (k := 2) (n := 640) (by omega) (by omega) ?_
  have hP : va_P D vwCl ((GX7 cI cJ cZ cY a0 ((fun k => match k with | 0 => q_1 | 1 => q_3 | _ => 0) 0) ((fun k => match k with | 0 => q_1 | 1 => q_3 | _ => 0) 1) g0 res) ++ ((GX10 cI cJ cZ cY g0 g0_own g0_bodyX g0_bodyY g0_bodyWayX g0_bodyWayY g0_bodyMark v_g0))) H := by rw [← hg]; exact hP.sub [0, 8, 9, 1, 2, 3, 4, 5, 6, 7] rfl
  have hD : va_D A ((GX7 cI cJ cZ cY a0 ((fun k => match k with | 0 => q_1 | 1 => q_3 | _ => 0) 0) ((fun k => match k with | 0 => q_1 | 1 => q_3 | _ => 0) 1) g0 res) ++ ((GX10 cI cJ cZ cY g0 g0_own g0_bodyX g0_bodyY g0_bodyWayX g0_bodyWayY g0_bodyMark v_g0))) := by rw [← hg]; exact hD.sub [0, 8, 9, 1, 2, 3, 4, 5, 6, 7] (by decide) rfl
  exact W.vret hx hb hr (fun t ht hW => ⟨⟨((fun k => match k with | 0 => q_1 | 1 => q_3 | _ => 0), res), rfl, rfl, by rw [ht]; exact hP, hD⟩, hS.F ht⟩) hS.2.2 dX7_init_28

/-! ManyEyes$World.<init>(II)V -/
def f_X10_init (p0 : Int32) (p1 : Int32) : Option (BX10) := g_lt ((if (4 : Int32) < (if (p0 : Int32) < 24 then p0 else 24) then (if (p0 : Int32) < 24 then p0 else 24) else 4) : Int32) (fun x_1 => g_lt ((if (4 : Int32) < (if (p1 : Int32) < 24 then p1 else 24) then (if (p1 : Int32) < 24 then p1 else 24) else 4) : Int32) (fun x_2 => g_gd (¬ ((x_1 * x_2) : Int32) < 0 ∧ (((x_1 * x_2) : Int32).toNatClampNeg) ≤ 576) (some ((((x_1 * x_2) : Int32).toNatClampNeg), x_1, x_2, 0, (fun _ => 0), (fun _ => 0), (fun _ => 0), (fun _ => 0), (fun _ => 0), (fun _ => 0)))))
abbrev rm_X10_init : Room := { frames := 1, cells := 6, slots := 606, locals := 21 }
set_option maxHeartbeats 8000000 in
set_option maxRecDepth 100000 in
theorem k_X10_init {l : Launch} {D : va_G} {cI cJ cZ cY : ClassId} {tX tY sz : Nat} (a0 : Nat) (p0 : Int32) (p1 : Int32) (res : BX10) (hg : f_X10_init p0 p1 = some res) : Met l yX10_init (Cond.code yX10_init cX10_init 3 none :: TB) rm_X10_init (PC D cI cJ cZ cY tX tY [.ref a0, .int p0, .int p1] (([(a0, .inr (9, [.int 0, .int 0, .null, .null, .null, .null, .null, .null, .int 0]))])) sz) (va_Qv (fun u : (Nat → Nat) × (BX10) => u.2 = res) (BC D (fun u : (Nat → Nat) × (BX10) => (GX10 cI cJ cZ cY a0 (u.1 0) (u.1 1) (u.1 2) (u.1 3) (u.1 4) (u.1 5) u.2)) (va_A (([(a0, .inr (9, [.int 0, .int 0, .null, .null, .null, .null, .null, .null, .int 0]))])) sz)) (va_A (([(a0, .inr (9, [.int 0, .int 0, .null, .null, .null, .null, .null, .null, .int 0]))])) sz)) 6 606 (va_A (([(a0, .inr (9, [.int 0, .int 0, .null, .null, .null, .null, .null, .null, .int 0]))])) sz) := by
  refine Met.ofW (cc := cX10_init) (maxL := 3) (ret := none) (by decide) rfl ?_
  intro p e s m args below meth c s₁ B hml hv
  obtain ⟨hargs, hsz, hP, hK, hD0, hT⟩ := hv
  have hx := B.exec
  have hb := B.bytes
  have hr := B.returns
  have hin : meth.name = "<init>" := (name_of_methodNamed B.named B.method).1
  have htb : ∀ w ∈ TB, w.before args s = true := fun w h => atoms_spec (ws := Cond.code yX10_init cX10_init 3 none :: TB) B.pre w (List.mem_cons_of_mem _ h)
  have hown : s.vm.findClass "ManyEyes$World" = some m.cls := findClass_of_methodNamed B.named
  have hlocks := B.notSynchronized
  subst hsz
  have hD := hD0.self (sz := s.heap.size)
  generalize hAe : va_A (([(a0, .inr (9, [.int 0, .int 0, .null, .null, .null, .null, .null, .null, .int 0]))])) s.heap.size = A at hD hT ⊢
  have hA : ∀ q : Nat, s.heap.size ≤ q → A q := fun q h => by rw [← hAe]; exact Or.inr h
  have hl := lv_entry ([.ref a0, .int p0, .int p1]) (n := 3) (Nat.le_of_ble_eq_true rfl)
  have he : entryFrame m args 3 = F0 m 0 (lg_sl ([.ref a0, .int p0, .int p1]) ++ List.replicate (3 - (lg_sl ([.ref a0, .int p0, .int p1])).length) Slot.unset).toArray [] := by rw [hargs, lg_entry_eq]
  rw [he]
  generalize (lg_sl ([.ref a0, .int p0, .int p1]) ++ List.replicate (3 - (lg_sl ([.ref a0, .int p0, .int p1])).length) Slot.unset).toArray = ls at hl ⊢
  have hl : lv_has ls 3 [(0, .ref a0), (1, .int p0), (2, .int p1)] := hl
  show W p l e rm_X10_init s m args below meth c s.heap [] 0 0 _ _
  refine W.genQ (fun Q hQ => ?_)
  generalize hHe : s.heap = H at hP ⊢
  have hS : va_S A s.heap H [] := by rw [← hHe]; exact va_S.rf
  generalize ([] : List Loc) = locs at hS ⊢
  unfold f_X10_init at hg
  refine lv_aload_n hx hb dX10_init_0 rfl (lv_at hl 0 rfl) ?_
  refine W.objInit hx hb hown (htb _ tg_36) (htb _ tg_23) (htb _ tg_24) rfl (by rw [hml]; exact hl.1) rfl dX10_init_1 (Nat.le_of_ble_eq_true rfl) (Nat.le_of_ble_eq_true rfl) ?_
  refine W.eq (g2 := F0 m 4 ls []) rfl ?_
  refine lv_aload_n hx hb dX10_init_4 rfl (lv_at hl 0 rfl) ?_
  refine lv_iconst (v := 4) hx hb dX10_init_5 (by decide) ?_
  refine lv_bipush (v := 24) hx hb dX10_init_6 (by decide) ?_
  refine lv_iload_n hx hb dX10_init_8 rfl (lv_at hl 1 rfl) ?_
  refine va_mmin hx hb (hml.trans hl.1.symm) hown (htb _ tg_37) (htb _ tg_38) (htb _ tg_4) (htb _ tg_39) (Nat.le_of_ble_eq_true rfl) (Nat.le_of_ble_eq_true rfl) (Nat.le_of_ble_eq_true rfl) (Nat.le_of_ble_eq_true rfl) dX10_init_9 ?_
  refine va_mmax hx hb (hml.trans hl.1.symm) hown (htb _ tg_40) (htb _ tg_41) (htb _ tg_4) (htb _ tg_42) (Nat.le_of_ble_eq_true rfl) (Nat.le_of_ble_eq_true rfl) (Nat.le_of_ble_eq_true rfl) (Nat.le_of_ble_eq_true rfl) dX10_init_12 ?_
  refine lv_topi (fun x_1 ex_1 => ?_)
  have hg := g_lte hg x_1 ex_1
  refine va_putF (ci := 9) (v := .int x_1) (ty := .int) (C := RX10) (T := TX10) (N := 9) hx hb htb uX10 tyX10 tyX10_ok nmX10 hown hK.1 hP hD hS 0 rfl rfl 0 (by decide) (htb _ tg_43) (fun _ h9 => h9) rfl hin rfl (by decide +kernel) rfl rfl (Nat.le_of_ble_eq_true rfl) dX10_init_15 (fun H locs hP hD hS => ?_)
  have hP : va_P D vwCl (([(a0, .inr (9, [.int x_1, .int 0, .null, .null, .null, .null, .null, .null, .int 0]))])) H := hP
  have hD : va_D A (([(a0, .inr (9, [.int x_1, .int 0, .null, .null, .null, .null, .null, .null, .int 0]))])) := hD
  refine lv_aload_n hx hb dX10_init_18 rfl (lv_at hl 0 rfl) ?_
  refine lv_iconst (v := 4) hx hb dX10_init_19 (by decide) ?_
  refine lv_bipush (v := 24) hx hb dX10_init_20 (by decide) ?_
  refine lv_iload_n hx hb dX10_init_22 rfl (lv_at hl 2 rfl) ?_
  refine va_mmin hx hb (hml.trans hl.1.symm) hown (htb _ tg_37) (htb _ tg_38) (htb _ tg_4) (htb _ tg_39) (Nat.le_of_ble_eq_true rfl) (Nat.le_of_ble_eq_true rfl) (Nat.le_of_ble_eq_true rfl) (Nat.le_of_ble_eq_true rfl) dX10_init_23 ?_
  refine va_mmax hx hb (hml.trans hl.1.symm) hown (htb _ tg_40) (htb _ tg_41) (htb _ tg_4) (htb _ tg_42) (Nat.le_of_ble_eq_true rfl) (Nat.le_of_ble_eq_true rfl) (Nat.le_of_ble_eq_true rfl) (Nat.le_of_ble_eq_true rfl) dX10_init_26 ?_
  refine lv_topi (fun x_2 ex_2 => ?_)
  have hg := g_lte hg x_2 ex_2
  refine va_putF (ci := 9) (v := .int x_2) (ty := .int) (C := RX10) (T := TX10) (N := 9) hx hb htb uX10 tyX10 tyX10_ok nmX10 hown hK.1 hP hD hS 0 rfl rfl 1 (by decide) (htb _ tg_46) (fun _ h9 => h9) rfl hin rfl (by decide +kernel) rfl rfl (Nat.le_of_ble_eq_true rfl) dX10_init_29 (fun H locs hP hD hS => ?_)
  have hP : va_P D vwCl (([(a0, .inr (9, [.int x_1, .int x_2, .null, .null, .null, .null, .null, .null, .int 0]))])) H := hP
  have hD : va_D A (([(a0, .inr (9, [.int x_1, .int x_2, .null, .null, .null, .null, .null, .null, .int 0]))])) := hD
  refine lv_aload_n hx hb dX10_init_32 rfl (lv_at hl 0 rfl) ?_
  refine lv_aload_n hx hb dX10_init_33 rfl (lv_at hl 0 rfl) ?_
  refine va_get (ci := 9) (v := .int x_1) (C := RX10) (T := TX10) (N := 9) hx hb htb uX10 hown hK.1 hP 0 rfl rfl 0 (by decide) (htb _ tg_43) (fun _ h9 => h9) rfl dX10_init_34 ?_
  refine lv_aload_n hx hb dX10_init_37 rfl (lv_at hl 0 rfl) ?_
  refine va_get (ci := 9) (v := .int x_2) (C := RX10) (T := TX10) (N := 9) hx hb htb uX10 hown hK.1 hP 0 rfl rfl 1 (by decide) (htb _ tg_46) (fun _ h9 => h9) rfl dX10_init_38 ?_
  refine lv_imul hx hb dX10_init_41 ?_
  obtain ⟨h_4, hg⟩ := g_gde hg
  have h9h_4 := h_4.2
  refine nw_I (N := (((x_1 * x_2) : Int32).toNatClampNeg)) hx hb (htb _ tg_85) hK hP hD hS hA h_4.1 rfl (by omega) (Nat.le_of_ble_eq_true rfl) (by show 0 + _ ≤ rm_X10_init.slots; have := h_4.2; show 0 + _ ≤ 606; omega) dX10_init_42 (fun q_3 H hP hD hS => ?_)
  have hP : va_P D vwCl (([(a0, .inr (9, [.int x_1, .int x_2, .null, .null, .null, .null, .null, .null, .int 0]))]) ++ (([(q_3, .inl (cI, (((x_1 * x_2) : Int32).toNatClampNeg), .inl (fun _ => 0)))]))) H := hP
  have hD : va_D A (([(a0, .inr (9, [.int x_1, .int x_2, .null, .null, .null, .null, .null, .null, .int 0]))]) ++ (([(q_3, .inl (cI, (((x_1 * x_2) : Int32).toNatClampNeg), .inl (fun _ => 0)))]))) := hD
  refine W.widen (k := 1) (n := 576) (by omega) (by omega) ?_
  refine va_putF (ci := 9) (v := .ref q_3) (ty := .array .int) (C := RX10) (T := TX10) (N := 9) hx hb htb uX10 tyX10 tyX10_ok nmX10 hown hK.1 hP hD hS 0 rfl rfl 2 (by decide) (htb _ tg_50) (fun _ h9 => h9) rfl hin rfl (by decide +kernel) rfl rfl (Nat.le_of_ble_eq_true rfl) dX10_init_44 (fun H locs hP hD hS => ?_)
  have hP : va_P D vwCl (([(a0, .inr (9, [.int x_1, .int x_2, .ref q_3, .null, .null, .null, .null, .null, .int 0]))]) ++ (([(q_3, .inl (cI, (((x_1 * x_2) : Int32).toNatClampNeg), .inl (fun _ => 0)))]))) H := hP
  have hD : va_D A (([(a0, .inr (9, [.int x_1, .int x_2, .ref q_3, .null, .null, .null, .null, .null, .int 0]))]) ++ (([(q_3, .inl (cI, (((x_1 * x_2) : Int32).toNatClampNeg), .inl (fun _ => 0)))]))) := hD
  refine lv_aload_n hx hb dX10_init_47 rfl (lv_at hl 0 rfl) ?_
  refine lv_bipush (v := 6) hx hb dX10_init_48 (by decide) ?_
  refine nw_I (N := 6) hx hb (htb _ tg_85) hK hP hD hS hA (by decide) (by decide) (by decide) (Nat.le_of_ble_eq_true rfl) (Nat.le_of_ble_eq_true rfl) dX10_init_50 (fun q_5 H hP hD hS => ?_)
  have hP : va_P D vwCl (([(a0, .inr (9, [.int x_1, .int x_2, .ref q_3, .null, .null, .null, .null, .null, .int 0]))]) ++ (([(q_3, .inl (cI, (((x_1 * x_2) : Int32).toNatClampNeg), .inl (fun _ => 0)))]) ++ (([(q_5, .inl (cI, 6, .inl (fun _ => 0)))])))) H := hP
  have hD : va_D A (([(a0, .inr (9, [.int x_1, .int x_2, .ref q_3, .null, .null, .null, .null, .null, .int 0]))]) ++ (([(q_3, .inl (cI, (((x_1 * x_2) : Int32).toNatClampNeg), .inl (fun _ => 0)))]) ++ (([(q_5, .inl (cI, 6, .inl (fun _ => 0)))])))) := hD
  refine W.widen (k := 2) (n := 582) (by omega) (by omega) ?_
  refine va_putF (ci := 9) (v := .ref q_5) (ty := .array .int) (C := RX10) (T := TX10) (N := 9) hx hb htb uX10 tyX10 tyX10_ok nmX10 hown hK.1 hP hD hS 0 rfl rfl 3 (by decide) (htb _ tg_52) (fun _ h9 => h9) rfl hin rfl (by decide +kernel) rfl rfl (Nat.le_of_ble_eq_true rfl) dX10_init_52 (fun H locs hP hD hS => ?_)
  have hP : va_P D vwCl (([(a0, .inr (9, [.int x_1, .int x_2, .ref q_3, .ref q_5, .null, .null, .null, .null, .int 0]))]) ++ (([(q_3, .inl (cI, (((x_1 * x_2) : Int32).toNatClampNeg), .inl (fun _ => 0)))]) ++ (([(q_5, .inl (cI, 6, .inl (fun _ => 0)))])))) H := hP
  have hD : va_D A (([(a0, .inr (9, [.int x_1, .int x_2, .ref q_3, .ref q_5, .null, .null, .null, .null, .int 0]))]) ++ (([(q_3, .inl (cI, (((x_1 * x_2) : Int32).toNatClampNeg), .inl (fun _ => 0)))]) ++ (([(q_5, .inl (cI, 6, .inl (fun _ => 0)))])))) := hD
  refine lv_aload_n hx hb dX10_init_55 rfl (lv_at hl 0 rfl) ?_
  refine lv_bipush (v := 6) hx hb dX10_init_56 (by decide) ?_
  refine nw_I (N := 6) hx hb (htb _ tg_85) hK hP hD hS hA (by decide) (by decide) (by decide) (Nat.le_of_ble_eq_true rfl) (Nat.le_of_ble_eq_true rfl) dX10_init_58 (fun q_6 H hP hD hS => ?_)
  have hP : va_P D vwCl (([(a0, .inr (9, [.int x_1, .int x_2, .ref q_3, .ref q_5, .null, .null, .null, .null, .int 0]))]) ++ (([(q_3, .inl (cI, (((x_1 * x_2) : Int32).toNatClampNeg), .inl (fun _ => 0)))]) ++ (([(q_5, .inl (cI, 6, .inl (fun _ => 0)))]) ++ (([(q_6, .inl (cI, 6, .inl (fun _ => 0)))]))))) H := hP
  have hD : va_D A (([(a0, .inr (9, [.int x_1, .int x_2, .ref q_3, .ref q_5, .null, .null, .null, .null, .int 0]))]) ++ (([(q_3, .inl (cI, (((x_1 * x_2) : Int32).toNatClampNeg), .inl (fun _ => 0)))]) ++ (([(q_5, .inl (cI, 6, .inl (fun _ => 0)))]) ++ (([(q_6, .inl (cI, 6, .inl (fun _ => 0)))]))))) := hD
  refine W.widen (k := 3) (n := 588) (by omega) (by omega) ?_
  refine va_putF (ci := 9) (v := .ref q_6) (ty := .array .int) (C := RX10) (T := TX10) (N := 9) hx hb htb uX10 tyX10 tyX10_ok nmX10 hown hK.1 hP hD hS 0 rfl rfl 4 (by decide) (htb _ tg_54) (fun _ h9 => h9) rfl hin rfl (by decide +kernel) rfl rfl (Nat.le_of_ble_eq_true rfl) dX10_init_60 (fun H locs hP hD hS => ?_)
  have hP : va_P D vwCl (([(a0, .inr (9, [.int x_1, .int x_2, .ref q_3, .ref q_5, .ref q_6, .null, .null, .null, .int 0]))]) ++ (([(q_3, .inl (cI, (((x_1 * x_2) : Int32).toNatClampNeg), .inl (fun _ => 0)))]) ++ (([(q_5, .inl (cI, 6, .inl (fun _ => 0)))]) ++ (([(q_6, .inl (cI, 6, .inl (fun _ => 0)))]))))) H := hP
  have hD : va_D A (([(a0, .inr (9, [.int x_1, .int x_2, .ref q_3, .ref q_5, .ref q_6, .null, .null, .null, .int 0]))]) ++ (([(q_3, .inl (cI, (((x_1 * x_2) : Int32).toNatClampNeg), .inl (fun _ => 0)))]) ++ (([(q_5, .inl (cI, 6, .inl (fun _ => 0)))]) ++ (([(q_6, .inl (cI, 6, .inl (fun _ => 0)))]))))) := hD
  refine lv_aload_n hx hb dX10_init_63 rfl (lv_at hl 0 rfl) ?_
  refine lv_bipush (v := 6) hx hb dX10_init_64 (by decide) ?_
  refine nw_I (N := 6) hx hb (htb _ tg_85) hK hP hD hS hA (by decide) (by decide) (by decide) (Nat.le_of_ble_eq_true rfl) (Nat.le_of_ble_eq_true rfl) dX10_init_66 (fun q_7 H hP hD hS => ?_)
  have hP : va_P D vwCl (([(a0, .inr (9, [.int x_1, .int x_2, .ref q_3, .ref q_5, .ref q_6, .null, .null, .null, .int 0]))]) ++ (([(q_3, .inl (cI, (((x_1 * x_2) : Int32).toNatClampNeg), .inl (fun _ => 0)))]) ++ (([(q_5, .inl (cI, 6, .inl (fun _ => 0)))]) ++ (([(q_6, .inl (cI, 6, .inl (fun _ => 0)))]) ++ (([(q_7, .inl (cI, 6, .inl (fun _ => 0)))])))))) H := hP
  have hD : va_D A (([(a0, .inr (9, [.int x_1, .int x_2, .ref q_3, .ref q_5, .ref q_6, .null, .null, .null, .int 0]))]) ++ (([(q_3, .inl (cI, (((x_1 * x_2) : Int32).toNatClampNeg), .inl (fun _ => 0)))]) ++ (([(q_5, .inl (cI, 6, .inl (fun _ => 0)))]) ++ (([(q_6, .inl (cI, 6, .inl (fun _ => 0)))]) ++ (([(q_7, .inl (cI, 6, .inl (fun _ => 0)))])))))) := hD
  refine W.widen (k := 4) (n := 594) (by omega) (by omega) ?_
  refine va_putF (ci := 9) (v := .ref q_7) (ty := .array .int) (C := RX10) (T := TX10) (N := 9) hx hb htb uX10 tyX10 tyX10_ok nmX10 hown hK.1 hP hD hS 0 rfl rfl 5 (by decide) (htb _ tg_56) (fun _ h9 => h9) rfl hin rfl (by decide +kernel) rfl rfl (Nat.le_of_ble_eq_true rfl) dX10_init_68 (fun H locs hP hD hS => ?_)
  have hP : va_P D vwCl (([(a0, .inr (9, [.int x_1, .int x_2, .ref q_3, .ref q_5, .ref q_6, .ref q_7, .null, .null, .int 0]))]) ++ (([(q_3, .inl (cI, (((x_1 * x_2) : Int32).toNatClampNeg), .inl (fun _ => 0)))]) ++ (([(q_5, .inl (cI, 6, .inl (fun _ => 0)))]) ++ (([(q_6, .inl (cI, 6, .inl (fun _ => 0)))]) ++ (([(q_7, .inl (cI, 6, .inl (fun _ => 0)))])))))) H := hP
  have hD : va_D A (([(a0, .inr (9, [.int x_1, .int x_2, .ref q_3, .ref q_5, .ref q_6, .ref q_7, .null, .null, .int 0]))]) ++ (([(q_3, .inl (cI, (((x_1 * x_2) : Int32).toNatClampNeg), .inl (fun _ => 0)))]) ++ (([(q_5, .inl (cI, 6, .inl (fun _ => 0)))]) ++ (([(q_6, .inl (cI, 6, .inl (fun _ => 0)))]) ++ (([(q_7, .inl (cI, 6, .inl (fun _ => 0)))])))))) := hD
  refine lv_aload_n hx hb dX10_init_71 rfl (lv_at hl 0 rfl) ?_
  refine lv_bipush (v := 6) hx hb dX10_init_72 (by decide) ?_
  refine nw_I (N := 6) hx hb (htb _ tg_85) hK hP hD hS hA (by decide) (by decide) (by decide) (Nat.le_of_ble_eq_true rfl) (Nat.le_of_ble_eq_true rfl) dX10_init_74 (fun q_8 H hP hD hS => ?_)
  have hP : va_P D vwCl (([(a0, .inr (9, [.int x_1, .int x_2, .ref q_3, .ref q_5, .ref q_6, .ref q_7, .null, .null, .int 0]))]) ++ (([(q_3, .inl (cI, (((x_1 * x_2) : Int32).toNatClampNeg), .inl (fun _ => 0)))]) ++ (([(q_5, .inl (cI, 6, .inl (fun _ => 0)))]) ++ (([(q_6, .inl (cI, 6, .inl (fun _ => 0)))]) ++ (([(q_7, .inl (cI, 6, .inl (fun _ => 0)))]) ++ (([(q_8, .inl (cI, 6, .inl (fun _ => 0)))]))))))) H := hP
  have hD : va_D A (([(a0, .inr (9, [.int x_1, .int x_2, .ref q_3, .ref q_5, .ref q_6, .ref q_7, .null, .null, .int 0]))]) ++ (([(q_3, .inl (cI, (((x_1 * x_2) : Int32).toNatClampNeg), .inl (fun _ => 0)))]) ++ (([(q_5, .inl (cI, 6, .inl (fun _ => 0)))]) ++ (([(q_6, .inl (cI, 6, .inl (fun _ => 0)))]) ++ (([(q_7, .inl (cI, 6, .inl (fun _ => 0)))]) ++ (([(q_8, .inl (cI, 6, .inl (fun _ => 0)))]))))))) := hD
  refine W.widen (k := 5) (n := 600) (by omega) (by omega) ?_
  refine va_putF (ci := 9) (v := .ref q_8) (ty := .array .int) (C := RX10) (T := TX10) (N := 9) hx hb htb uX10 tyX10 tyX10_ok nmX10 hown hK.1 hP hD hS 0 rfl rfl 6 (by decide) (htb _ tg_58) (fun _ h9 => h9) rfl hin rfl (by decide +kernel) rfl rfl (Nat.le_of_ble_eq_true rfl) dX10_init_76 (fun H locs hP hD hS => ?_)
  have hP : va_P D vwCl (([(a0, .inr (9, [.int x_1, .int x_2, .ref q_3, .ref q_5, .ref q_6, .ref q_7, .ref q_8, .null, .int 0]))]) ++ (([(q_3, .inl (cI, (((x_1 * x_2) : Int32).toNatClampNeg), .inl (fun _ => 0)))]) ++ (([(q_5, .inl (cI, 6, .inl (fun _ => 0)))]) ++ (([(q_6, .inl (cI, 6, .inl (fun _ => 0)))]) ++ (([(q_7, .inl (cI, 6, .inl (fun _ => 0)))]) ++ (([(q_8, .inl (cI, 6, .inl (fun _ => 0)))]))))))) H := hP
  have hD : va_D A (([(a0, .inr (9, [.int x_1, .int x_2, .ref q_3, .ref q_5, .ref q_6, .ref q_7, .ref q_8, .null, .int 0]))]) ++ (([(q_3, .inl (cI, (((x_1 * x_2) : Int32).toNatClampNeg), .inl (fun _ => 0)))]) ++ (([(q_5, .inl (cI, 6, .inl (fun _ => 0)))]) ++ (([(q_6, .inl (cI, 6, .inl (fun _ => 0)))]) ++ (([(q_7, .inl (cI, 6, .inl (fun _ => 0)))]) ++ (([(q_8, .inl (cI, 6, .inl (fun _ => 0)))]))))))) := hD
  refine lv_aload_n hx hb dX10_init_79 rfl (lv_at hl 0 rfl) ?_
  refine lv_bipush (v := 6) hx hb dX10_init_80 (by decide) ?_
  refine nw_I (N := 6) hx hb (htb _ tg_85) hK hP hD hS hA (by decide) (by decide) (by decide) (Nat.le_of_ble_eq_true rfl) (Nat.le_of_ble_eq_true rfl) dX10_init_82 (fun q_9 H hP hD hS => ?_)
  have hP : va_P D vwCl (([(a0, .inr (9, [.int x_1, .int x_2, .ref q_3, .ref q_5, .ref q_6, .ref q_7, .ref q_8, .null, .int 0]))]) ++ (([(q_3, .inl (cI, (((x_1 * x_2) : Int32).toNatClampNeg), .inl (fun _ => 0)))]) ++ (([(q_5, .inl (cI, 6, .inl (fun _ => 0)))]) ++ (([(q_6, .inl (cI, 6, .inl (fun _ => 0)))]) ++ (([(q_7, .inl (cI, 6, .inl (fun _ => 0)))]) ++ (([(q_8, .inl (cI, 6, .inl (fun _ => 0)))]) ++ (([(q_9, .inl (cI, 6, .inl (fun _ => 0)))])))))))) H := hP
  have hD : va_D A (([(a0, .inr (9, [.int x_1, .int x_2, .ref q_3, .ref q_5, .ref q_6, .ref q_7, .ref q_8, .null, .int 0]))]) ++ (([(q_3, .inl (cI, (((x_1 * x_2) : Int32).toNatClampNeg), .inl (fun _ => 0)))]) ++ (([(q_5, .inl (cI, 6, .inl (fun _ => 0)))]) ++ (([(q_6, .inl (cI, 6, .inl (fun _ => 0)))]) ++ (([(q_7, .inl (cI, 6, .inl (fun _ => 0)))]) ++ (([(q_8, .inl (cI, 6, .inl (fun _ => 0)))]) ++ (([(q_9, .inl (cI, 6, .inl (fun _ => 0)))])))))))) := hD
  refine W.widen (k := 6) (n := 606) (by omega) (by omega) ?_
  refine va_putF (ci := 9) (v := .ref q_9) (ty := .array .int) (C := RX10) (T := TX10) (N := 9) hx hb htb uX10 tyX10 tyX10_ok nmX10 hown hK.1 hP hD hS 0 rfl rfl 7 (by decide) (htb _ tg_60) (fun _ h9 => h9) rfl hin rfl (by decide +kernel) rfl rfl (Nat.le_of_ble_eq_true rfl) dX10_init_84 (fun H locs hP hD hS => ?_)
  have hP : va_P D vwCl (([(a0, .inr (9, [.int x_1, .int x_2, .ref q_3, .ref q_5, .ref q_6, .ref q_7, .ref q_8, .ref q_9, .int 0]))]) ++ (([(q_3, .inl (cI, (((x_1 * x_2) : Int32).toNatClampNeg), .inl (fun _ => 0)))]) ++ (([(q_5, .inl (cI, 6, .inl (fun _ => 0)))]) ++ (([(q_6, .inl (cI, 6, .inl (fun _ => 0)))]) ++ (([(q_7, .inl (cI, 6, .inl (fun _ => 0)))]) ++ (([(q_8, .inl (cI, 6, .inl (fun _ => 0)))]) ++ (([(q_9, .inl (cI, 6, .inl (fun _ => 0)))])))))))) H := hP
  have hD : va_D A (([(a0, .inr (9, [.int x_1, .int x_2, .ref q_3, .ref q_5, .ref q_6, .ref q_7, .ref q_8, .ref q_9, .int 0]))]) ++ (([(q_3, .inl (cI, (((x_1 * x_2) : Int32).toNatClampNeg), .inl (fun _ => 0)))]) ++ (([(q_5, .inl (cI, 6, .inl (fun _ => 0)))]) ++ (([(q_6, .inl (cI, 6, .inl (fun _ => 0)))]) ++ (([(q_7, .inl (cI, 6, .inl (fun _ => 0)))]) ++ (([(q_8, .inl (cI, 6, .inl (fun _ => 0)))]) ++ (([(q_9, .inl (cI, 6, .inl (fun _ => 0)))])))))))) := hD
  have hg := Option.some.inj hg
  rw [hQ]
  refine W.widen (k := 6) (n := 606) (by omega) (by omega) ?_
  have hP : va_P D vwCl ((GX10 cI cJ cZ cY a0 ((fun k => match k with | 0 => q_3 | 1 => q_5 | 2 => q_6 | 3 => q_7 | 4 => q_8 | 5 => q_9 | _ => 0) 0) ((fun k => match k with | 0 => q_3 | 1 => q_5 | 2 => q_6 | 3 => q_7 | 4 => q_8 | 5 => q_9 | _ => 0) 1) ((fun k => match k with | 0 => q_3 | 1 => q_5 | 2 => q_6 | 3 => q_7 | 4 => q_8 | 5 => q_9 | _ => 0) 2) ((fun k => match k with | 0 => q_3 | 1 => q_5 | 2 => q_6 | 3 => q_7 | 4 => q_8 | 5 => q_9 | _ => 0) 3) ((fun k => match k with | 0 => q_3 | 1 => q_5 | 2 => q_6 | 3 => q_7 | 4 => q_8 | 5 => q_9 | _ => 0) 4) ((fun k => match k with | 0 => q_3 | 1 => q_5 | 2 => q_6 | 3 => q_7 | 4 => q_8 | 5 => q_9 | _ => 0) 5) res)) H := by rw [← hg]; exact hP.sub [0, 1, 2, 3, 4, 5, 6] rfl
  have hD : va_D A ((GX10 cI cJ cZ cY a0 ((fun k => match k with | 0 => q_3 | 1 => q_5 | 2 => q_6 | 3 => q_7 | 4 => q_8 | 5 => q_9 | _ => 0) 0) ((fun k => match k with | 0 => q_3 | 1 => q_5 | 2 => q_6 | 3 => q_7 | 4 => q_8 | 5 => q_9 | _ => 0) 1) ((fun k => match k with | 0 => q_3 | 1 => q_5 | 2 => q_6 | 3 => q_7 | 4 => q_8 | 5 => q_9 | _ => 0) 2) ((fun k => match k with | 0 => q_3 | 1 => q_5 | 2 => q_6 | 3 => q_7 | 4 => q_8 | 5 => q_9 | _ => 0) 3) ((fun k => match k with | 0 => q_3 | 1 => q_5 | 2 => q_6 | 3 => q_7 | 4 => q_8 | 5 => q_9 | _ => 0) 4) ((fun k => match k with | 0 => q_3 | 1 => q_5 | 2 => q_6 | 3 => q_7 | 4 => q_8 | 5 => q_9 | _ => 0) 5) res)) := by rw [← hg]; exact hD.sub [0, 1, 2, 3, 4, 5, 6] (by decide) rfl
  exact W.vret hx hb hr (fun t ht hW => ⟨⟨((fun k => match k with | 0 => q_3 | 1 => q_5 | 2 => q_6 | 3 => q_7 | 4 => q_8 | 5 => q_9 | _ => 0), res), rfl, rfl, by rw [ht]; exact hP, hD⟩, hS.F ht⟩) hS.2.2 dX10_init_87

