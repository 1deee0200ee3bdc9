-- a call that answers a reference, in a world without and with a pool behind it
section CR
variable {p : Program} {l : Launch} {e : Env} {R : Room} {s : State} {m : MethodId} {args : Array Value} {below : List Frame} {meth : Method} {c : Code} {H : Heap} {locs : List Loc} {cells slots mc ms : Nat} {Q : State → Prop} {pc : Nat} {ls : Array Slot} {st0 rest : List Value} {D : va_G} {A0 : Nat → Prop} {a : Array Value}
theorem cc_r {S : Type} {post : S → Prop} {wf : S → Nat → va_W} {ws cx : va_W} (hr : va_Run p l e R s m args below meth c H locs cells slots mc ms (F0 m pc ls st0) rest (va_Qr post (fun u a t => va_P D vwCl (wf u a) t.heap ∧ va_D (va_A cx H.size) (wf u a)) (va_A cx H.size) a) (va_A cx H.size)) (hP : va_P D vwCl ws H) (hD : va_D A0 ws) (hS : va_S A0 s.heap H locs) (hA : ∀ q, s.heap.size ≤ q → A0 q) (isC isR : List Nat) (hC : isC.map (fun i => ws[i]?) = cx.map some) (hR : isR.map (fun i => ws[i]?) = (lpick ws isR).map some) (hn : va_nd isR = true) (hdis : ∀ i ∈ isR, i ∉ isC)
    (kk : ∀ (u : S) (ra : Nat) (H1 : Heap) (locs1 : List Loc), post u → va_P D vwCl (lpick ws isR ++ wf u ra) H1 → va_D A0 (lpick ws isR ++ wf u ra) → va_S A0 s.heap H1 locs1 → W p l e R s m args below meth c H1 locs1 (cells + mc) (slots + ms) Q (F0 m (pc + 3) ls (.ref ra :: rest))) : W p l e R s m args below meth c H locs cells slots Q (F0 m pc ls st0) := by
  have hF := va_free (wc := cx) hD hS hA isC hC
  refine va_callr hr hS (fun q _ h => hF q h) hF (fun u ra t H1 locs1 ht hvm hw hB hz1 hk1 hS1 => ?_)
  obtain ⟨hP1, hD1⟩ := hB
  rw [ht] at hP1
  obtain ⟨hP2, hD2⟩ := va_join hP hD isC isR hC hR hn hdis hk1 hF hP1 hD1
  exact kk u ra H1 locs1 hw hP2 hD2 hS1
theorem cc_rQ {S : Type} {post : S → Prop} {wf : S → Nat → va_W} {X cx pl : va_W} (hr : va_Run p l e R s m args below meth c H locs cells slots mc ms (F0 m pc ls st0) rest (va_Qr post (fun u a t => va_P D vwCl (wf u a) t.heap ∧ va_D (va_A cx H.size) (wf u a)) (va_A cx H.size) a) (va_A cx H.size)) (hP : va_P D vwCl (X ++ pl) H) (hD : va_D A0 (X ++ pl)) (hS : va_S A0 s.heap H locs) (hA : ∀ q, s.heap.size ≤ q → A0 q) (isC isR : List Nat) (hC : isC.map (fun i => X[i]?) = cx.map some) (hR : isR.map (fun i => X[i]?) = (lpick X isR).map some) (hn : va_nd isR = true) (hdis : ∀ i ∈ isR, i ∉ isC) (hCw : isC.map (fun i => (X ++ pl)[i]?) = cx.map some)
    (kk : ∀ (u : S) (ra : Nat) (H1 : Heap) (locs1 : List Loc), post u → va_P D vwCl ((lpick X isR ++ wf u ra) ++ pl) H1 → va_D A0 ((lpick X isR ++ wf u ra) ++ pl) → va_S A0 s.heap H1 locs1 → W p l e R s m args below meth c H1 locs1 (cells + mc) (slots + ms) Q (F0 m (pc + 3) ls (.ref ra :: rest))) : W p l e R s m args below meth c H locs cells slots Q (F0 m pc ls st0) := by
  have hF := va_free (wc := cx) hD hS hA isC hCw
  refine va_callr hr hS (fun q _ h => hF q h) hF (fun u ra t H1 locs1 ht hvm hw hB hz1 hk1 hS1 => ?_)
  obtain ⟨hP1, hD1⟩ := hB
  rw [ht] at hP1
  obtain ⟨hP2, hD2⟩ := va_joinQ hP hD isC isR hC hR hn hdis hk1 hF hP1 hD1
  exact kk u ra H1 locs1 hw hP2 hD2 hS1
end CR
abbrev RW : Type := Nat × (Nat → Int32)
/-! Arrays.copyOf -/
def f_J7_copyOf (n0 : Nat) (v0 : Nat → Int32) (p1 : Int32) : Option RW :=
  if (p1 : Int32) = Int32.ofNat n0 then g_gd (n0 ≤ 300) (some (n0, v0))
  else g_gd (¬ p1 < 0 ∧ p1.toNatClampNeg ≤ 300) (g_gd ((¬ (0 : Int32) < 0 ∧ ¬ (0 : Int32) < 0 ∧ ¬ (if p1 < Int32.ofNat n0 then p1 else Int32.ofNat n0) < 0) ∧ (0 : Int32).toNatClampNeg + (if p1 < Int32.ofNat n0 then p1 else Int32.ofNat n0).toNatClampNeg ≤ n0 ∧ (0 : Int32).toNatClampNeg + (if p1 < Int32.ofNat n0 then p1 else Int32.ofNat n0).toNatClampNeg ≤ p1.toNatClampNeg)
    (some (p1.toNatClampNeg, va_cpy v0 (fun _ => 0) (0 : Int32).toNatClampNeg (0 : Int32).toNatClampNeg (if p1 < Int32.ofNat n0 then p1 else Int32.ofNat n0).toNatClampNeg)))
abbrev rm_J7_copyOf : Room := { frames := 1, cells := 1, slots := 300, locals := 64 }
set_option maxHeartbeats 4000000 in
set_option maxRecDepth 100000 in
theorem k_J7_copyOf {l : Launch} {D : va_G} {cI cJ cZ cY : ClassId} {tX tY sz : Nat} (a0 n0 : Nat) (v0 : Nat → Int32) (p1 : Int32) (res : RW) (hg : f_J7_copyOf n0 v0 p1 = some res) : Met l yJ7_copyOf_59c91 (Cond.code yJ7_copyOf_59c91 cJ7_copyOf_59c91 3 (some (.array .int)) :: TB) rm_J7_copyOf (PC D cI cJ cZ cY tX tY [.ref a0, .int p1] (GA cI a0 n0 v0) sz) (va_Qr (fun u : RW => u = res) (fun u a t => va_P D vwCl (GA cI a0 n0 v0 ++ [(a, .inl (cI, u.1, .inl u.2))]) t.heap ∧ va_D (va_A (GA cI a0 n0 v0) sz) (GA cI a0 n0 v0 ++ [(a, .inl (cI, u.1, .inl u.2))])) (va_A (GA cI a0 n0 v0) sz)) 1 300 (va_A (GA cI a0 n0 v0) sz) := by
  refine Met.ofW (cc := cJ7_copyOf_59c91) (maxL := 3) (ret := some (.array .int)) (by decide) rfl ?_
  intro p e s m args below meth c s₁ B hml hv
  obtain ⟨hargs, hsz, hP, hK, hD0, hT⟩ := hv
  have hx := B.exec
  have hb := B.bytes
  have hr := B.returns
  have htb : ∀ w ∈ TB, w.before args s = true := fun w h => atoms_spec (ws := Cond.code yJ7_copyOf_59c91 cJ7_copyOf_59c91 3 (some (.array .int)) :: TB) B.pre w (List.mem_cons_of_mem _ h)
  have hown : s.vm.findClass "java/util/Arrays" = some m.cls := findClass_of_methodNamed B.named
  have hlocks := B.notSynchronized
  have hnm : s.vm.findClass "[I" = some cI := (hK.1.2 0 _ rfl).2
  subst hsz
  have hD := hD0.self (sz := s.heap.size)
  generalize hAe : va_A (GA cI a0 n0 v0) s.heap.size = A at hD hT ⊢
  have hA : ∀ q : Nat, s.heap.size ≤ q → A q := fun q h => by rw [← hAe]; exact Or.inr h
  have hl := lv_entry ([.ref a0, .int p1]) (n := 3) (Nat.le_of_ble_eq_true rfl)
  have he : entryFrame m args 3 = F0 m 0 (lg_sl ([.ref a0, .int p1]) ++ List.replicate (3 - (lg_sl ([.ref a0, .int p1])).length) Slot.unset).toArray [] := by rw [hargs, lg_entry_eq]
  rw [he]
  generalize (lg_sl ([.ref a0, .int p1]) ++ List.replicate (3 - (lg_sl ([.ref a0, .int p1])).length) Slot.unset).toArray = ls at hl ⊢
  have hl : lv_has ls 3 [(0, .ref a0), (1, .int p1)] := hl
  show W p l e rm_J7_copyOf s m args below meth c s.heap [] 0 0 _ _
  refine W.genQ (fun Q hQ => ?_)
  generalize hHe : s.heap = H at hP ⊢
  have hS : va_S A s.heap H [] := by rw [← hHe]; exact va_S.rf
  generalize ([] : List Loc) = locs at hS ⊢
  unfold f_J7_copyOf at hg
  refine lv_iload_n hx hb dJ7_copyOf_59c91_0 rfl (lv_at hl 1 rfl) ?_
  refine lv_aload_n hx hb dJ7_copyOf_59c91_1 rfl (lv_at hl 0 rfl) ?_
  refine va_alen (v := Int32.ofNat n0) hx hb hK.1 hP 0 0 rfl rfl rfl dJ7_copyOf_59c91_2 ?_
  refine lv_icmp_ne (tgt := 14) hx hb dJ7_copyOf_59c91_3 (by decide) (fun c_1 => ?_) (fun c_1 => ?_)
  · have hg := g_if hg c_1
    obtain ⟨h_1, hg⟩ := g_gde hg
    obtain ⟨h_2, hg⟩ := g_gde hg
    have h_3 := h_1.2
    refine lv_iload_n hx hb dJ7_copyOf_59c91_14 rfl (lv_at hl 1 rfl) ?_
    refine nw_I hx hb (htb _ tg_85) hK hP hD hS hA h_1.1 rfl (by omega) (Nat.le_of_ble_eq_true rfl) (by show 0 + _ ≤ 300; omega) dJ7_copyOf_59c91_15 (fun q H hP hD hS => ?_)
    refine W.widen (k := 1) (n := 300) (by omega) (by omega) ?_
    refine lv_astore_n (lv' := [(2, .ref q), (0, .ref a0), (1, .int p1)]) hx hb dJ7_copyOf_59c91_17 rfl hl (by decide) rfl (fun ls hl => ?_)
    refine lv_aload_n hx hb dJ7_copyOf_59c91_18 rfl (lv_at hl 1 rfl) ?_
    refine lv_iconst (v := 0) hx hb dJ7_copyOf_59c91_19 (by decide) ?_
    refine lv_aload_n hx hb dJ7_copyOf_59c91_20 rfl (lv_at hl 0 rfl) ?_
    refine lv_iconst (v := 0) hx hb dJ7_copyOf_59c91_21 (by decide) ?_
    refine lv_aload_n hx hb dJ7_copyOf_59c91_22 rfl (lv_at hl 1 rfl) ?_
    refine va_alen (v := Int32.ofNat n0) hx hb hK.1 hP 0 0 rfl rfl rfl dJ7_copyOf_59c91_23 ?_
    refine lv_iload_n hx hb dJ7_copyOf_59c91_24 rfl (lv_at hl 2 rfl) ?_
    refine va_mmin hx hb (hml.trans hl.1.symm) hown (htb _ tg_723) (htb _ tg_38) (htb _ tg_4) (htb _ tg_39) (Nat.le_of_ble_eq_true rfl) (Nat.le_of_ble_eq_true rfl) (Nat.le_of_ble_eq_true rfl) (Nat.le_of_ble_eq_true rfl) dJ7_copyOf_59c91_25 ?_
    refine va_copyi hx hb (hml.trans hl.1.symm) hown (htb _ tg_724) (htb _ tg_506) (htb _ tg_505) (htb _ tg_14) hK.1 hP hD hS 0 1 0 0 rfl rfl rfl rfl rfl h_2.1.1 h_2.1.2.1 h_2.1.2.2 h_2.2.1 h_2.2.2 (fun _ _ => rfl) (Nat.le_of_ble_eq_true rfl) (Nat.le_of_ble_eq_true rfl) dJ7_copyOf_59c91_28 (fun H locs hP hD hS => ?_)
    refine lv_aload_n hx hb dJ7_copyOf_59c91_31 rfl (lv_at hl 0 rfl) ?_
    have hg := Option.some.inj hg
    rw [hQ]
    exact W.aret (rt := .array .int) hx hb hr (Or.inr ⟨_, rfl⟩) (Or.inr ⟨_, rfl⟩) (fun t ht hW => ⟨⟨_, q, rfl, hg, by rw [ht]; exact hP, hD⟩, hS.F ht⟩) hS.2.2 dJ7_copyOf_59c91_32
  · have hg := g_it hg c_1
    obtain ⟨h_1, hg⟩ := g_gde hg
    refine lv_aload_n hx hb dJ7_copyOf_59c91_6 rfl (lv_at hl 0 rfl) ?_
    refine va_clone (ad := "[I") (x := (n0, .inl v0)) hx hb (hml.trans hl.1.symm) hown (htb _ tg_716) (htb _ tg_717) (htb _ tg_718) (htb _ tg_719) (htb _ tg_720) (hK.2.1 _ nw_721) hK.1 hP hD hS hA 0 0 rfl rfl hnm (fun i v hv => ?_) (Nat.le_of_ble_eq_true rfl) (Nat.le_of_ble_eq_true rfl) (Nat.le_of_ble_eq_true rfl) (by show 0 + n0 ≤ 300; omega) dJ7_copyOf_59c91_7 (fun q H hK2 hP hD hS => ?_)
    · have hv : (arrV cI n0 (fun j => .int (v0 j))).slots[i]? = some v := hv
      have hi : i < n0 := by
        have h5 := (Array.getElem?_eq_some_iff.mp hv).1
        rw [arrV_size] at h5
        exact h5
      rw [arrV_read _ _ hi] at hv
      cases hv
      rfl
    · refine W.widen (k := 1) (n := 300) (by show 0 + 1 ≤ 1; omega) (by show 0 + n0 ≤ 300; omega) ?_
      refine va_castA hx hb hown (htb _ tg_722) hP 1 rfl hnm dJ7_copyOf_59c91_10 ?_
      have hg := Option.some.inj hg
      rw [hQ]
      exact W.aret (rt := .array .int) hx hb hr (Or.inr ⟨_, rfl⟩) (Or.inr ⟨_, rfl⟩) (fun t ht hW => ⟨⟨_, q, rfl, hg, by rw [ht]; exact hP, hD⟩, hS.F ht⟩) hS.2.2 dJ7_copyOf_59c91_13
/-! Parser.copyCode -/
def f_X4_copyCode (v0 : BX4) : Option RW := f_J7_copyOf 300 (pX4_code v0) (pX4_size v0)
abbrev rm_X4_copyCode : Room := { frames := 2, cells := 1, slots := 300, locals := 90 }
set_option maxHeartbeats 4000000 in
set_option maxRecDepth 100000 in
theorem k_X4_copyCode {l : Launch} {D : va_G} {cI cJ cZ cY : ClassId} {tX tY sz : Nat} (a0 a0_code r0_tokens : Nat) (v0 : BX4) (res : RW) (hg : f_X4_copyCode v0 = some res) : Met l yX4_copyCode (Cond.code yX4_copyCode cX4_copyCode 1 (some (.array .int)) :: TB) rm_X4_copyCode (PC D cI cJ cZ cY tX tY [.ref a0] (GX4 cI cJ cZ cY a0 a0_code r0_tokens v0) sz) (va_Qr (fun u : RW => u = res) (fun u a t => va_P D vwCl (GX4 cI cJ cZ cY a0 a0_code r0_tokens v0 ++ [(a, .inl (cI, u.1, .inl u.2))]) t.heap ∧ va_D (va_A (GX4 cI cJ cZ cY a0 a0_code r0_tokens v0) sz) (GX4 cI cJ cZ cY a0 a0_code r0_tokens v0 ++ [(a, .inl (cI, u.1, .inl u.2))])) (va_A (GX4 cI cJ cZ cY a0 a0_code r0_tokens v0) sz)) 1 300 (va_A (GX4 cI cJ cZ cY a0 a0_code r0_tokens v0) sz) := by
  refine Met.ofW (cc := cX4_copyCode) (maxL := 1) (ret := some (.array .int)) (by decide) rfl ?_
  intro p e s m args below meth c s₁ B hml hv
  obtain ⟨hargs, hsz, hP, hK, hD0, hT⟩ := hv
  have hx := B.exec
  have hb := B.bytes
  have hr := B.returns
  have htb : ∀ w ∈ TB, w.before args s = true := fun w h => atoms_spec (ws := Cond.code yX4_copyCode cX4_copyCode 1 (some (.array .int)) :: TB) B.pre w (List.mem_cons_of_mem _ h)
  have hown : s.vm.findClass "ManyEyes$Parser" = some m.cls := findClass_of_methodNamed B.named
  have hlocks := B.notSynchronized
  subst hsz
  have hD := hD0.self (sz := s.heap.size)
  generalize hAe : va_A (GX4 cI cJ cZ cY a0 a0_code r0_tokens v0) s.heap.size = A at hD hT ⊢
  have hA : ∀ q : Nat, s.heap.size ≤ q → A q := fun q h => by rw [← hAe]; exact Or.inr h
  have hl := lv_entry ([.ref a0]) (n := 1) (Nat.le_of_ble_eq_true rfl)
  have he : entryFrame m args 1 = F0 m 0 (lg_sl ([.ref a0]) ++ List.replicate (1 - (lg_sl ([.ref a0])).length) Slot.unset).toArray [] := by rw [hargs, lg_entry_eq]
  rw [he]
  generalize (lg_sl ([.ref a0]) ++ List.replicate (1 - (lg_sl ([.ref a0])).length) Slot.unset).toArray = ls at hl ⊢
  have hl : lv_has ls 1 [(0, .ref a0)] := hl
  show W p l e rm_X4_copyCode s m args below meth c s.heap [] 0 0 _ _
  refine W.genQ (fun Q hQ => ?_)
  generalize hHe : s.heap = H at hP ⊢
  have hS : va_S A s.heap H [] := by rw [← hHe]; exact va_S.rf
  generalize ([] : List Loc) = locs at hS ⊢
  unfold f_X4_copyCode at hg
  refine lv_aload_n hx hb dX4_copyCode_0 rfl (lv_at hl 0 rfl) ?_
  refine va_get (ci := 3) (v := .ref a0_code) (C := RX4) (T := TX4) (N := 8) hx hb htb uX4 hown hK.1 hP 0 rfl rfl 1 (by decide) (htb _ tg_386) (fun _ h9 => h9) rfl dX4_copyCode_1 ?_
  refine lv_aload_n hx hb dX4_copyCode_4 rfl (lv_at hl 0 rfl) ?_
  refine va_get (ci := 3) (v := .int (pX4_size v0)) (C := RX4) (T := TX4) (N := 8) hx hb htb uX4 hown hK.1 hP 0 rfl rfl 2 (by decide) (htb _ tg_387) (fun _ h9 => h9) rfl dX4_copyCode_5 ?_
  refine cc_r (va_runS (As := [.ref a0_code, .int (pX4_size v0)]) (rest := []) ⟨hx, hb, hml, hown, htb⟩ (k_J7_copyOf a0_code 300 (pX4_code v0) (pX4_size v0) res hg) (cw_S 2 htb tg_715 tg_15 tg_713 tg_714 rfl rfl (by decide +kernel) ⟨Nat.le_of_ble_eq_true rfl, Nat.le_of_ble_eq_true rfl⟩) ⟨PC.blind, PC.pre hK hT hP hD hS hA [1] rfl (by decide)⟩ rfl rfl hl.1 rfl (lv_room (Nat.le_of_ble_eq_true rfl)) dX4_copyCode_8 ⟨Nat.le_of_ble_eq_true rfl, Nat.le_of_ble_eq_true rfl⟩) hP hD hS hA [1] [0] rfl rfl (by decide) (by decide) (fun u9 q H locs hw hP hD hS => ?_)
  rw [hQ]
  refine W.widen (k := 1) (n := 300) (by omega) (by omega) ?_
  exact W.aret (rt := .array .int) hx hb hr (Or.inr ⟨_, rfl⟩) (Or.inr ⟨_, rfl⟩) (fun t ht hW => ⟨⟨u9, q, rfl, hw, by rw [ht]; exact hP, hD⟩, hS.F ht⟩) hS.2.2 dX4_copyCode_11
def pbPut (b : PB) (q : Nat) (o : Option RW) : PB := match o with
  | none => b
  | some w => (b.1 ++ [q], va_up b.2.1 q w.1, va_up b.2.2 q w.2)
def cdPut (cd : Nat → Option Nat) (k : Int32) (q : Nat) (o : Option RW) : Nat → Option Nat := match o with
  | none => cd
  | some _ => va_up cd k.toNatClampNeg (some q)
theorem pl_put {X : va_W} {cI : ClassId} {b : PB} {q : Nat} {w : RW} (h : q ∉ b.1) : (X ++ PL cI b) ++ [(q, .inl (cI, w.1, .inl w.2))] = X ++ PL cI (pbPut b q (some w)) := by
  rw [List.append_assoc]
  congr 1
  unfold PL pbPut
  rw [va_pl_push h]
  refine va_pl_congr (fun a => ?_)
  by_cases e : a = q
  · simp [va_up, rowE, e]
  · simp [va_up, rowE, e]
theorem pl_notin {A : Nat → Prop} {X : va_W} {cI : ClassId} {b : PB} {q : Nat} {e : va_E} (hD : va_D A ((X ++ [(q, e)]) ++ PL cI b)) : q ∉ b.1 := by
  intro h
  obtain ⟨j, hj⟩ := List.getElem?_of_mem h
  have h1 : ((X ++ [(q, e)]) ++ PL cI b)[X.length]? = some (q, e) := by
    rw [app_at, if_pos (by simp), app_at, if_neg (by omega)]
    simp
  have h2 : ((X ++ [(q, e)]) ++ PL cI b)[X.length + 1 + j]? = some (q, rowE cI b q) := by
    rw [app_at, if_neg (by simp only [List.length_append, List.length_singleton]; omega)]
    unfold PL
    rw [pl_at]
    simp only [List.length_append, List.length_singleton, Nat.add_sub_cancel_left, hj]
    rfl
  have h3 := hD.1 _ _ _ _ h1 h2 rfl
  omega
/-! ManyEyes.rule()I -/
def WS_X11_rule (cI cJ cZ cY : ClassId) (a0 a0_tape a0_firstTakes r0_saved r0_sight r0_flyer a1 a1_codes r1_world r1_eye r1_reads r1_flight a2 a2_code a3 a3_kinds a3_starts a3_values : Nat) (v0 : BX11) (v1 : BX8) (v2 : BX4) (v3 : BX9) : va_W := (GX11 cI cJ cZ cY a0 a0_tape a0_firstTakes a1 r0_saved r0_sight r0_flyer a2 v0) ++ ((GX8 cI cJ cZ cY a1 a1_codes r1_world r1_eye r1_reads r1_flight v1) ++ ((GX4 cI cJ cZ cY a2 a2_code a3 v2) ++ ((GX9 cI cJ cZ cY a3 a3_kinds a3_starts a3_values v3))))
def f_X11_rule (v0 : BX11) (v1 : BX8) (v2 : BX4) (v3 : BX9) (v4 : PB) : Option (Int32 × BX11 × BX8 × BX4 × BX9 × Option RW) := if ((pX8_rules v1) : Int32) < 8 then ((f_X4_parse 300 (pX11_tape v0) v2 v3 (pX11_tapeSize v0)).bind (fun r_2 => g_lt (sX11_textRead v0 1) (fun v0_3 => g_lt (sX11_tapeSize v0_3 0) (fun v0_4 => if ((pX4_fault r_2.1) : Int32) = 0 then (g_lt ((pX8_rules v1) : Int32) (fun x1_6 => (f_X4_copyCode r_2.1).bind (fun w_7 => g_gd (inB x1_6 8) (g_lt ((x1_6 + 1) : Int32) (fun x_10 => g_lt (sX8_rules v1 x_10) (fun v1_11 => some (x1_6, v0_4, v1_11, r_2.1, r_2.2, some w_7))))))) else (some ((-1), v0_4, v1, r_2.1, r_2.2, none)))))) else (some ((-1), v0, v1, v2, v3, none))
abbrev rm_X11_rule : Room := { frames := 65, cells := 1, slots := 300, locals := 2518 }
set_option maxHeartbeats 4000000 in
set_option maxRecDepth 100000 in
theorem k_X11_rule {l : Launch} {D : va_G} {cI cJ cZ cY : ClassId} {tX tY sz : Nat} (a0 a0_tape a0_firstTakes r0_saved r0_sight r0_flyer a1 a1_codes r1_world r1_eye r1_reads r1_flight a2 a2_code a3 a3_kinds a3_starts a3_values : Nat) (v0 : BX11) (v1 : BX8) (v2 : BX4) (v3 : BX9) (v4 : PB) (res : Int32 × BX11 × BX8 × BX4 × BX9 × Option RW) (hg : f_X11_rule v0 v1 v2 v3 v4 = some res) : Met l yX11_rule (Cond.code yX11_rule cX11_rule 2 (some .int) :: TB) rm_X11_rule (PC D cI cJ cZ cY tX tY [.ref a0] (WS_X11_rule cI cJ cZ cY a0 a0_tape a0_firstTakes r0_saved r0_sight r0_flyer a1 a1_codes r1_world r1_eye r1_reads r1_flight a2 a2_code a3 a3_kinds a3_starts a3_values v0 v1 v2 v3 ++ PL cI v4) sz) (va_Qi (fun (r : Int32) (q : Nat) => r = res.1 ∧ (res.2.2.2.2.2 ≠ none → q ∉ v4.1)) (BC D (fun q : Nat => WS_X11_rule cI cJ cZ cY a0 a0_tape a0_firstTakes r0_saved r0_sight r0_flyer a1 a1_codes r1_world r1_eye r1_reads r1_flight a2 a2_code a3 a3_kinds a3_starts a3_values res.2.1 (sX8_codes res.2.2.1 (cdPut (pX8_codes res.2.2.1) res.1 q res.2.2.2.2.2)) res.2.2.2.1 res.2.2.2.2.1 ++ PL cI (pbPut v4 q res.2.2.2.2.2)) (va_A (WS_X11_rule cI cJ cZ cY a0 a0_tape a0_firstTakes r0_saved r0_sight r0_flyer a1 a1_codes r1_world r1_eye r1_reads r1_flight a2 a2_code a3 a3_kinds a3_starts a3_values v0 v1 v2 v3 ++ PL cI v4) sz)) (va_A (WS_X11_rule cI cJ cZ cY a0 a0_tape a0_firstTakes r0_saved r0_sight r0_flyer a1 a1_codes r1_world r1_eye r1_reads r1_flight a2 a2_code a3 a3_kinds a3_starts a3_values v0 v1 v2 v3 ++ PL cI v4) sz)) 1 300 (va_A (WS_X11_rule cI cJ cZ cY a0 a0_tape a0_firstTakes r0_saved r0_sight r0_flyer a1 a1_codes r1_world r1_eye r1_reads r1_flight a2 a2_code a3 a3_kinds a3_starts a3_values v0 v1 v2 v3 ++ PL cI v4) sz) := by
  refine Met.ofW (cc := cX11_rule) (maxL := 2) (ret := (some .int)) (by decide) rfl ?_
  intro p e s m args below meth c s₁ B hml hv
  obtain ⟨hargs, hsz, hP, hK, hD0, hT⟩ := hv
  have hx := B.exec
  have hb := B.bytes
  have hr := B.returns
  have htb : ∀ w ∈ TB, w.before args s = true := fun w h => atoms_spec (ws := Cond.code yX11_rule cX11_rule 2 (some .int) :: TB) B.pre w (List.mem_cons_of_mem _ h)
  have hown : s.vm.findClass "ManyEyes" = some m.cls := findClass_of_methodNamed B.named
  have hlocks := B.notSynchronized
  subst hsz
  have hD := hD0.self (sz := s.heap.size)
  generalize hAe : va_A (WS_X11_rule cI cJ cZ cY a0 a0_tape a0_firstTakes r0_saved r0_sight r0_flyer a1 a1_codes r1_world r1_eye r1_reads r1_flight a2 a2_code a3 a3_kinds a3_starts a3_values v0 v1 v2 v3 ++ PL cI v4) s.heap.size = A at hD hT ⊢
  have hA : ∀ q : Nat, s.heap.size ≤ q → A q := fun q h => by rw [← hAe]; exact Or.inr h
  have hl := lv_entry ([.ref a0]) (n := 2) (Nat.le_of_ble_eq_true rfl)
  have he : entryFrame m args 2 = F0 m 0 (lg_sl ([.ref a0]) ++ List.replicate (2 - (lg_sl ([.ref a0])).length) Slot.unset).toArray [] := by rw [hargs, lg_entry_eq]
  rw [he]
  generalize (lg_sl ([.ref a0]) ++ List.replicate (2 - (lg_sl ([.ref a0])).length) Slot.unset).toArray = ls at hl ⊢
  have hl : lv_has ls 2 [(0, .ref a0)] := hl
  show W p l e rm_X11_rule s m args below meth c s.heap [] 0 0 _ _
  refine W.genQ (fun Q hQ => ?_)
  generalize hHe : s.heap = H at hP ⊢
  have hS : va_S A s.heap H [] := by rw [← hHe]; exact va_S.rf
  generalize ([] : List Loc) = locs at hS ⊢
  unfold f_X11_rule at hg
  refine lv_aload_n hx hb dX11_rule_0 rfl (lv_at hl 0 rfl) ?_
  refine va_get (ci := 10) (v := .ref a1) (C := RX11) (T := TX11) (N := 9) hx hb htb uX11 hown hK.1 hP 0 rfl rfl 0 (by decide) (htb _ tg_412) (fun _ h9 => h9) rfl dX11_rule_1 ?_
  refine va_get (ci := 7) (v := .int (pX8_rules v1)) (C := RX8) (T := TX8) (N := 6) hx hb htb uX8 hown hK.1 hP 3 rfl rfl 5 (by decide) (htb _ tg_248) (fun _ h9 => h9) rfl dX11_rule_4 ?_
  refine lv_bipush (v := 8) hx hb dX11_rule_7 (by decide) ?_
  refine lv_icmp_lt (tgt := 14) hx hb dX11_rule_9 (by decide) (fun c_1 => ?_) (fun c_1 => ?_)
  · have hg := g_it hg c_1
    refine lv_aload_n hx hb dX11_rule_14 rfl (lv_at hl 0 rfl) ?_
    refine va_get (ci := 10) (v := .ref a2) (C := RX11) (T := TX11) (N := 9) hx hb htb uX11 hown hK.1 hP 0 rfl rfl 4 (by decide) (htb _ tg_416) (fun _ h9 => h9) rfl dX11_rule_15 ?_
    refine lv_aload_n hx hb dX11_rule_18 rfl (lv_at hl 0 rfl) ?_
    refine va_get (ci := 10) (v := .ref a0_tape) (C := RX11) (T := TX11) (N := 9) hx hb htb uX11 hown hK.1 hP 0 rfl rfl 5 (by decide) (htb _ tg_417) (fun _ h9 => h9) rfl dX11_rule_19 ?_
    refine lv_aload_n hx hb dX11_rule_22 rfl (lv_at hl 0 rfl) ?_
    refine va_get (ci := 10) (v := .int (pX11_tapeSize v0)) (C := RX11) (T := TX11) (N := 9) hx hb htb uX11 hown hK.1 hP 0 rfl rfl 7 (by decide) (htb _ tg_419) (fun _ h9 => h9) rfl dX11_rule_23 ?_
    obtain ⟨r_2, hr_2, hg⟩ := g_bd hg
    refine cc_vQ (va_runV (C := RX4) (As := [.ref a0_tape, .int (pX11_tapeSize v0)]) (rest := []) ⟨hx, hb, hml, hown, htb⟩ (k_X4_parse a0_tape a2 a2_code a3 a3_kinds a3_starts a3_values 300 (pX11_tape v0) v2 v3 (pX11_tapeSize v0) r_2 hr_2) (cw_V 2 htb tg_611 tg_11 tg_608 tg_609 tg_610 rfl rfl (by decide +kernel) ⟨Nat.le_of_ble_eq_true rfl, Nat.le_of_ble_eq_true rfl⟩) ⟨PC.blind, va_recv hK.1 hP (ci := 3) (q0 := 5) rfl rfl, PC.pre hK hT hP hD hS hA [1, 5, 6, 7, 8, 9, 10] rfl (by decide)⟩ rfl rfl hl.1 rfl (lv_room (Nat.le_of_ble_eq_true rfl)) dX11_rule_26 ⟨Nat.le_of_ble_eq_true rfl, Nat.le_of_ble_eq_true rfl⟩) hP hD hS hA [1, 5, 6, 7, 8, 9, 10] [0, 2, 3, 4] rfl rfl (by decide) (by decide) rfl (fun u9 H locs hw hP hD hS => ?_)
    have hw := hw.symm
    subst hw
    have hP : va_P D vwCl (WS_X11_rule cI cJ cZ cY a0 a0_tape a0_firstTakes r0_saved r0_sight r0_flyer a1 a1_codes r1_world r1_eye r1_reads r1_flight a2 a2_code a3 a3_kinds a3_starts a3_values v0 v1 r_2.1 r_2.2 ++ PL cI v4) H := hP.by _ (va_part (cx := WS_X11_rule cI cJ cZ cY a0 a0_tape a0_firstTakes r0_saved r0_sight r0_flyer a1 a1_codes r1_world r1_eye r1_reads r1_flight a2 a2_code a3 a3_kinds a3_starts a3_values v0 v1 r_2.1 r_2.2) [0, 4, 1, 2, 3, 5, 6, 7, 8, 9, 10] rfl)
    have hD : va_D A (WS_X11_rule cI cJ cZ cY a0 a0_tape a0_firstTakes r0_saved r0_sight r0_flyer a1 a1_codes r1_world r1_eye r1_reads r1_flight a2 a2_code a3 a3_kinds a3_starts a3_values v0 v1 r_2.1 r_2.2 ++ PL cI v4) := hD.part (cx := WS_X11_rule cI cJ cZ cY a0 a0_tape a0_firstTakes r0_saved r0_sight r0_flyer a1 a1_codes r1_world r1_eye r1_reads r1_flight a2 a2_code a3 a3_kinds a3_starts a3_values v0 v1 r_2.1 r_2.2) [0, 4, 1, 2, 3, 5, 6, 7, 8, 9, 10] (by decide) rfl
    refine lv_aload_n hx hb dX11_rule_29 rfl (lv_at hl 0 rfl) ?_
    refine lv_iconst (v := 1) hx hb dX11_rule_30 (by decide) ?_
    refine va_put (ci := 10) (v := .int 1) (ty := .boolean) (C := RX11) (T := TX11) (N := 9) hx hb htb uX11 tyX11 tyX11_ok nmX11 hown hK.1 hP hD hS 0 rfl rfl 8 (by decide) (htb _ tg_420) (fun _ h9 => h9) rfl (by decide +kernel) rfl rfl (Nat.le_of_ble_eq_true rfl) dX11_rule_31 (fun H locs hP hD hS => ?_)
    obtain ⟨v0_3, ev0_3⟩ : ∃ z, z = sX11_textRead v0 1 := ⟨_, rfl⟩
    have hP : va_P D vwCl (WS_X11_rule cI cJ cZ cY a0 a0_tape a0_firstTakes r0_saved r0_sight r0_flyer a1 a1_codes r1_world r1_eye r1_reads r1_flight a2 a2_code a3 a3_kinds a3_starts a3_values v0_3 v1 r_2.1 r_2.2 ++ PL cI v4) H := by rw [ev0_3]; exact hP
    have hD : va_D A (WS_X11_rule cI cJ cZ cY a0 a0_tape a0_firstTakes r0_saved r0_sight r0_flyer a1 a1_codes r1_world r1_eye r1_reads r1_flight a2 a2_code a3 a3_kinds a3_starts a3_values v0_3 v1 r_2.1 r_2.2 ++ PL cI v4) := by rw [ev0_3]; exact hD
    have hg := g_lte hg v0_3 ev0_3
    refine lv_aload_n hx hb dX11_rule_34 rfl (lv_at hl 0 rfl) ?_
    refine lv_iconst (v := 0) hx hb dX11_rule_35 (by decide) ?_
    refine va_put (ci := 10) (v := .int 0) (ty := .int) (C := RX11) (T := TX11) (N := 9) hx hb htb uX11 tyX11 tyX11_ok nmX11 hown hK.1 hP hD hS 0 rfl rfl 7 (by decide) (htb _ tg_419) (fun _ h9 => h9) rfl (by decide +kernel) rfl rfl (Nat.le_of_ble_eq_true rfl) dX11_rule_36 (fun H locs hP hD hS => ?_)
    obtain ⟨v0_4, ev0_4⟩ : ∃ z, z = sX11_tapeSize v0_3 0 := ⟨_, rfl⟩
    have hP : va_P D vwCl (WS_X11_rule cI cJ cZ cY a0 a0_tape a0_firstTakes r0_saved r0_sight r0_flyer a1 a1_codes r1_world r1_eye r1_reads r1_flight a2 a2_code a3 a3_kinds a3_starts a3_values v0_4 v1 r_2.1 r_2.2 ++ PL cI v4) H := by rw [ev0_4]; exact hP
    have hD : va_D A (WS_X11_rule cI cJ cZ cY a0 a0_tape a0_firstTakes r0_saved r0_sight r0_flyer a1 a1_codes r1_world r1_eye r1_reads r1_flight a2 a2_code a3 a3_kinds a3_starts a3_values v0_4 v1 r_2.1 r_2.2 ++ PL cI v4) := by rw [ev0_4]; exact hD
    have hg := g_lte hg v0_4 ev0_4
    refine lv_aload_n hx hb dX11_rule_39 rfl (lv_at hl 0 rfl) ?_
    refine va_get (ci := 10) (v := .ref a2) (C := RX11) (T := TX11) (N := 9) hx hb htb uX11 hown hK.1 hP 0 rfl rfl 4 (by decide) (htb _ tg_416) (fun _ h9 => h9) rfl dX11_rule_40 ?_
    refine va_get (ci := 3) (v := .int (pX4_fault r_2.1)) (C := RX4) (T := TX4) (N := 8) hx hb htb uX4 hown hK.1 hP 5 rfl rfl 6 (by decide) (htb _ tg_392) (fun _ h9 => h9) rfl dX11_rule_43 ?_
    refine lv_if_eq (tgt := 51) hx hb dX11_rule_46 (by decide) (fun c_5 => ?_) (fun c_5 => ?_)
    · have hg := g_it hg c_5
      refine lv_aload_n hx hb dX11_rule_51 rfl (lv_at hl 0 rfl) ?_
      refine va_get (ci := 10) (v := .ref a1) (C := RX11) (T := TX11) (N := 9) hx hb htb uX11 hown hK.1 hP 0 rfl rfl 0 (by decide) (htb _ tg_412) (fun _ h9 => h9) rfl dX11_rule_52 ?_
      refine va_get (ci := 7) (v := .int (pX8_rules v1)) (C := RX8) (T := TX8) (N := 6) hx hb htb uX8 hown hK.1 hP 3 rfl rfl 5 (by decide) (htb _ tg_248) (fun _ h9 => h9) rfl dX11_rule_55 ?_
      refine lv_topi (fun x1_6 ex1_6 => ?_)
      have hg := g_lte hg x1_6 ex1_6
      refine lv_istore_n (lv' := [(1, .int x1_6), (0, .ref a0)]) hx hb dX11_rule_58 rfl hl (by decide) rfl (fun ls hl => ?_)
      refine lv_aload_n hx hb dX11_rule_59 rfl (lv_at hl 1 rfl) ?_
      refine va_get (ci := 10) (v := .ref a1) (C := RX11) (T := TX11) (N := 9) hx hb htb uX11 hown hK.1 hP 0 rfl rfl 0 (by decide) (htb _ tg_412) (fun _ h9 => h9) rfl dX11_rule_60 ?_
      refine va_get (ci := 7) (v := .ref a1_codes) (C := RX8) (T := TX8) (N := 6) hx hb htb uX8 hown hK.1 hP 3 rfl rfl 4 (by decide) (htb _ tg_245) (fun _ h9 => h9) rfl dX11_rule_63 ?_
      refine lv_iload_n hx hb dX11_rule_66 rfl (lv_at hl 0 rfl) ?_
      refine lv_aload_n hx hb dX11_rule_67 rfl (lv_at hl 1 rfl) ?_
      refine va_get (ci := 10) (v := .ref a2) (C := RX11) (T := TX11) (N := 9) hx hb htb uX11 hown hK.1 hP 0 rfl rfl 4 (by decide) (htb _ tg_416) (fun _ h9 => h9) rfl dX11_rule_68 ?_
      obtain ⟨w_7, hw_7, hg⟩ := g_bd hg
      refine cc_rQ (va_runV (C := RX4) (As := []) (rest := [.int x1_6, .ref a1_codes]) ⟨hx, hb, hml, hown, htb⟩ (k_X4_copyCode a2 a2_code a3 r_2.1 w_7 hw_7) (cw_V 0 htb tg_712 tg_11 tg_709 tg_710 tg_711 rfl rfl (by decide +kernel) ⟨Nat.le_of_ble_eq_true rfl, Nat.le_of_ble_eq_true rfl⟩) ⟨PC.blind, va_recv hK.1 hP (ci := 3) (q0 := 5) rfl rfl, PC.pre hK hT hP hD hS hA [5, 6] rfl (by decide)⟩ rfl rfl hl.1 rfl (lv_room (Nat.le_of_ble_eq_true rfl)) dX11_rule_71 ⟨Nat.le_of_ble_eq_true rfl, Nat.le_of_ble_eq_true rfl⟩) hP hD hS hA [5, 6] [0, 1, 2, 3, 4, 7, 8, 9, 10] rfl rfl (by decide) (by decide) rfl (fun u9 q_8 H locs hw hP hD hS => ?_)
      rw [hw] at hP hD
      have hP : va_P D vwCl (((WS_X11_rule cI cJ cZ cY a0 a0_tape a0_firstTakes r0_saved r0_sight r0_flyer a1 a1_codes r1_world r1_eye r1_reads r1_flight a2 a2_code a3 a3_kinds a3_starts a3_values v0_4 v1 r_2.1 r_2.2) ++ [(q_8, .inl (cI, w_7.1, .inl w_7.2))]) ++ PL cI v4) H := hP.by _ (va_part (cx := (WS_X11_rule cI cJ cZ cY a0 a0_tape a0_firstTakes r0_saved r0_sight r0_flyer a1 a1_codes r1_world r1_eye r1_reads r1_flight a2 a2_code a3 a3_kinds a3_starts a3_values v0_4 v1 r_2.1 r_2.2) ++ [(q_8, .inl (cI, w_7.1, .inl w_7.2))]) [0, 1, 2, 3, 4, 9, 10, 5, 6, 7, 8, 11] rfl)
      have hD : va_D A (((WS_X11_rule cI cJ cZ cY a0 a0_tape a0_firstTakes r0_saved r0_sight r0_flyer a1 a1_codes r1_world r1_eye r1_reads r1_flight a2 a2_code a3 a3_kinds a3_starts a3_values v0_4 v1 r_2.1 r_2.2) ++ [(q_8, .inl (cI, w_7.1, .inl w_7.2))]) ++ PL cI v4) := hD.part (cx := (WS_X11_rule cI cJ cZ cY a0 a0_tape a0_firstTakes r0_saved r0_sight r0_flyer a1 a1_codes r1_world r1_eye r1_reads r1_flight a2 a2_code a3 a3_kinds a3_starts a3_values v0_4 v1 r_2.1 r_2.2) ++ [(q_8, .inl (cI, w_7.1, .inl w_7.2))]) [0, 1, 2, 3, 4, 9, 10, 5, 6, 7, 8, 11] (by decide) rfl
      have nq_8 := pl_notin hD
      have hP := va_P.swap hP
      have hD := va_D.swap hD
      rw [pl_put nq_8] at hP hD
      have mq_8 : q_8 ∈ (pbPut v4 q_8 (some w_7)).1 := List.mem_append_right _ List.mem_cons_self
      refine W.widen (k := 1) (n := 300) (by omega) (by omega) ?_
      obtain ⟨h_9, hg⟩ := g_gde hg
      refine va_astA hx hb hK hP hD hS 4 rfl (row_at hP mq_8) rfl rfl (inB_vp h_9) dX11_rule_74 (fun H locs hP hD hS => ?_)
      have hP : va_P D vwCl (WS_X11_rule cI cJ cZ cY a0 a0_tape a0_firstTakes r0_saved r0_sight r0_flyer a1 a1_codes r1_world r1_eye r1_reads r1_flight a2 a2_code a3 a3_kinds a3_starts a3_values v0_4 (sX8_codes v1 (cdPut (pX8_codes v1) x1_6 q_8 (some w_7))) r_2.1 r_2.2 ++ PL cI (pbPut v4 q_8 (some w_7))) H := hP
      have hD : va_D A (WS_X11_rule cI cJ cZ cY a0 a0_tape a0_firstTakes r0_saved r0_sight r0_flyer a1 a1_codes r1_world r1_eye r1_reads r1_flight a2 a2_code a3 a3_kinds a3_starts a3_values v0_4 (sX8_codes v1 (cdPut (pX8_codes v1) x1_6 q_8 (some w_7))) r_2.1 r_2.2 ++ PL cI (pbPut v4 q_8 (some w_7))) := hD
      refine lv_aload_n hx hb dX11_rule_75 rfl (lv_at hl 1 rfl) ?_
      refine va_get (ci := 10) (v := .ref a1) (C := RX11) (T := TX11) (N := 9) hx hb htb uX11 hown hK.1 hP 0 rfl rfl 0 (by decide) (htb _ tg_412) (fun _ h9 => h9) rfl dX11_rule_76 ?_
      refine lv_iload_n hx hb dX11_rule_79 rfl (lv_at hl 0 rfl) ?_
      refine lv_iconst (v := 1) hx hb dX11_rule_80 (by decide) ?_
      refine lv_iadd hx hb dX11_rule_81 ?_
      refine lv_topi (fun x_10 ex_10 => ?_)
      have hg := g_lte hg x_10 ex_10
      refine va_put (ci := 7) (v := .int x_10) (ty := .int) (C := RX8) (T := TX8) (N := 6) hx hb htb uX8 tyX8 tyX8_ok nmX8 hown hK.1 hP hD hS 3 rfl rfl 5 (by decide) (htb _ tg_248) (fun _ h9 => h9) rfl (by decide +kernel) rfl rfl (Nat.le_of_ble_eq_true rfl) dX11_rule_82 (fun H locs hP hD hS => ?_)
      obtain ⟨v1_11, ev1_11⟩ : ∃ z, z = sX8_rules v1 x_10 := ⟨_, rfl⟩
      have hP : va_P D vwCl (WS_X11_rule cI cJ cZ cY a0 a0_tape a0_firstTakes r0_saved r0_sight r0_flyer a1 a1_codes r1_world r1_eye r1_reads r1_flight a2 a2_code a3 a3_kinds a3_starts a3_values v0_4 (sX8_codes v1_11 (cdPut (pX8_codes v1) x1_6 q_8 (some w_7))) r_2.1 r_2.2 ++ PL cI (pbPut v4 q_8 (some w_7))) H := by rw [ev1_11]; exact hP
      have hD : va_D A (WS_X11_rule cI cJ cZ cY a0 a0_tape a0_firstTakes r0_saved r0_sight r0_flyer a1 a1_codes r1_world r1_eye r1_reads r1_flight a2 a2_code a3 a3_kinds a3_starts a3_values v0_4 (sX8_codes v1_11 (cdPut (pX8_codes v1) x1_6 q_8 (some w_7))) r_2.1 r_2.2 ++ PL cI (pbPut v4 q_8 (some w_7))) := by rw [ev1_11]; exact hD
      have hg := g_lte hg v1_11 ev1_11
      refine lv_iload_n hx hb dX11_rule_85 rfl (lv_at hl 0 rfl) ?_
      have hg := Option.some.inj hg
      rw [hQ]
      refine W.widen (k := 1) (n := 300) (by omega) (by omega) ?_
      have ecd : pX8_codes v1_11 = (pX8_codes v1) := by rw [ev1_11]
      rw [← ecd] at hP hD
      exact W.iret (v := x1_6) hx hb hr (fun t ht hW => ⟨⟨x1_6, q_8, rfl, ⟨by rw [← hg], fun _ => nq_8⟩, by rw [ht, ← hg]; exact hP, by rw [← hg]; exact hD⟩, hS.F ht⟩) hS.2.2 dX11_rule_86
    · have hg := g_if hg c_5
      refine lv_iconst (v := (-1)) hx hb dX11_rule_49 (by decide) ?_
      have hg := Option.some.inj hg
      rw [hQ]
      refine W.widen (k := 1) (n := 300) (by omega) (by omega) ?_
      exact W.iret (v := (-1)) hx hb hr (fun t ht hW => ⟨⟨(-1), 0, rfl, ⟨by rw [← hg], fun h => absurd (by rw [← hg]) h⟩, by rw [ht, ← hg]; exact hP, by rw [← hg]; exact hD⟩, hS.F ht⟩) hS.2.2 dX11_rule_50
  · have hg := g_if hg c_1
    refine lv_iconst (v := (-1)) hx hb dX11_rule_12 (by decide) ?_
    have hg := Option.some.inj hg
    rw [hQ]
    refine W.widen (k := 1) (n := 300) (by omega) (by omega) ?_
    exact W.iret (v := (-1)) hx hb hr (fun t ht hW => ⟨⟨(-1), 0, rfl, ⟨by rw [← hg], fun h => absurd (by rw [← hg]) h⟩, by rw [ht, ← hg]; exact hP, by rw [← hg]; exact hD⟩, hS.F ht⟩) hS.2.2 dX11_rule_13
