/-! the law's own reading of the script -/
def cellV (L : Nat) (xs : Nat → Int32) (k : Int32) : Int32 := if nI L ≤ k then 0 else xs k.toNatClampNeg
def PX (b L : Nat) (xs : Nat → Int32) (k : Int32) (sz : Nat) : Array Value → State → Prop := va_Pc [.ref b, .int k] (fun U => U.heap.size = sz ∧ va_X b L xs U U.heap ∧ b < sz)
theorem PX.blind {b L : Nat} {xs : Nat → Int32} {k : Int32} {sz : Nat} : FrameBlind (PX b L xs k sz) := by
  intro a U g mk q
  obtain ⟨q0, q1, q2, q3⟩ := q
  exact ⟨q0, q1, va_X.moved (u := U) (U := U.calling g mk a) (Vm.Alike.refl U.vm) q2, q3⟩
set_option maxHeartbeats 4000000 in
set_option maxRecDepth 100000 in
theorem kx_L_cell {l : Launch} {sz : Nat} (b L : Nat) (xs : Nat → Int32) (k : Int32) (hL : L ≤ 4610) (hk : ¬ k < 0) : Met l yL_cell (Cond.code yL_cell cL_cell 2 (some .int) :: TB) rm_L_cell (PX b L xs k sz) (va_Qi (fun (r : Int32) (_ : Unit) => r = cellV L xs k) (fun _ _ => True) (fun q => sz ≤ q)) 0 0 (fun q => sz ≤ q) := by
  refine Met.ofW (cc := cL_cell) (maxL := 2) (ret := (some .int)) (by decide) rfl ?_
  intro p e s m args below meth c s₁ B hml hv
  obtain ⟨hargs, hsz, hX, hbl⟩ := hv
  have hx := B.exec
  have hb := B.bytes
  have hr := B.returns
  have hlocks := B.notSynchronized
  subst hsz
  have hbA : ¬ (fun q : Nat => s.heap.size ≤ q) b := Nat.not_le.mpr hbl
  have hS : va_S (fun q : Nat => s.heap.size ≤ q) s.heap s.heap [] := va_S.rf
  have hl := lv_entry ([.ref b, .int k]) (n := 2) (Nat.le_of_ble_eq_true rfl)
  have he : entryFrame m args 2 = F0 m 0 (lg_sl ([.ref b, .int k]) ++ List.replicate (2 - (lg_sl ([.ref b, .int k])).length) Slot.unset).toArray [] := by rw [hargs, lg_entry_eq]
  rw [he]
  generalize (lg_sl ([.ref b, .int k]) ++ List.replicate (2 - (lg_sl ([.ref b, .int k])).length) Slot.unset).toArray = ls at hl ⊢
  have hl : lv_has ls 2 [(0, .ref b), (1, .int k)] := hl
  refine lv_iload_n hx hb dL_cell_0 rfl (lv_at hl 1 rfl) ?_
  refine lv_aload_n hx hb dL_cell_1 rfl (lv_at hl 0 rfl) ?_
  refine va_slen hx hb hX hbl hbA hS dL_cell_2 ?_
  refine lv_icmp_ge (tgt := 12) hx hb dL_cell_3 (by decide) (fun c_1 => ?_) (fun c_1 => ?_)
  · refine lv_iconst (v := 0) hx hb dL_cell_12 (by decide) ?_
    exact W.iret (v := 0) hx hb hr (fun t ht hW => ⟨⟨0, (), rfl, (if_pos c_1).symm, trivial⟩, hS.F ht⟩) hS.2.2 dL_cell_13
  · have hin : vp_in k L := by
      rcases pk_ix k (n := L) (by omega) with h | h | ⟨j, hj, e1⟩
      · exact absurd h hk
      · exact absurd h c_1
      · rw [e1]; exact vp_in_nI hj (by omega)
    refine lv_aload_n hx hb dL_cell_6 rfl (lv_at hl 0 rfl) ?_
    refine lv_iload_n hx hb dL_cell_7 rfl (lv_at hl 1 rfl) ?_
    refine va_sld hx hb hX hbl hbA hS hin dL_cell_8 ?_
    refine lv_goto (tgt := 13) hx hb dL_cell_9 (by decide) ?_
    exact W.iret (v := xs k.toNatClampNeg) hx hb hr (fun t ht hW => ⟨⟨_, (), rfl, (if_neg c_1).symm, trivial⟩, hS.F ht⟩) hS.2.2 dL_cell_13
theorem lw_X {b L : Nat} {xs : Nat → Int32} {s : State} {H : Heap} {locs : List Loc} (hX : va_X b L xs s s.heap) (hbl : b < s.heap.size) (hS : va_S (fun q : Nat => s.heap.size ≤ q) s.heap H locs) : va_X b L xs s H := by
  obtain ⟨scr, h1, h2, h3, h4, h5⟩ := hX
  exact ⟨scr, by rw [hS.2.1 b hbl (Nat.not_le.mpr hbl)]; exact h1, h2, h3, h4, h5⟩
theorem lw_P2 {D : va_G} {ws : va_W} {H H2 : Heap} (hP : va_P D vwCl ws H) (hk : ∀ q : Nat, q < H.size → ¬ (fun q : Nat => H.size ≤ q) q → H2[q]? = H[q]?) : va_P D vwCl ws H2 := fun k q h => (hP k q h).kept (hk q.1 (hP k q h).lt (Nat.not_le.mpr (hP k q h).lt))

/-! worlds in another order -/
theorem va_P.mems {D : va_G} {cl : List vw_C} {ws ws' : va_W} {H : Heap} (h : va_P D cl ws H) (hp : ws'.Perm ws) : va_P D cl ws' H := by
  intro k q hk
  obtain ⟨i, hi⟩ := List.mem_iff_getElem?.mp (hp.mem_iff.mp (List.mem_of_getElem? hk))
  exact h i q hi
theorem va_D.nd {A : Nat → Prop} {ws : va_W} (h : va_D A ws) : (ws.map (fun x => x.1)).Nodup := by
  unfold List.Nodup
  rw [List.pairwise_map, List.pairwise_iff_getElem]
  intro i j hi hj hij e
  have := h.1 i j ws[i] ws[j] (List.getElem?_eq_getElem hi) (List.getElem?_eq_getElem hj) e
  omega
theorem va_D.of {A : Nat → Prop} {ws : va_W} (h : (ws.map (fun x => x.1)).Nodup) (g : ∀ q ∈ ws, A q.1) : va_D A ws := by
  unfold List.Nodup at h
  rw [List.pairwise_map, List.pairwise_iff_getElem] at h
  refine ⟨fun i j x y hx hy e => ?_, fun k q hk => g q (List.mem_of_getElem? hk)⟩
  obtain ⟨hi, ei⟩ := List.getElem?_eq_some_iff.mp hx
  obtain ⟨hj, ej⟩ := List.getElem?_eq_some_iff.mp hy
  rcases Nat.lt_trichotomy i j with hl | hl | hl
  · exact absurd (by rw [ei, ej]; exact e) (h i j hi hj hl)
  · exact hl
  · exact absurd (by rw [ei, ej]; exact e.symm) (h j i hj hi hl)
theorem va_D.perm {A : Nat → Prop} {ws ws' : va_W} (h : va_D A ws) (hp : ws'.Perm ws) : va_D A ws' := by
  refine va_D.of ((hp.map (fun x => x.1)).nodup_iff.mpr h.nd) (fun q hq => ?_)
  obtain ⟨i, hi⟩ := List.mem_iff_getElem?.mp (hp.mem_iff.mp hq)
  exact h.2 i q hi
section CC0
variable {p : Program} {l : Launch} {e : Env} {R : Room} {s : State} {m : MethodId} {args : Array Value} {below : List Frame} {meth : Method} {c : Code} {H : Heap} {locs : List Loc} {cells slots mc ms : Nat} {Q : State → Prop} {pc : Nat} {ls : Array Slot} {st0 rest : List Value} {D : va_G} {A0 : Nat → Prop} {a : Array Value}
theorem cc_v0 {S : Type} {post : S → Prop} {wf : S → va_W} {x : Nat × va_E} (hr : va_Run p l e R s m args below meth c H locs cells slots mc ms (F0 m pc ls st0) rest (va_Qv post (BC D wf (va_A [x] H.size)) (va_A [x] H.size) a) (va_A [x] H.size)) (hP : va_P D vwCl [x] H) (hD : va_D A0 [x]) (hS : va_S A0 s.heap H locs) (hA : ∀ q, s.heap.size ≤ q → A0 q)
    (kk : ∀ (u : S) (H1 : Heap) (locs1 : List Loc), post u → va_P D vwCl (wf u) H1 → va_D A0 (wf u) → va_S A0 s.heap H1 locs1 → W p l e R s m args below meth c H1 locs1 (cells + mc) (slots + ms) Q (F0 m (pc + 3) ls rest)) : W p l e R s m args below meth c H locs cells slots Q (F0 m pc ls st0) :=
  cc_v hr hP hD hS hA [0] [] rfl rfl rfl (by decide) (fun u H1 locs1 hw hP hD hS => kk u H1 locs1 hw hP hD hS)
theorem cc_vW {S : Type} {post : S → Prop} {wf : S → va_W} {x : Nat × va_E} {W0 : va_W} (hr : va_Run p l e R s m args below meth c H locs cells slots mc ms (F0 m pc ls st0) rest (va_Qv post (BC D wf (va_A [x] H.size)) (va_A [x] H.size) a) (va_A [x] H.size)) (hP : va_P D vwCl ([x] ++ W0) H) (hD : va_D A0 ([x] ++ W0)) (hS : va_S A0 s.heap H locs) (hA : ∀ q, s.heap.size ≤ q → A0 q)
    (kk : ∀ (u : S) (H1 : Heap) (locs1 : List Loc), post u → va_P D vwCl (wf u ++ W0) H1 → va_D A0 (wf u ++ W0) → va_S A0 s.heap H1 locs1 → W p l e R s m args below meth c H1 locs1 (cells + mc) (slots + ms) Q (F0 m (pc + 3) ls rest)) : W p l e R s m args below meth c H locs cells slots Q (F0 m pc ls st0) :=
  cc_vQ hr hP hD hS hA [0] [] rfl rfl rfl (by decide) rfl (fun u H1 locs1 hw hP hD hS => kk u H1 locs1 hw hP hD hS)
end CC0
set_option maxHeartbeats 40000000 in
set_option maxRecDepth 100000 in
theorem ww2 {p : Program} {e : Env} {s : State} {m : MethodId} {below : List Frame} {meth : Method} {c : Code} (l : Launch) {b L : Nat} {xs : Nat → Int32} {D : va_G} {cI cJ cZ cY : ClassId} {tX tY : Nat} (hL : L ≤ 4610) (C0 : lw_At p s m meth c b L xs) (hK : KU D cI cJ cZ cY s) (hT : ST tX tY (fun q : Nat => s.heap.size ≤ q) s s.heap) {Q : State → Prop} {q_1 : Nat} {W0 : va_W} {H : Heap} {locs : List Loc} {ls : Array Slot} {zm : BX12} (hfm : f_X12_init (cellV L xs 0) (cellV L xs 1) = some zm) (hP : va_P D vwCl W0 H) (hD : va_D (fun q : Nat => s.heap.size ≤ q) W0) (hS : va_S (fun q : Nat => s.heap.size ≤ q) s.heap H locs) (hl : lv_has ls 4 [(1, .ref q_1), (0, .ref b)])
    (kk : ∀ (q_6 : Nat) (w : Nat → Nat) (H : Heap) (locs : List Loc) (ls : Array Slot), va_P D vwCl (GX12 cI cJ cZ cY q_6 (w 0) (w 1) (w 2) (w 3) (w 4) (w 5) (w 6) (w 7) (w 8) (w 9) (w 10) (w 11) (w 12) (w 13) zm ++ W0) H → va_D (fun q : Nat => s.heap.size ≤ q) (GX12 cI cJ cZ cY q_6 (w 0) (w 1) (w 2) (w 3) (w 4) (w 5) (w 6) (w 7) (w 8) (w 9) (w 10) (w 11) (w 12) (w 13) zm ++ W0) → va_S (fun q : Nat => s.heap.size ≤ q) s.heap H locs → lv_has ls 4 [(3, .int 2), (2, .ref q_6), (1, .ref q_1), (0, .ref b)] → W p l e room_1 s m #[Value.ref b] below meth c H locs 98 24741 Q (F0 m 38 ls [])) : W p l e room_1 s m #[Value.ref b] below meth c H locs 83 7822 Q (F0 m 18 ls []) := by
  obtain ⟨hx, hb, hr, hml, hown, hts, hX, hbl, hlocks, hgv⟩ := id C0
  have htb : ∀ w ∈ TB, w.before #[Value.ref b] s = true := fun w h => hts w (tb_tbl h)
  have hA : ∀ q : Nat, s.heap.size ≤ q → (fun q : Nat => s.heap.size ≤ q) q := fun _ h => h
  refine va_new (ci := 11) (fs := [.int 0, .int 0, .null, .null, .null, .null, .null, .null, .null, .null, .int 0, .int 0, .int 0, .int 0, .int 0, .int 0, .int 0, .long 0, .int 0, .int 0, .int 0, .int 0, .int 0, .null, .int 0, .int 0, .int 0, .long 0, .int 0, .int 0, .int 0, .int 0, .int 0, .int 0, .int 0, .null, .null, .null, .null, .int 0, .int 0, .int 0, .null]) (C := RX12) (T := TX12) (N := 43) hx hb htb uX12 tyX12 tyX12_ok hown (htb _ tg_927) (htb _ tg_928) (htb _ tg_13) hK.1 hP hD hS hA rfl (fun j hj => by match j, hj with | 0, _ => rfl | 1, _ => rfl | 2, _ => rfl | 3, _ => rfl | 4, _ => rfl | 5, _ => rfl | 6, _ => rfl | 7, _ => rfl | 8, _ => rfl | 9, _ => rfl | 10, _ => rfl | 11, _ => rfl | 12, _ => rfl | 13, _ => rfl | 14, _ => rfl | 15, _ => rfl | 16, _ => rfl | 17, _ => rfl | 18, _ => rfl | 19, _ => rfl | 20, _ => rfl | 21, _ => rfl | 22, _ => rfl | 23, _ => rfl | 24, _ => rfl | 25, _ => rfl | 26, _ => rfl | 27, _ => rfl | 28, _ => rfl | 29, _ => rfl | 30, _ => rfl | 31, _ => rfl | 32, _ => rfl | 33, _ => rfl | 34, _ => rfl | 35, _ => rfl | 36, _ => rfl | 37, _ => rfl | 38, _ => rfl | 39, _ => rfl | 40, _ => rfl | 41, _ => rfl | 42, _ => rfl | z + 43, h => exact absurd h (by omega)) (Nat.le_of_ble_eq_true rfl) (Nat.le_of_ble_eq_true rfl) dL_law_18 (fun q_6 H hP hD hS => ?_)
  have hP : va_P D vwCl ([(q_6, .inr (11, [.int 0, .int 0, .null, .null, .null, .null, .null, .null, .null, .null, .int 0, .int 0, .int 0, .int 0, .int 0, .int 0, .int 0, .long 0, .int 0, .int 0, .int 0, .int 0, .int 0, .null, .int 0, .int 0, .int 0, .long 0, .int 0, .int 0, .int 0, .int 0, .int 0, .int 0, .int 0, .null, .null, .null, .null, .int 0, .int 0, .int 0, .null]))] ++ W0) H := va_P.swap (a := []) (b := W0) (c := [(q_6, .inr (11, [.int 0, .int 0, .null, .null, .null, .null, .null, .null, .null, .null, .int 0, .int 0, .int 0, .int 0, .int 0, .int 0, .int 0, .long 0, .int 0, .int 0, .int 0, .int 0, .int 0, .null, .int 0, .int 0, .int 0, .long 0, .int 0, .int 0, .int 0, .int 0, .int 0, .int 0, .int 0, .null, .null, .null, .null, .int 0, .int 0, .int 0, .null]))]) hP
  have hD : va_D (fun q : Nat => s.heap.size ≤ q) ([(q_6, .inr (11, [.int 0, .int 0, .null, .null, .null, .null, .null, .null, .null, .null, .int 0, .int 0, .int 0, .int 0, .int 0, .int 0, .int 0, .long 0, .int 0, .int 0, .int 0, .int 0, .int 0, .null, .int 0, .int 0, .int 0, .long 0, .int 0, .int 0, .int 0, .int 0, .int 0, .int 0, .int 0, .null, .null, .null, .null, .int 0, .int 0, .int 0, .null]))] ++ W0) := va_D.swap (a := []) (b := W0) (c := [(q_6, .inr (11, [.int 0, .int 0, .null, .null, .null, .null, .null, .null, .null, .null, .int 0, .int 0, .int 0, .int 0, .int 0, .int 0, .int 0, .long 0, .int 0, .int 0, .int 0, .int 0, .int 0, .null, .int 0, .int 0, .int 0, .long 0, .int 0, .int 0, .int 0, .int 0, .int 0, .int 0, .int 0, .null, .null, .null, .null, .int 0, .int 0, .int 0, .null]))]) hD
  refine W.widen (k := 84) (n := 7865) (by omega) (by omega) ?_
  refine lv_dup hx hb dL_law_21 rfl ?_
  refine lv_aload_n hx hb dL_law_22 rfl (lv_at hl 1 rfl) ?_
  refine lv_iconst (v := 0) hx hb dL_law_23 (by decide) ?_
  have hh_7 : ∀ U : State, U.heap = H → s.WarmedH U.vm → PX b L xs 0 H.size ([.ref b, .int 0] : List Value).toArray U := fun U hU hW => ⟨rfl, by rw [hU], by rw [hU]; exact (lw_X hX hbl hS).moved hW.alike, Nat.lt_of_lt_of_le hbl hS.1⟩
  refine va_calli (va_runS (As := [.ref b, .int 0]) (rest := [.ref q_6, .ref q_6]) ⟨hx, hb, hml, hown, htb⟩ (kx_L_cell (sz := H.size) b L xs 0 hL (by decide)) (cw_S 2 htb tg_926 tg_0 tg_924 tg_925 rfl rfl (by decide +kernel) ⟨Nat.le_of_ble_eq_true rfl, Nat.le_of_ble_eq_true rfl⟩) ⟨PX.blind, hh_7⟩ rfl rfl hl.1 rfl (lv_room (Nat.le_of_ble_eq_true rfl)) dL_law_24 ⟨Nat.le_of_ble_eq_true rfl, Nat.le_of_ble_eq_true rfl⟩) hS (fun q h1 h2 => absurd h2 (by omega)) (fun q h => Nat.le_trans hS.1 h) (fun r9 u9 t9 H2 locs2 ht hvm hw hB hz1 hk1 hS2 => ?_)
  have hP : va_P D vwCl ([(q_6, .inr (11, [.int 0, .int 0, .null, .null, .null, .null, .null, .null, .null, .null, .int 0, .int 0, .int 0, .int 0, .int 0, .int 0, .int 0, .long 0, .int 0, .int 0, .int 0, .int 0, .int 0, .null, .int 0, .int 0, .int 0, .long 0, .int 0, .int 0, .int 0, .int 0, .int 0, .int 0, .int 0, .null, .null, .null, .null, .int 0, .int 0, .int 0, .null]))] ++ W0) H2 := lw_P2 hP hk1
  have hS := hS2
  clear hS2
  have hw : r9 = cellV L xs 0 := hw
  subst hw
  generalize H2 = H at hP hS ⊢
  generalize locs2 = locs at hS ⊢
  refine W.widen (k := 84) (n := 7865) (by omega) (by omega) ?_
  refine lv_aload_n hx hb dL_law_27 rfl (lv_at hl 1 rfl) ?_
  refine lv_iconst (v := 1) hx hb dL_law_28 (by decide) ?_
  have hh_8 : ∀ U : State, U.heap = H → s.WarmedH U.vm → PX b L xs 1 H.size ([.ref b, .int 1] : List Value).toArray U := fun U hU hW => ⟨rfl, by rw [hU], by rw [hU]; exact (lw_X hX hbl hS).moved hW.alike, Nat.lt_of_lt_of_le hbl hS.1⟩
  refine va_calli (va_runS (As := [.ref b, .int 1]) (rest := [.int (cellV L xs 0), .ref q_6, .ref q_6]) ⟨hx, hb, hml, hown, htb⟩ (kx_L_cell (sz := H.size) b L xs 1 hL (by decide)) (cw_S 2 htb tg_926 tg_0 tg_924 tg_925 rfl rfl (by decide +kernel) ⟨Nat.le_of_ble_eq_true rfl, Nat.le_of_ble_eq_true rfl⟩) ⟨PX.blind, hh_8⟩ rfl rfl hl.1 rfl (lv_room (Nat.le_of_ble_eq_true rfl)) dL_law_29 ⟨Nat.le_of_ble_eq_true rfl, Nat.le_of_ble_eq_true rfl⟩) hS (fun q h1 h2 => absurd h2 (by omega)) (fun q h => Nat.le_trans hS.1 h) (fun r9 u9 t9 H2 locs2 ht hvm hw hB hz1 hk1 hS2 => ?_)
  have hP : va_P D vwCl ([(q_6, .inr (11, [.int 0, .int 0, .null, .null, .null, .null, .null, .null, .null, .null, .int 0, .int 0, .int 0, .int 0, .int 0, .int 0, .int 0, .long 0, .int 0, .int 0, .int 0, .int 0, .int 0, .null, .int 0, .int 0, .int 0, .long 0, .int 0, .int 0, .int 0, .int 0, .int 0, .int 0, .int 0, .null, .null, .null, .null, .int 0, .int 0, .int 0, .null]))] ++ W0) H2 := lw_P2 hP hk1
  have hS := hS2
  clear hS2
  have hw : r9 = cellV L xs 1 := hw
  subst hw
  generalize H2 = H at hP hS ⊢
  generalize locs2 = locs at hS ⊢
  refine W.widen (k := 84) (n := 7865) (by omega) (by omega) ?_
  refine cc_vW (va_runI (As := [.int (cellV L xs 0), .int (cellV L xs 1)]) (rest := [.ref q_6]) ⟨hx, hb, hml, hown, htb⟩ (k_X12_init q_6 (cellV L xs 0) (cellV L xs 1) zm hfm) (⟨cw_B 2 htb tg_931 tg_13 tg_929 rfl rfl (by decide +kernel) ⟨Nat.le_of_ble_eq_true rfl, Nat.le_of_ble_eq_true rfl⟩, rfl, htb _ tg_930⟩) ⟨PC.blind, PC.pre hK hT hP hD hS hA [0] rfl rfl⟩ rfl rfl hl.1 rfl (lv_room (Nat.le_of_ble_eq_true rfl)) dL_law_32 ⟨Nat.le_of_ble_eq_true rfl, Nat.le_of_ble_eq_true rfl⟩) hP hD hS hA (fun u H locs hw hP hD hS => ?_)
  obtain ⟨w, z⟩ := u
  have hw : z = zm := hw
  subst hw
  refine W.widen (k := 98) (n := 24741) (by omega) (by omega) ?_
  refine lv_astore_n (lv' := [(2, .ref q_6), (1, .ref q_1), (0, .ref b)]) hx hb dL_law_35 rfl hl (by decide) rfl (fun ls hl => ?_)
  refine lv_iconst (v := 2) hx hb dL_law_36 (by decide) ?_
  refine lv_istore_n (lv' := [(3, .int 2), (2, .ref q_6), (1, .ref q_1), (0, .ref b)]) hx hb dL_law_37 rfl hl (by decide) rfl (fun ls hl => ?_)
  exact kk q_6 w H locs ls hP hD hS hl
