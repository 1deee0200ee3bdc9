set_option maxHeartbeats 8000000 in
set_option maxRecDepth 100000 in
theorem lc_covered {p : Program} {l : Launch} {e : Env} {s : State} {m : MethodId} {below : List Frame} {meth : Method} {c : Code} {D : va_G} {cI cJ cZ cY : ClassId} {tX tY : Nat} {b L : Nat} {xs : Nat → Int32} (hL : L ≤ 4610) (C0 : lw_At p s m meth c b L xs) (hK : KU D cI cJ cZ cY s) (hT : ST tX tY (fun q : Nat => s.heap.size ≤ q) s s.heap) (q : Nat → Nat) (Rel : RelT) (o_covered : Op_covered Rel) {i k : Nat} (hiL : i + 9 ≤ L) (hk1 : k + 1 ≤ 512)
    (hnext : ∀ (v0 : BX11) (v1 : BX3) (v2 : BX8) (v3 : BX4) (v4 : BX8) (v5 : BX7) (v6 : BX6) (v7 : BX2) (v8 : BX1) (v9 : BX2) (v10 : BX5) (v11 : BX10) (v12 : BX9) (v13 : BX1) (v14 : BX2) (v15 : BX5) (v16 : BX10) (v17 : BX12) (v18 : PB) (H : Heap) (locs : List Loc) (ls : Array Slot) (cs ss : Nat), cs ≤ 120 + (k + 1) → ss ≤ 25000 + 300 * (k + 1) → Rel v0 v1 v2 v3 v4 v5 v6 v7 v8 v9 v10 v11 v12 v13 v14 v15 v16 v17 v18 → va_P D vwCl (WSL cI cJ cZ cY q v0 v1 v2 v3 v4 v5 v6 v7 v8 v9 v10 v11 v12 v13 v14 v15 v16 v17 ++ PL cI v18) H → va_D (fun q : Nat => s.heap.size ≤ q) (WSL cI cJ cZ cY q v0 v1 v2 v3 v4 v5 v6 v7 v8 v9 v10 v11 v12 v13 v14 v15 v16 v17 ++ PL cI v18) → va_S (fun q : Nat => s.heap.size ≤ q) s.heap H locs → lv_has ls 4 [(0, .ref b), (1, .ref (q 0)), (2, .ref (q 67)), (3, .int (nI i))] → W p l e room_1 s m #[Value.ref b] below meth c H locs cs ss (lw_Z below #[Value.ref b] s) (F0 m 1282 ls []))
    (v0 : BX11) (v1 : BX3) (v2 : BX8) (v3 : BX4) (v4 : BX8) (v5 : BX7) (v6 : BX6) (v7 : BX2) (v8 : BX1) (v9 : BX2) (v10 : BX5) (v11 : BX10) (v12 : BX9) (v13 : BX1) (v14 : BX2) (v15 : BX5) (v16 : BX10) (v17 : BX12) (v18 : PB) (H : Heap) (locs : List Loc) (ls : Array Slot) (hR : Rel v0 v1 v2 v3 v4 v5 v6 v7 v8 v9 v10 v11 v12 v13 v14 v15 v16 v17 v18) (hP : va_P D vwCl (WSL cI cJ cZ cY q v0 v1 v2 v3 v4 v5 v6 v7 v8 v9 v10 v11 v12 v13 v14 v15 v16 v17 ++ PL cI v18) H) (hD : va_D (fun q : Nat => s.heap.size ≤ q) (WSL cI cJ cZ cY q v0 v1 v2 v3 v4 v5 v6 v7 v8 v9 v10 v11 v12 v13 v14 v15 v16 v17 ++ PL cI v18)) (hS : va_S (fun q : Nat => s.heap.size ≤ q) s.heap H locs) (hl : lv_has ls 4 [(0, .ref b), (1, .ref (q 0)), (2, .ref (q 67)), (3, .int (nI i))]) : W p l e room_1 s m #[Value.ref b] below meth c H locs (120 + k) (25000 + 300 * k) (lw_Z below #[Value.ref b] s) (F0 m 509 ls []) := by
  obtain ⟨hx, hb, hr, hml, hown, hts, hX, hbl, hlocks, hgv⟩ := C0
  have htb : ∀ w ∈ TB, w.before #[Value.ref b] s = true := fun w h => hts w (tb_tbl h)
  have hA : ∀ q : Nat, s.heap.size ≤ q → (fun q : Nat => s.heap.size ≤ q) q := fun _ h => h
  have hbA : ¬ (fun q : Nat => s.heap.size ≤ q) b := Nat.not_le.mpr hbl
  refine lv_aload_n hx hb dL_law_509 rfl (lv_at hl 1 rfl) ?_
  refine lv_aload_n hx hb dL_law_510 rfl (lv_at hl 0 rfl) ?_
  refine lv_iload_n hx hb dL_law_511 rfl (lv_at hl 3 rfl) ?_
  refine lv_iconst (v := 1) hx hb dL_law_512 (by decide) ?_
  refine lv_iadd hx hb dL_law_513 ?_
  refine va_sld hx hb hX hbl hbA hS (scr_in (j := 1) (by omega) hL rfl) dL_law_514 ?_
  obtain ⟨r, hfx, hfm, hR2⟩ := o_covered v0 v1 v2 v3 v4 v5 v6 v7 v8 v9 v10 v11 v12 v13 v14 v15 v16 v17 v18 hR (xs (nI i + 1).toNatClampNeg)
  refine cc_iQ (va_runV (C := RX11) (As := [.int (xs (nI i + 1).toNatClampNeg)]) (rest := []) ⟨hx, hb, hml, hown, htb⟩ (k_X11_covered (q 0) (q 1) (q 2) (q 8) (q 10) (q 3) (q 6) (q 4) (q 5) (q 34) (q 28) (q 25) (q 19) (q 20) (q 21) (q 22) (q 23) (q 24) v0 v2 v8 (xs (nI i + 1).toNatClampNeg) r hfx) (cw_V 1 htb tg_541 tg_1 tg_538 tg_539 tg_540 rfl rfl (by decide +kernel) ⟨Nat.le_of_ble_eq_true rfl, Nat.le_of_ble_eq_true rfl⟩) ⟨PC.blind, va_recv hK.1 hP (ci := 10) (q0 := 0) rfl rfl, PC.pre hK hT hP hD hS hA [0, 4, 5, 19, 20, 21, 22, 23, 24] rfl (by decide)⟩ rfl rfl hl.1 rfl (lv_room (Nat.le_of_ble_eq_true rfl)) dL_law_515 ⟨by show _ ≤ 600000; omega, by show _ ≤ 7302250; omega⟩) hP hD hS hA [0, 4, 5, 19, 20, 21, 22, 23, 24] [1, 2, 3, 6, 7, 8, 9, 10, 11, 12, 13, 14, 15, 16, 17, 18, 25, 26, 27, 28, 29, 30, 31, 32, 33, 34, 35, 36, 37, 38, 39, 40, 41, 42, 43, 44, 45, 46, 47, 48, 49, 50, 51, 52, 53, 54, 55, 56, 57, 58, 59, 60, 61, 62, 63, 64, 65, 66, 67, 68, 69, 70, 71, 72, 73, 74, 75, 76, 77, 78, 79, 80, 81] rfl rfl (by decide) (by decide) rfl (fun r8 u8 H locs hw hP hD hS => ?_)
  have hw : r8 = r := hw
  subst hw
  have hP : va_P D vwCl (WSL cI cJ cZ cY q v0 v1 v2 v3 v4 v5 v6 v7 v8 v9 v10 v11 v12 v13 v14 v15 v16 v17 ++ PL cI v18) H := hP.by _ (va_part (cx := WSL cI cJ cZ cY q v0 v1 v2 v3 v4 v5 v6 v7 v8 v9 v10 v11 v12 v13 v14 v15 v16 v17) [73, 0, 1, 2, 74, 75, 3, 4, 5, 6, 7, 8, 9, 10, 11, 12, 13, 14, 15, 76, 77, 78, 79, 80, 81, 16, 17, 18, 19, 20, 21, 22, 23, 24, 25, 26, 27, 28, 29, 30, 31, 32, 33, 34, 35, 36, 37, 38, 39, 40, 41, 42, 43, 44, 45, 46, 47, 48, 49, 50, 51, 52, 53, 54, 55, 56, 57, 58, 59, 60, 61, 62, 63, 64, 65, 66, 67, 68, 69, 70, 71, 72] rfl)
  have hD : va_D (fun q : Nat => s.heap.size ≤ q) (WSL cI cJ cZ cY q v0 v1 v2 v3 v4 v5 v6 v7 v8 v9 v10 v11 v12 v13 v14 v15 v16 v17 ++ PL cI v18) := hD.part (cx := WSL cI cJ cZ cY q v0 v1 v2 v3 v4 v5 v6 v7 v8 v9 v10 v11 v12 v13 v14 v15 v16 v17) [73, 0, 1, 2, 74, 75, 3, 4, 5, 6, 7, 8, 9, 10, 11, 12, 13, 14, 15, 76, 77, 78, 79, 80, 81, 16, 17, 18, 19, 20, 21, 22, 23, 24, 25, 26, 27, 28, 29, 30, 31, 32, 33, 34, 35, 36, 37, 38, 39, 40, 41, 42, 43, 44, 45, 46, 47, 48, 49, 50, 51, 52, 53, 54, 55, 56, 57, 58, 59, 60, 61, 62, 63, 64, 65, 66, 67, 68, 69, 70, 71, 72] (by decide) rfl
  refine lv_aload_n hx hb dL_law_518 rfl (lv_at hl 2 rfl) ?_
  refine lv_aload_n hx hb dL_law_519 rfl (lv_at hl 0 rfl) ?_
  refine lv_iload_n hx hb dL_law_520 rfl (lv_at hl 3 rfl) ?_
  refine lv_iconst (v := 1) hx hb dL_law_521 (by decide) ?_
  refine lv_iadd hx hb dL_law_522 ?_
  refine va_sld hx hb hX hbl hbA hS (scr_in (j := 1) (by omega) hL rfl) dL_law_523 ?_
  refine cc_iQ (va_runV (C := RX12) (As := [.int (xs (nI i + 1).toNatClampNeg)]) (rest := [.int r8]) ⟨hx, hb, hml, hown, htb⟩ (k_X12_covered (q 67) (q 68) (q 69) (q 70) (q 71) (q 72) (q 73) (q 74) (q 75) (q 76) (q 77) (q 78) (q 79) (q 80) (q 81) v17 (xs (nI i + 1).toNatClampNeg) r8 hfm) (cw_V 1 htb tg_1160 tg_13 tg_1157 tg_1158 tg_1159 rfl rfl (by decide +kernel) ⟨Nat.le_of_ble_eq_true rfl, Nat.le_of_ble_eq_true rfl⟩) ⟨PC.blind, va_recv hK.1 hP (ci := 11) (q0 := 67) rfl rfl, PC.pre hK hT hP hD hS hA [67, 68, 69, 70, 71, 72, 73, 74, 75, 76, 77, 78, 79, 80, 81] rfl (by decide)⟩ rfl rfl hl.1 rfl (lv_room (Nat.le_of_ble_eq_true rfl)) dL_law_524 ⟨by show _ ≤ 600000; omega, by show _ ≤ 7302250; omega⟩) hP hD hS hA [67, 68, 69, 70, 71, 72, 73, 74, 75, 76, 77, 78, 79, 80, 81] [0, 1, 2, 3, 4, 5, 6, 7, 8, 9, 10, 11, 12, 13, 14, 15, 16, 17, 18, 19, 20, 21, 22, 23, 24, 25, 26, 27, 28, 29, 30, 31, 32, 33, 34, 35, 36, 37, 38, 39, 40, 41, 42, 43, 44, 45, 46, 47, 48, 49, 50, 51, 52, 53, 54, 55, 56, 57, 58, 59, 60, 61, 62, 63, 64, 65, 66] rfl rfl (by decide) (by decide) rfl (fun r9 u9 H locs hw hP hD hS => ?_)
  have hP : va_P D vwCl (WSL cI cJ cZ cY q v0 v1 v2 v3 v4 v5 v6 v7 v8 v9 v10 v11 v12 v13 v14 v15 v16 v17 ++ PL cI v18) H := hP.by _ (va_part (cx := WSL cI cJ cZ cY q v0 v1 v2 v3 v4 v5 v6 v7 v8 v9 v10 v11 v12 v13 v14 v15 v16 v17) [0, 1, 2, 3, 4, 5, 6, 7, 8, 9, 10, 11, 12, 13, 14, 15, 16, 17, 18, 19, 20, 21, 22, 23, 24, 25, 26, 27, 28, 29, 30, 31, 32, 33, 34, 35, 36, 37, 38, 39, 40, 41, 42, 43, 44, 45, 46, 47, 48, 49, 50, 51, 52, 53, 54, 55, 56, 57, 58, 59, 60, 61, 62, 63, 64, 65, 66, 67, 68, 69, 70, 71, 72, 73, 74, 75, 76, 77, 78, 79, 80, 81] rfl)
  have hD : va_D (fun q : Nat => s.heap.size ≤ q) (WSL cI cJ cZ cY q v0 v1 v2 v3 v4 v5 v6 v7 v8 v9 v10 v11 v12 v13 v14 v15 v16 v17 ++ PL cI v18) := hD.part (cx := WSL cI cJ cZ cY q v0 v1 v2 v3 v4 v5 v6 v7 v8 v9 v10 v11 v12 v13 v14 v15 v16 v17) [0, 1, 2, 3, 4, 5, 6, 7, 8, 9, 10, 11, 12, 13, 14, 15, 16, 17, 18, 19, 20, 21, 22, 23, 24, 25, 26, 27, 28, 29, 30, 31, 32, 33, 34, 35, 36, 37, 38, 39, 40, 41, 42, 43, 44, 45, 46, 47, 48, 49, 50, 51, 52, 53, 54, 55, 56, 57, 58, 59, 60, 61, 62, 63, 64, 65, 66, 67, 68, 69, 70, 71, 72, 73, 74, 75, 76, 77, 78, 79, 80, 81] (by decide) rfl
  refine lv_icmp_eq (tgt := 1282) hx hb dL_law_527 (by decide) (fun _ => ?_) (fun c_2 => absurd hw.symm c_2)
  exact hnext v0 v1 v2 v3 v4 v5 v6 v7 v8 v9 v10 v11 v12 v13 v14 v15 v16 v17 v18 H locs ls _ _ (by omega) (by omega) hR2 hP hD hS (lv_sub hl [0, 1, 2, 3] rfl)
set_option maxHeartbeats 8000000 in
set_option maxRecDepth 100000 in
theorem lc_ends {p : Program} {l : Launch} {e : Env} {s : State} {m : MethodId} {below : List Frame} {meth : Method} {c : Code} {D : va_G} {cI cJ cZ cY : ClassId} {tX tY : Nat} {b L : Nat} {xs : Nat → Int32} (hL : L ≤ 4610) (C0 : lw_At p s m meth c b L xs) (hK : KU D cI cJ cZ cY s) (hT : ST tX tY (fun q : Nat => s.heap.size ≤ q) s s.heap) (q : Nat → Nat) (Rel : RelT) (o_ends : Op_ends Rel) {i k : Nat} (hiL : i + 9 ≤ L) (hk1 : k + 1 ≤ 512)
    (hnext : ∀ (v0 : BX11) (v1 : BX3) (v2 : BX8) (v3 : BX4) (v4 : BX8) (v5 : BX7) (v6 : BX6) (v7 : BX2) (v8 : BX1) (v9 : BX2) (v10 : BX5) (v11 : BX10) (v12 : BX9) (v13 : BX1) (v14 : BX2) (v15 : BX5) (v16 : BX10) (v17 : BX12) (v18 : PB) (H : Heap) (locs : List Loc) (ls : Array Slot) (cs ss : Nat), cs ≤ 120 + (k + 1) → ss ≤ 25000 + 300 * (k + 1) → Rel v0 v1 v2 v3 v4 v5 v6 v7 v8 v9 v10 v11 v12 v13 v14 v15 v16 v17 v18 → va_P D vwCl (WSL cI cJ cZ cY q v0 v1 v2 v3 v4 v5 v6 v7 v8 v9 v10 v11 v12 v13 v14 v15 v16 v17 ++ PL cI v18) H → va_D (fun q : Nat => s.heap.size ≤ q) (WSL cI cJ cZ cY q v0 v1 v2 v3 v4 v5 v6 v7 v8 v9 v10 v11 v12 v13 v14 v15 v16 v17 ++ PL cI v18) → va_S (fun q : Nat => s.heap.size ≤ q) s.heap H locs → lv_has ls 4 [(0, .ref b), (1, .ref (q 0)), (2, .ref (q 67)), (3, .int (nI i))] → W p l e room_1 s m #[Value.ref b] below meth c H locs cs ss (lw_Z below #[Value.ref b] s) (F0 m 1282 ls []))
    (v0 : BX11) (v1 : BX3) (v2 : BX8) (v3 : BX4) (v4 : BX8) (v5 : BX7) (v6 : BX6) (v7 : BX2) (v8 : BX1) (v9 : BX2) (v10 : BX5) (v11 : BX10) (v12 : BX9) (v13 : BX1) (v14 : BX2) (v15 : BX5) (v16 : BX10) (v17 : BX12) (v18 : PB) (H : Heap) (locs : List Loc) (ls : Array Slot) (hR : Rel v0 v1 v2 v3 v4 v5 v6 v7 v8 v9 v10 v11 v12 v13 v14 v15 v16 v17 v18) (hP : va_P D vwCl (WSL cI cJ cZ cY q v0 v1 v2 v3 v4 v5 v6 v7 v8 v9 v10 v11 v12 v13 v14 v15 v16 v17 ++ PL cI v18) H) (hD : va_D (fun q : Nat => s.heap.size ≤ q) (WSL cI cJ cZ cY q v0 v1 v2 v3 v4 v5 v6 v7 v8 v9 v10 v11 v12 v13 v14 v15 v16 v17 ++ PL cI v18)) (hS : va_S (fun q : Nat => s.heap.size ≤ q) s.heap H locs) (hl : lv_has ls 4 [(0, .ref b), (1, .ref (q 0)), (2, .ref (q 67)), (3, .int (nI i))]) : W p l e room_1 s m #[Value.ref b] below meth c H locs (120 + k) (25000 + 300 * k) (lw_Z below #[Value.ref b] s) (F0 m 532 ls []) := by
  obtain ⟨hx, hb, hr, hml, hown, hts, hX, hbl, hlocks, hgv⟩ := C0
  have htb : ∀ w ∈ TB, w.before #[Value.ref b] s = true := fun w h => hts w (tb_tbl h)
  have hA : ∀ q : Nat, s.heap.size ≤ q → (fun q : Nat => s.heap.size ≤ q) q := fun _ h => h
  have hbA : ¬ (fun q : Nat => s.heap.size ≤ q) b := Nat.not_le.mpr hbl
  refine lv_aload_n hx hb dL_law_532 rfl (lv_at hl 1 rfl) ?_
  refine lv_aload_n hx hb dL_law_533 rfl (lv_at hl 0 rfl) ?_
  refine lv_iload_n hx hb dL_law_534 rfl (lv_at hl 3 rfl) ?_
  refine lv_iconst (v := 1) hx hb dL_law_535 (by decide) ?_
  refine lv_iadd hx hb dL_law_536 ?_
  refine va_sld hx hb hX hbl hbA hS (scr_in (j := 1) (by omega) hL rfl) dL_law_537 ?_
  refine lv_aload_n hx hb dL_law_538 rfl (lv_at hl 0 rfl) ?_
  refine lv_iload_n hx hb dL_law_539 rfl (lv_at hl 3 rfl) ?_
  refine lv_iconst (v := 2) hx hb dL_law_540 (by decide) ?_
  refine lv_iadd hx hb dL_law_541 ?_
  refine va_sld hx hb hX hbl hbA hS (scr_in (j := 2) (by omega) hL rfl) dL_law_542 ?_
  refine lv_aload_n hx hb dL_law_543 rfl (lv_at hl 0 rfl) ?_
  refine lv_iload_n hx hb dL_law_544 rfl (lv_at hl 3 rfl) ?_
  refine lv_iconst (v := 3) hx hb dL_law_545 (by decide) ?_
  refine lv_iadd hx hb dL_law_546 ?_
  refine va_sld hx hb hX hbl hbA hS (scr_in (j := 3) (by omega) hL rfl) dL_law_547 ?_
  refine lv_aload_n hx hb dL_law_548 rfl (lv_at hl 0 rfl) ?_
  refine lv_iload_n hx hb dL_law_549 rfl (lv_at hl 3 rfl) ?_
  refine lv_iconst (v := 4) hx hb dL_law_550 (by decide) ?_
  refine lv_iadd hx hb dL_law_551 ?_
  refine va_sld hx hb hX hbl hbA hS (scr_in (j := 4) (by omega) hL rfl) dL_law_552 ?_
  refine lv_aload_n hx hb dL_law_553 rfl (lv_at hl 0 rfl) ?_
  refine lv_iload_n hx hb dL_law_554 rfl (lv_at hl 3 rfl) ?_
  refine lv_iconst (v := 5) hx hb dL_law_555 (by decide) ?_
  refine lv_iadd hx hb dL_law_556 ?_
  refine va_sld hx hb hX hbl hbA hS (scr_in (j := 5) (by omega) hL rfl) dL_law_557 ?_
  refine lv_if_eq (tgt := 565) hx hb dL_law_558 (by decide) (fun cb558 => ?_) (fun cb558 => ?_)
  · refine lv_iconst (v := 0) hx hb dL_law_565 (by decide) ?_
    obtain ⟨r, x, y, hfx, hfm, hR2⟩ := o_ends v0 v1 v2 v3 v4 v5 v6 v7 v8 v9 v10 v11 v12 v13 v14 v15 v16 v17 v18 hR (xs (nI i + 1).toNatClampNeg) (xs (nI i + 2).toNatClampNeg) (xs (nI i + 3).toNatClampNeg) (xs (nI i + 4).toNatClampNeg) 0
    refine cc_iQ (va_runV (C := RX11) (As := [.int (xs (nI i + 1).toNatClampNeg), .int (xs (nI i + 2).toNatClampNeg), .int (xs (nI i + 3).toNatClampNeg), .int (xs (nI i + 4).toNatClampNeg), .int 0]) (rest := []) ⟨hx, hb, hml, hown, htb⟩ (k_X11_ends (q 0) (q 1) (q 2) (q 8) (q 3) (q 6) (q 4) (q 5) (q 28) (q 25) (q 10) (q 11) (q 12) (q 19) (q 20) (q 21) (q 22) (q 23) (q 24) (q 34) (q 35) (q 36) (q 37) (q 38) (q 39) (q 40) v0 v2 v5 v8 v11 (xs (nI i + 1).toNatClampNeg) (xs (nI i + 2).toNatClampNeg) (xs (nI i + 3).toNatClampNeg) (xs (nI i + 4).toNatClampNeg) 0 (r, x) hfx) (cw_V 5 htb tg_560 tg_1 tg_557 tg_558 tg_559 rfl rfl (by decide +kernel) ⟨Nat.le_of_ble_eq_true rfl, Nat.le_of_ble_eq_true rfl⟩) ⟨PC.blind, va_recv hK.1 hP (ci := 10) (q0 := 0) rfl rfl, PC.pre hK hT hP hD hS hA [0, 4, 5, 10, 11, 12, 19, 20, 21, 22, 23, 24, 34, 35, 36, 37, 38, 39, 40] rfl (by decide)⟩ rfl rfl hl.1 rfl (lv_room (Nat.le_of_ble_eq_true rfl)) dL_law_566 ⟨by show _ ≤ 600000; omega, by show _ ≤ 7302250; omega⟩) hP hD hS hA [0, 4, 5, 10, 11, 12, 19, 20, 21, 22, 23, 24, 34, 35, 36, 37, 38, 39, 40] [1, 2, 3, 6, 7, 8, 9, 13, 14, 15, 16, 17, 18, 25, 26, 27, 28, 29, 30, 31, 32, 33, 41, 42, 43, 44, 45, 46, 47, 48, 49, 50, 51, 52, 53, 54, 55, 56, 57, 58, 59, 60, 61, 62, 63, 64, 65, 66, 67, 68, 69, 70, 71, 72, 73, 74, 75, 76, 77, 78, 79, 80, 81] rfl rfl (by decide) (by decide) rfl (fun r8 u8 H locs hw hP hD hS => ?_)
    obtain ⟨hw, hw2⟩ := hw
    have hw : r8 = r := hw
    have hw2 : u8 = x := hw2
    subst hw
    subst hw2
    have hP : va_P D vwCl (WSL cI cJ cZ cY q v0 v1 v2 v3 v4 u8 v6 v7 v8 v9 v10 v11 v12 v13 v14 v15 v16 v17 ++ PL cI v18) H := hP.by _ (va_part (cx := WSL cI cJ cZ cY q v0 v1 v2 v3 v4 u8 v6 v7 v8 v9 v10 v11 v12 v13 v14 v15 v16 v17) [63, 0, 1, 2, 64, 65, 3, 4, 5, 6, 66, 67, 68, 7, 8, 9, 10, 11, 12, 69, 70, 71, 72, 73, 74, 13, 14, 15, 16, 17, 18, 19, 20, 21, 75, 76, 77, 78, 79, 80, 81, 22, 23, 24, 25, 26, 27, 28, 29, 30, 31, 32, 33, 34, 35, 36, 37, 38, 39, 40, 41, 42, 43, 44, 45, 46, 47, 48, 49, 50, 51, 52, 53, 54, 55, 56, 57, 58, 59, 60, 61, 62] rfl)
    have hD : va_D (fun q : Nat => s.heap.size ≤ q) (WSL cI cJ cZ cY q v0 v1 v2 v3 v4 u8 v6 v7 v8 v9 v10 v11 v12 v13 v14 v15 v16 v17 ++ PL cI v18) := hD.part (cx := WSL cI cJ cZ cY q v0 v1 v2 v3 v4 u8 v6 v7 v8 v9 v10 v11 v12 v13 v14 v15 v16 v17) [63, 0, 1, 2, 64, 65, 3, 4, 5, 6, 66, 67, 68, 7, 8, 9, 10, 11, 12, 69, 70, 71, 72, 73, 74, 13, 14, 15, 16, 17, 18, 19, 20, 21, 75, 76, 77, 78, 79, 80, 81, 22, 23, 24, 25, 26, 27, 28, 29, 30, 31, 32, 33, 34, 35, 36, 37, 38, 39, 40, 41, 42, 43, 44, 45, 46, 47, 48, 49, 50, 51, 52, 53, 54, 55, 56, 57, 58, 59, 60, 61, 62] (by decide) rfl
    refine lv_aload_n hx hb dL_law_569 rfl (lv_at hl 2 rfl) ?_
    refine lv_aload_n hx hb dL_law_570 rfl (lv_at hl 0 rfl) ?_
    refine lv_iload_n hx hb dL_law_571 rfl (lv_at hl 3 rfl) ?_
    refine lv_iconst (v := 1) hx hb dL_law_572 (by decide) ?_
    refine lv_iadd hx hb dL_law_573 ?_
    refine va_sld hx hb hX hbl hbA hS (scr_in (j := 1) (by omega) hL rfl) dL_law_574 ?_
    refine lv_aload_n hx hb dL_law_575 rfl (lv_at hl 0 rfl) ?_
    refine lv_iload_n hx hb dL_law_576 rfl (lv_at hl 3 rfl) ?_
    refine lv_iconst (v := 2) hx hb dL_law_577 (by decide) ?_
    refine lv_iadd hx hb dL_law_578 ?_
    refine va_sld hx hb hX hbl hbA hS (scr_in (j := 2) (by omega) hL rfl) dL_law_579 ?_
    refine lv_aload_n hx hb dL_law_580 rfl (lv_at hl 0 rfl) ?_
    refine lv_iload_n hx hb dL_law_581 rfl (lv_at hl 3 rfl) ?_
    refine lv_iconst (v := 3) hx hb dL_law_582 (by decide) ?_
    refine lv_iadd hx hb dL_law_583 ?_
    refine va_sld hx hb hX hbl hbA hS (scr_in (j := 3) (by omega) hL rfl) dL_law_584 ?_
    refine lv_aload_n hx hb dL_law_585 rfl (lv_at hl 0 rfl) ?_
    refine lv_iload_n hx hb dL_law_586 rfl (lv_at hl 3 rfl) ?_
    refine lv_iconst (v := 4) hx hb dL_law_587 (by decide) ?_
    refine lv_iadd hx hb dL_law_588 ?_
    refine va_sld hx hb hX hbl hbA hS (scr_in (j := 4) (by omega) hL rfl) dL_law_589 ?_
    refine lv_aload_n hx hb dL_law_590 rfl (lv_at hl 0 rfl) ?_
    refine lv_iload_n hx hb dL_law_591 rfl (lv_at hl 3 rfl) ?_
    refine lv_iconst (v := 5) hx hb dL_law_592 (by decide) ?_
    refine lv_iadd hx hb dL_law_593 ?_
    refine va_sld hx hb hX hbl hbA hS (scr_in (j := 5) (by omega) hL rfl) dL_law_594 ?_
    refine lv_if_eq (tgt := 602) hx hb dL_law_595 (by decide) (fun cb595 => ?_) (fun cb595 => ?_)
    · refine lv_iconst (v := 0) hx hb dL_law_602 (by decide) ?_
      refine cc_iQ (va_runV (C := RX12) (As := [.int (xs (nI i + 1).toNatClampNeg), .int (xs (nI i + 2).toNatClampNeg), .int (xs (nI i + 3).toNatClampNeg), .int (xs (nI i + 4).toNatClampNeg), .int 0]) (rest := [.int r8]) ⟨hx, hb, hml, hown, htb⟩ (k_X12_ends (q 67) (q 68) (q 69) (q 70) (q 71) (q 72) (q 73) (q 74) (q 75) (q 76) (q 77) (q 78) (q 79) (q 80) (q 81) v17 (xs (nI i + 1).toNatClampNeg) (xs (nI i + 2).toNatClampNeg) (xs (nI i + 3).toNatClampNeg) (xs (nI i + 4).toNatClampNeg) 0 (r8, y) hfm) (cw_V 5 htb tg_1172 tg_13 tg_1169 tg_1170 tg_1171 rfl rfl (by decide +kernel) ⟨Nat.le_of_ble_eq_true rfl, Nat.le_of_ble_eq_true rfl⟩) ⟨PC.blind, va_recv hK.1 hP (ci := 11) (q0 := 67) rfl rfl, PC.pre hK hT hP hD hS hA [67, 68, 69, 70, 71, 72, 73, 74, 75, 76, 77, 78, 79, 80, 81] rfl (by decide)⟩ rfl rfl hl.1 rfl (lv_room (Nat.le_of_ble_eq_true rfl)) dL_law_603 ⟨by show _ ≤ 600000; omega, by show _ ≤ 7302250; omega⟩) hP hD hS hA [67, 68, 69, 70, 71, 72, 73, 74, 75, 76, 77, 78, 79, 80, 81] [0, 1, 2, 3, 4, 5, 6, 7, 8, 9, 10, 11, 12, 13, 14, 15, 16, 17, 18, 19, 20, 21, 22, 23, 24, 25, 26, 27, 28, 29, 30, 31, 32, 33, 34, 35, 36, 37, 38, 39, 40, 41, 42, 43, 44, 45, 46, 47, 48, 49, 50, 51, 52, 53, 54, 55, 56, 57, 58, 59, 60, 61, 62, 63, 64, 65, 66] rfl rfl (by decide) (by decide) rfl (fun r9 u9 H locs hw hP hD hS => ?_)
      obtain ⟨hw, hw2⟩ := hw
      try dsimp only at hw hw2
      rw [hw2] at hP hD
      have hP : va_P D vwCl (WSL cI cJ cZ cY q v0 v1 v2 v3 v4 u8 v6 v7 v8 v9 v10 v11 v12 v13 v14 v15 v16 y ++ PL cI v18) H := hP.by _ (va_part (cx := WSL cI cJ cZ cY q v0 v1 v2 v3 v4 u8 v6 v7 v8 v9 v10 v11 v12 v13 v14 v15 v16 y) [0, 1, 2, 3, 4, 5, 6, 7, 8, 9, 10, 11, 12, 13, 14, 15, 16, 17, 18, 19, 20, 21, 22, 23, 24, 25, 26, 27, 28, 29, 30, 31, 32, 33, 34, 35, 36, 37, 38, 39, 40, 41, 42, 43, 44, 45, 46, 47, 48, 49, 50, 51, 52, 53, 54, 55, 56, 57, 58, 59, 60, 61, 62, 63, 64, 65, 66, 67, 68, 69, 70, 71, 72, 73, 74, 75, 76, 77, 78, 79, 80, 81] rfl)
      have hD : va_D (fun q : Nat => s.heap.size ≤ q) (WSL cI cJ cZ cY q v0 v1 v2 v3 v4 u8 v6 v7 v8 v9 v10 v11 v12 v13 v14 v15 v16 y ++ PL cI v18) := hD.part (cx := WSL cI cJ cZ cY q v0 v1 v2 v3 v4 u8 v6 v7 v8 v9 v10 v11 v12 v13 v14 v15 v16 y) [0, 1, 2, 3, 4, 5, 6, 7, 8, 9, 10, 11, 12, 13, 14, 15, 16, 17, 18, 19, 20, 21, 22, 23, 24, 25, 26, 27, 28, 29, 30, 31, 32, 33, 34, 35, 36, 37, 38, 39, 40, 41, 42, 43, 44, 45, 46, 47, 48, 49, 50, 51, 52, 53, 54, 55, 56, 57, 58, 59, 60, 61, 62, 63, 64, 65, 66, 67, 68, 69, 70, 71, 72, 73, 74, 75, 76, 77, 78, 79, 80, 81] (by decide) rfl
      refine lv_icmp_eq (tgt := 1282) hx hb dL_law_606 (by decide) (fun _ => ?_) (fun c_2 => absurd hw.symm c_2)
      exact hnext v0 v1 v2 v3 v4 u8 v6 v7 v8 v9 v10 v11 v12 v13 v14 v15 v16 y v18 H locs ls _ _ (by omega) (by omega) hR2 hP hD hS (lv_sub hl [0, 1, 2, 3] rfl)
    · refine lv_iconst (v := 1) hx hb dL_law_598 (by decide) ?_
      refine lv_goto (tgt := 603) hx hb dL_law_599 (by decide) ?_
      exact absurd cb558 cb595
  · refine lv_iconst (v := 1) hx hb dL_law_561 (by decide) ?_
    refine lv_goto (tgt := 566) hx hb dL_law_562 (by decide) ?_
    obtain ⟨r, x, y, hfx, hfm, hR2⟩ := o_ends v0 v1 v2 v3 v4 v5 v6 v7 v8 v9 v10 v11 v12 v13 v14 v15 v16 v17 v18 hR (xs (nI i + 1).toNatClampNeg) (xs (nI i + 2).toNatClampNeg) (xs (nI i + 3).toNatClampNeg) (xs (nI i + 4).toNatClampNeg) 1
    refine cc_iQ (va_runV (C := RX11) (As := [.int (xs (nI i + 1).toNatClampNeg), .int (xs (nI i + 2).toNatClampNeg), .int (xs (nI i + 3).toNatClampNeg), .int (xs (nI i + 4).toNatClampNeg), .int 1]) (rest := []) ⟨hx, hb, hml, hown, htb⟩ (k_X11_ends (q 0) (q 1) (q 2) (q 8) (q 3) (q 6) (q 4) (q 5) (q 28) (q 25) (q 10) (q 11) (q 12) (q 19) (q 20) (q 21) (q 22) (q 23) (q 24) (q 34) (q 35) (q 36) (q 37) (q 38) (q 39) (q 40) v0 v2 v5 v8 v11 (xs (nI i + 1).toNatClampNeg) (xs (nI i + 2).toNatClampNeg) (xs (nI i + 3).toNatClampNeg) (xs (nI i + 4).toNatClampNeg) 1 (r, x) hfx) (cw_V 5 htb tg_560 tg_1 tg_557 tg_558 tg_559 rfl rfl (by decide +kernel) ⟨Nat.le_of_ble_eq_true rfl, Nat.le_of_ble_eq_true rfl⟩) ⟨PC.blind, va_recv hK.1 hP (ci := 10) (q0 := 0) rfl rfl, PC.pre hK hT hP hD hS hA [0, 4, 5, 10, 11, 12, 19, 20, 21, 22, 23, 24, 34, 35, 36, 37, 38, 39, 40] rfl (by decide)⟩ rfl rfl hl.1 rfl (lv_room (Nat.le_of_ble_eq_true rfl)) dL_law_566 ⟨by show _ ≤ 600000; omega, by show _ ≤ 7302250; omega⟩) hP hD hS hA [0, 4, 5, 10, 11, 12, 19, 20, 21, 22, 23, 24, 34, 35, 36, 37, 38, 39, 40] [1, 2, 3, 6, 7, 8, 9, 13, 14, 15, 16, 17, 18, 25, 26, 27, 28, 29, 30, 31, 32, 33, 41, 42, 43, 44, 45, 46, 47, 48, 49, 50, 51, 52, 53, 54, 55, 56, 57, 58, 59, 60, 61, 62, 63, 64, 65, 66, 67, 68, 69, 70, 71, 72, 73, 74, 75, 76, 77, 78, 79, 80, 81] rfl rfl (by decide) (by decide) rfl (fun r8 u8 H locs hw hP hD hS => ?_)
    obtain ⟨hw, hw2⟩ := hw
    have hw : r8 = r := hw
    have hw2 : u8 = x := hw2
    subst hw
    subst hw2
    have hP : va_P D vwCl (WSL cI cJ cZ cY q v0 v1 v2 v3 v4 u8 v6 v7 v8 v9 v10 v11 v12 v13 v14 v15 v16 v17 ++ PL cI v18) H := hP.by _ (va_part (cx := WSL cI cJ cZ cY q v0 v1 v2 v3 v4 u8 v6 v7 v8 v9 v10 v11 v12 v13 v14 v15 v16 v17) [63, 0, 1, 2, 64, 65, 3, 4, 5, 6, 66, 67, 68, 7, 8, 9, 10, 11, 12, 69, 70, 71, 72, 73, 74, 13, 14, 15, 16, 17, 18, 19, 20, 21, 75, 76, 77, 78, 79, 80, 81, 22, 23, 24, 25, 26, 27, 28, 29, 30, 31, 32, 33, 34, 35, 36, 37, 38, 39, 40, 41, 42, 43, 44, 45, 46, 47, 48, 49, 50, 51, 52, 53, 54, 55, 56, 57, 58, 59, 60, 61, 62] rfl)
    have hD : va_D (fun q : Nat => s.heap.size ≤ q) (WSL cI cJ cZ cY q v0 v1 v2 v3 v4 u8 v6 v7 v8 v9 v10 v11 v12 v13 v14 v15 v16 v17 ++ PL cI v18) := hD.part (cx := WSL cI cJ cZ cY q v0 v1 v2 v3 v4 u8 v6 v7 v8 v9 v10 v11 v12 v13 v14 v15 v16 v17) [63, 0, 1, 2, 64, 65, 3, 4, 5, 6, 66, 67, 68, 7, 8, 9, 10, 11, 12, 69, 70, 71, 72, 73, 74, 13, 14, 15, 16, 17, 18, 19, 20, 21, 75, 76, 77, 78, 79, 80, 81, 22, 23, 24, 25, 26, 27, 28, 29, 30, 31, 32, 33, 34, 35, 36, 37, 38, 39, 40, 41, 42, 43, 44, 45, 46, 47, 48, 49, 50, 51, 52, 53, 54, 55, 56, 57, 58, 59, 60, 61, 62] (by decide) rfl
    refine lv_aload_n hx hb dL_law_569 rfl (lv_at hl 2 rfl) ?_
    refine lv_aload_n hx hb dL_law_570 rfl (lv_at hl 0 rfl) ?_
    refine lv_iload_n hx hb dL_law_571 rfl (lv_at hl 3 rfl) ?_
    refine lv_iconst (v := 1) hx hb dL_law_572 (by decide) ?_
    refine lv_iadd hx hb dL_law_573 ?_
    refine va_sld hx hb hX hbl hbA hS (scr_in (j := 1) (by omega) hL rfl) dL_law_574 ?_
    refine lv_aload_n hx hb dL_law_575 rfl (lv_at hl 0 rfl) ?_
    refine lv_iload_n hx hb dL_law_576 rfl (lv_at hl 3 rfl) ?_
    refine lv_iconst (v := 2) hx hb dL_law_577 (by decide) ?_
    refine lv_iadd hx hb dL_law_578 ?_
    refine va_sld hx hb hX hbl hbA hS (scr_in (j := 2) (by omega) hL rfl) dL_law_579 ?_
    refine lv_aload_n hx hb dL_law_580 rfl (lv_at hl 0 rfl) ?_
    refine lv_iload_n hx hb dL_law_581 rfl (lv_at hl 3 rfl) ?_
    refine lv_iconst (v := 3) hx hb dL_law_582 (by decide) ?_
    refine lv_iadd hx hb dL_law_583 ?_
    refine va_sld hx hb hX hbl hbA hS (scr_in (j := 3) (by omega) hL rfl) dL_law_584 ?_
    refine lv_aload_n hx hb dL_law_585 rfl (lv_at hl 0 rfl) ?_
    refine lv_iload_n hx hb dL_law_586 rfl (lv_at hl 3 rfl) ?_
    refine lv_iconst (v := 4) hx hb dL_law_587 (by decide) ?_
    refine lv_iadd hx hb dL_law_588 ?_
    refine va_sld hx hb hX hbl hbA hS (scr_in (j := 4) (by omega) hL rfl) dL_law_589 ?_
    refine lv_aload_n hx hb dL_law_590 rfl (lv_at hl 0 rfl) ?_
    refine lv_iload_n hx hb dL_law_591 rfl (lv_at hl 3 rfl) ?_
    refine lv_iconst (v := 5) hx hb dL_law_592 (by decide) ?_
    refine lv_iadd hx hb dL_law_593 ?_
    refine va_sld hx hb hX hbl hbA hS (scr_in (j := 5) (by omega) hL rfl) dL_law_594 ?_
    refine lv_if_eq (tgt := 602) hx hb dL_law_595 (by decide) (fun cb595 => ?_) (fun cb595 => ?_)
    · refine lv_iconst (v := 0) hx hb dL_law_602 (by decide) ?_
      exact absurd cb595 cb558
    · refine lv_iconst (v := 1) hx hb dL_law_598 (by decide) ?_
      refine lv_goto (tgt := 603) hx hb dL_law_599 (by decide) ?_
      refine cc_iQ (va_runV (C := RX12) (As := [.int (xs (nI i + 1).toNatClampNeg), .int (xs (nI i + 2).toNatClampNeg), .int (xs (nI i + 3).toNatClampNeg), .int (xs (nI i + 4).toNatClampNeg), .int 1]) (rest := [.int r8]) ⟨hx, hb, hml, hown, htb⟩ (k_X12_ends (q 67) (q 68) (q 69) (q 70) (q 71) (q 72) (q 73) (q 74) (q 75) (q 76) (q 77) (q 78) (q 79) (q 80) (q 81) v17 (xs (nI i + 1).toNatClampNeg) (xs (nI i + 2).toNatClampNeg) (xs (nI i + 3).toNatClampNeg) (xs (nI i + 4).toNatClampNeg) 1 (r8, y) hfm) (cw_V 5 htb tg_1172 tg_13 tg_1169 tg_1170 tg_1171 rfl rfl (by decide +kernel) ⟨Nat.le_of_ble_eq_true rfl, Nat.le_of_ble_eq_true rfl⟩) ⟨PC.blind, va_recv hK.1 hP (ci := 11) (q0 := 67) rfl rfl, PC.pre hK hT hP hD hS hA [67, 68, 69, 70, 71, 72, 73, 74, 75, 76, 77, 78, 79, 80, 81] rfl (by decide)⟩ rfl rfl hl.1 rfl (lv_room (Nat.le_of_ble_eq_true rfl)) dL_law_603 ⟨by show _ ≤ 600000; omega, by show _ ≤ 7302250; omega⟩) hP hD hS hA [67, 68, 69, 70, 71, 72, 73, 74, 75, 76, 77, 78, 79, 80, 81] [0, 1, 2, 3, 4, 5, 6, 7, 8, 9, 10, 11, 12, 13, 14, 15, 16, 17, 18, 19, 20, 21, 22, 23, 24, 25, 26, 27, 28, 29, 30, 31, 32, 33, 34, 35, 36, 37, 38, 39, 40, 41, 42, 43, 44, 45, 46, 47, 48, 49, 50, 51, 52, 53, 54, 55, 56, 57, 58, 59, 60, 61, 62, 63, 64, 65, 66] rfl rfl (by decide) (by decide) rfl (fun r9 u9 H locs hw hP hD hS => ?_)
      obtain ⟨hw, hw2⟩ := hw
      try dsimp only at hw hw2
      rw [hw2] at hP hD
      have hP : va_P D vwCl (WSL cI cJ cZ cY q v0 v1 v2 v3 v4 u8 v6 v7 v8 v9 v10 v11 v12 v13 v14 v15 v16 y ++ PL cI v18) H := hP.by _ (va_part (cx := WSL cI cJ cZ cY q v0 v1 v2 v3 v4 u8 v6 v7 v8 v9 v10 v11 v12 v13 v14 v15 v16 y) [0, 1, 2, 3, 4, 5, 6, 7, 8, 9, 10, 11, 12, 13, 14, 15, 16, 17, 18, 19, 20, 21, 22, 23, 24, 25, 26, 27, 28, 29, 30, 31, 32, 33, 34, 35, 36, 37, 38, 39, 40, 41, 42, 43, 44, 45, 46, 47, 48, 49, 50, 51, 52, 53, 54, 55, 56, 57, 58, 59, 60, 61, 62, 63, 64, 65, 66, 67, 68, 69, 70, 71, 72, 73, 74, 75, 76, 77, 78, 79, 80, 81] rfl)
      have hD : va_D (fun q : Nat => s.heap.size ≤ q) (WSL cI cJ cZ cY q v0 v1 v2 v3 v4 u8 v6 v7 v8 v9 v10 v11 v12 v13 v14 v15 v16 y ++ PL cI v18) := hD.part (cx := WSL cI cJ cZ cY q v0 v1 v2 v3 v4 u8 v6 v7 v8 v9 v10 v11 v12 v13 v14 v15 v16 y) [0, 1, 2, 3, 4, 5, 6, 7, 8, 9, 10, 11, 12, 13, 14, 15, 16, 17, 18, 19, 20, 21, 22, 23, 24, 25, 26, 27, 28, 29, 30, 31, 32, 33, 34, 35, 36, 37, 38, 39, 40, 41, 42, 43, 44, 45, 46, 47, 48, 49, 50, 51, 52, 53, 54, 55, 56, 57, 58, 59, 60, 61, 62, 63, 64, 65, 66, 67, 68, 69, 70, 71, 72, 73, 74, 75, 76, 77, 78, 79, 80, 81] (by decide) rfl
      refine lv_icmp_eq (tgt := 1282) hx hb dL_law_606 (by decide) (fun _ => ?_) (fun c_2 => absurd hw.symm c_2)
      exact hnext v0 v1 v2 v3 v4 u8 v6 v7 v8 v9 v10 v11 v12 v13 v14 v15 v16 y v18 H locs ls _ _ (by omega) (by omega) hR2 hP hD hS (lv_sub hl [0, 1, 2, 3] rfl)
set_option maxHeartbeats 8000000 in
set_option maxRecDepth 100000 in
theorem lc_width {p : Program} {l : Launch} {e : Env} {s : State} {m : MethodId} {below : List Frame} {meth : Method} {c : Code} {D : va_G} {cI cJ cZ cY : ClassId} {tX tY : Nat} {b L : Nat} {xs : Nat → Int32} (hL : L ≤ 4610) (C0 : lw_At p s m meth c b L xs) (hK : KU D cI cJ cZ cY s) (hT : ST tX tY (fun q : Nat => s.heap.size ≤ q) s s.heap) (q : Nat → Nat) (Rel : RelT) (o_width : Op_width Rel) {i k : Nat} (hiL : i + 9 ≤ L) (hk1 : k + 1 ≤ 512)
    (hnext : ∀ (v0 : BX11) (v1 : BX3) (v2 : BX8) (v3 : BX4) (v4 : BX8) (v5 : BX7) (v6 : BX6) (v7 : BX2) (v8 : BX1) (v9 : BX2) (v10 : BX5) (v11 : BX10) (v12 : BX9) (v13 : BX1) (v14 : BX2) (v15 : BX5) (v16 : BX10) (v17 : BX12) (v18 : PB) (H : Heap) (locs : List Loc) (ls : Array Slot) (cs ss : Nat), cs ≤ 120 + (k + 1) → ss ≤ 25000 + 300 * (k + 1) → Rel v0 v1 v2 v3 v4 v5 v6 v7 v8 v9 v10 v11 v12 v13 v14 v15 v16 v17 v18 → va_P D vwCl (WSL cI cJ cZ cY q v0 v1 v2 v3 v4 v5 v6 v7 v8 v9 v10 v11 v12 v13 v14 v15 v16 v17 ++ PL cI v18) H → va_D (fun q : Nat => s.heap.size ≤ q) (WSL cI cJ cZ cY q v0 v1 v2 v3 v4 v5 v6 v7 v8 v9 v10 v11 v12 v13 v14 v15 v16 v17 ++ PL cI v18) → va_S (fun q : Nat => s.heap.size ≤ q) s.heap H locs → lv_has ls 4 [(0, .ref b), (1, .ref (q 0)), (2, .ref (q 67)), (3, .int (nI i))] → W p l e room_1 s m #[Value.ref b] below meth c H locs cs ss (lw_Z below #[Value.ref b] s) (F0 m 1282 ls []))
    (v0 : BX11) (v1 : BX3) (v2 : BX8) (v3 : BX4) (v4 : BX8) (v5 : BX7) (v6 : BX6) (v7 : BX2) (v8 : BX1) (v9 : BX2) (v10 : BX5) (v11 : BX10) (v12 : BX9) (v13 : BX1) (v14 : BX2) (v15 : BX5) (v16 : BX10) (v17 : BX12) (v18 : PB) (H : Heap) (locs : List Loc) (ls : Array Slot) (hR : Rel v0 v1 v2 v3 v4 v5 v6 v7 v8 v9 v10 v11 v12 v13 v14 v15 v16 v17 v18) (hP : va_P D vwCl (WSL cI cJ cZ cY q v0 v1 v2 v3 v4 v5 v6 v7 v8 v9 v10 v11 v12 v13 v14 v15 v16 v17 ++ PL cI v18) H) (hD : va_D (fun q : Nat => s.heap.size ≤ q) (WSL cI cJ cZ cY q v0 v1 v2 v3 v4 v5 v6 v7 v8 v9 v10 v11 v12 v13 v14 v15 v16 v17 ++ PL cI v18)) (hS : va_S (fun q : Nat => s.heap.size ≤ q) s.heap H locs) (hl : lv_has ls 4 [(0, .ref b), (1, .ref (q 0)), (2, .ref (q 67)), (3, .int (nI i))]) : W p l e room_1 s m #[Value.ref b] below meth c H locs (120 + k) (25000 + 300 * k) (lw_Z below #[Value.ref b] s) (F0 m 611 ls []) := by
  obtain ⟨hx, hb, hr, hml, hown, hts, hX, hbl, hlocks, hgv⟩ := C0
  have htb : ∀ w ∈ TB, w.before #[Value.ref b] s = true := fun w h => hts w (tb_tbl h)
  have hA : ∀ q : Nat, s.heap.size ≤ q → (fun q : Nat => s.heap.size ≤ q) q := fun _ h => h
  have hbA : ¬ (fun q : Nat => s.heap.size ≤ q) b := Nat.not_le.mpr hbl
  refine lv_aload_n hx hb dL_law_611 rfl (lv_at hl 1 rfl) ?_
  refine lv_aload_n hx hb dL_law_612 rfl (lv_at hl 0 rfl) ?_
  refine lv_iload_n hx hb dL_law_613 rfl (lv_at hl 3 rfl) ?_
  refine lv_iconst (v := 1) hx hb dL_law_614 (by decide) ?_
  refine lv_iadd hx hb dL_law_615 ?_
  refine va_sld hx hb hX hbl hbA hS (scr_in (j := 1) (by omega) hL rfl) dL_law_616 ?_
  refine lv_aload_n hx hb dL_law_617 rfl (lv_at hl 0 rfl) ?_
  refine lv_iload_n hx hb dL_law_618 rfl (lv_at hl 3 rfl) ?_
  refine lv_iconst (v := 2) hx hb dL_law_619 (by decide) ?_
  refine lv_iadd hx hb dL_law_620 ?_
  refine va_sld hx hb hX hbl hbA hS (scr_in (j := 2) (by omega) hL rfl) dL_law_621 ?_
  refine lv_aload_n hx hb dL_law_622 rfl (lv_at hl 0 rfl) ?_
  refine lv_iload_n hx hb dL_law_623 rfl (lv_at hl 3 rfl) ?_
  refine lv_iconst (v := 3) hx hb dL_law_624 (by decide) ?_
  refine lv_iadd hx hb dL_law_625 ?_
  refine va_sld hx hb hX hbl hbA hS (scr_in (j := 3) (by omega) hL rfl) dL_law_626 ?_
  refine lv_aload_n hx hb dL_law_627 rfl (lv_at hl 0 rfl) ?_
  refine lv_iload_n hx hb dL_law_628 rfl (lv_at hl 3 rfl) ?_
  refine lv_iconst (v := 4) hx hb dL_law_629 (by decide) ?_
  refine lv_iadd hx hb dL_law_630 ?_
  refine va_sld hx hb hX hbl hbA hS (scr_in (j := 4) (by omega) hL rfl) dL_law_631 ?_
  refine lv_aload_n hx hb dL_law_632 rfl (lv_at hl 0 rfl) ?_
  refine lv_iload_n hx hb dL_law_633 rfl (lv_at hl 3 rfl) ?_
  refine lv_iconst (v := 5) hx hb dL_law_634 (by decide) ?_
  refine lv_iadd hx hb dL_law_635 ?_
  refine va_sld hx hb hX hbl hbA hS (scr_in (j := 5) (by omega) hL rfl) dL_law_636 ?_
  obtain ⟨r, x, y, hfx, hfm, hR2⟩ := o_width v0 v1 v2 v3 v4 v5 v6 v7 v8 v9 v10 v11 v12 v13 v14 v15 v16 v17 v18 hR (xs (nI i + 1).toNatClampNeg) (xs (nI i + 2).toNatClampNeg) (xs (nI i + 3).toNatClampNeg) (xs (nI i + 4).toNatClampNeg) (xs (nI i + 5).toNatClampNeg)
  refine cc_iQ (va_runV (C := RX11) (As := [.int (xs (nI i + 1).toNatClampNeg), .int (xs (nI i + 2).toNatClampNeg), .int (xs (nI i + 3).toNatClampNeg), .int (xs (nI i + 4).toNatClampNeg), .int (xs (nI i + 5).toNatClampNeg)]) (rest := []) ⟨hx, hb, hml, hown, htb⟩ (k_X11_width (q 0) (q 1) (q 2) (q 8) (q 3) (q 6) (q 4) (q 5) (q 19) (q 28) (q 25) (q 10) (q 11) (q 12) (q 34) (q 35) (q 36) (q 37) (q 38) (q 39) (q 40) v0 v2 v5 v11 (xs (nI i + 1).toNatClampNeg) (xs (nI i + 2).toNatClampNeg) (xs (nI i + 3).toNatClampNeg) (xs (nI i + 4).toNatClampNeg) (xs (nI i + 5).toNatClampNeg) (r, x) hfx) (cw_V 5 htb tg_574 tg_1 tg_571 tg_572 tg_573 rfl rfl (by decide +kernel) ⟨Nat.le_of_ble_eq_true rfl, Nat.le_of_ble_eq_true rfl⟩) ⟨PC.blind, va_recv hK.1 hP (ci := 10) (q0 := 0) rfl rfl, PC.pre hK hT hP hD hS hA [0, 4, 5, 10, 11, 12, 34, 35, 36, 37, 38, 39, 40] rfl (by decide)⟩ rfl rfl hl.1 rfl (lv_room (Nat.le_of_ble_eq_true rfl)) dL_law_637 ⟨by show _ ≤ 600000; omega, by show _ ≤ 7302250; omega⟩) hP hD hS hA [0, 4, 5, 10, 11, 12, 34, 35, 36, 37, 38, 39, 40] [1, 2, 3, 6, 7, 8, 9, 13, 14, 15, 16, 17, 18, 19, 20, 21, 22, 23, 24, 25, 26, 27, 28, 29, 30, 31, 32, 33, 41, 42, 43, 44, 45, 46, 47, 48, 49, 50, 51, 52, 53, 54, 55, 56, 57, 58, 59, 60, 61, 62, 63, 64, 65, 66, 67, 68, 69, 70, 71, 72, 73, 74, 75, 76, 77, 78, 79, 80, 81] rfl rfl (by decide) (by decide) rfl (fun r8 u8 H locs hw hP hD hS => ?_)
  obtain ⟨hw, hw2⟩ := hw
  have hw : r8 = r := hw
  have hw2 : u8 = x := hw2
  subst hw
  subst hw2
  have hP : va_P D vwCl (WSL cI cJ cZ cY q v0 v1 v2 v3 v4 u8 v6 v7 v8 v9 v10 v11 v12 v13 v14 v15 v16 v17 ++ PL cI v18) H := hP.by _ (va_part (cx := WSL cI cJ cZ cY q v0 v1 v2 v3 v4 u8 v6 v7 v8 v9 v10 v11 v12 v13 v14 v15 v16 v17) [69, 0, 1, 2, 70, 71, 3, 4, 5, 6, 72, 73, 74, 7, 8, 9, 10, 11, 12, 13, 14, 15, 16, 17, 18, 19, 20, 21, 22, 23, 24, 25, 26, 27, 75, 76, 77, 78, 79, 80, 81, 28, 29, 30, 31, 32, 33, 34, 35, 36, 37, 38, 39, 40, 41, 42, 43, 44, 45, 46, 47, 48, 49, 50, 51, 52, 53, 54, 55, 56, 57, 58, 59, 60, 61, 62, 63, 64, 65, 66, 67, 68] rfl)
  have hD : va_D (fun q : Nat => s.heap.size ≤ q) (WSL cI cJ cZ cY q v0 v1 v2 v3 v4 u8 v6 v7 v8 v9 v10 v11 v12 v13 v14 v15 v16 v17 ++ PL cI v18) := hD.part (cx := WSL cI cJ cZ cY q v0 v1 v2 v3 v4 u8 v6 v7 v8 v9 v10 v11 v12 v13 v14 v15 v16 v17) [69, 0, 1, 2, 70, 71, 3, 4, 5, 6, 72, 73, 74, 7, 8, 9, 10, 11, 12, 13, 14, 15, 16, 17, 18, 19, 20, 21, 22, 23, 24, 25, 26, 27, 75, 76, 77, 78, 79, 80, 81, 28, 29, 30, 31, 32, 33, 34, 35, 36, 37, 38, 39, 40, 41, 42, 43, 44, 45, 46, 47, 48, 49, 50, 51, 52, 53, 54, 55, 56, 57, 58, 59, 60, 61, 62, 63, 64, 65, 66, 67, 68] (by decide) rfl
  refine lv_aload_n hx hb dL_law_640 rfl (lv_at hl 2 rfl) ?_
  refine lv_aload_n hx hb dL_law_641 rfl (lv_at hl 0 rfl) ?_
  refine lv_iload_n hx hb dL_law_642 rfl (lv_at hl 3 rfl) ?_
  refine lv_iconst (v := 1) hx hb dL_law_643 (by decide) ?_
  refine lv_iadd hx hb dL_law_644 ?_
  refine va_sld hx hb hX hbl hbA hS (scr_in (j := 1) (by omega) hL rfl) dL_law_645 ?_
  refine lv_aload_n hx hb dL_law_646 rfl (lv_at hl 0 rfl) ?_
  refine lv_iload_n hx hb dL_law_647 rfl (lv_at hl 3 rfl) ?_
  refine lv_iconst (v := 2) hx hb dL_law_648 (by decide) ?_
  refine lv_iadd hx hb dL_law_649 ?_
  refine va_sld hx hb hX hbl hbA hS (scr_in (j := 2) (by omega) hL rfl) dL_law_650 ?_
  refine lv_aload_n hx hb dL_law_651 rfl (lv_at hl 0 rfl) ?_
  refine lv_iload_n hx hb dL_law_652 rfl (lv_at hl 3 rfl) ?_
  refine lv_iconst (v := 3) hx hb dL_law_653 (by decide) ?_
  refine lv_iadd hx hb dL_law_654 ?_
  refine va_sld hx hb hX hbl hbA hS (scr_in (j := 3) (by omega) hL rfl) dL_law_655 ?_
  refine lv_aload_n hx hb dL_law_656 rfl (lv_at hl 0 rfl) ?_
  refine lv_iload_n hx hb dL_law_657 rfl (lv_at hl 3 rfl) ?_
  refine lv_iconst (v := 4) hx hb dL_law_658 (by decide) ?_
  refine lv_iadd hx hb dL_law_659 ?_
  refine va_sld hx hb hX hbl hbA hS (scr_in (j := 4) (by omega) hL rfl) dL_law_660 ?_
  refine lv_aload_n hx hb dL_law_661 rfl (lv_at hl 0 rfl) ?_
  refine lv_iload_n hx hb dL_law_662 rfl (lv_at hl 3 rfl) ?_
  refine lv_iconst (v := 5) hx hb dL_law_663 (by decide) ?_
  refine lv_iadd hx hb dL_law_664 ?_
  refine va_sld hx hb hX hbl hbA hS (scr_in (j := 5) (by omega) hL rfl) dL_law_665 ?_
  refine cc_iQ (va_runV (C := RX12) (As := [.int (xs (nI i + 1).toNatClampNeg), .int (xs (nI i + 2).toNatClampNeg), .int (xs (nI i + 3).toNatClampNeg), .int (xs (nI i + 4).toNatClampNeg), .int (xs (nI i + 5).toNatClampNeg)]) (rest := [.int r8]) ⟨hx, hb, hml, hown, htb⟩ (k_X12_width (q 67) (q 68) (q 69) (q 70) (q 71) (q 72) (q 73) (q 74) (q 75) (q 76) (q 77) (q 78) (q 79) (q 80) (q 81) v17 (xs (nI i + 1).toNatClampNeg) (xs (nI i + 2).toNatClampNeg) (xs (nI i + 3).toNatClampNeg) (xs (nI i + 4).toNatClampNeg) (xs (nI i + 5).toNatClampNeg) (r8, y) hfm) (cw_V 5 htb tg_1176 tg_13 tg_1173 tg_1174 tg_1175 rfl rfl (by decide +kernel) ⟨Nat.le_of_ble_eq_true rfl, Nat.le_of_ble_eq_true rfl⟩) ⟨PC.blind, va_recv hK.1 hP (ci := 11) (q0 := 67) rfl rfl, PC.pre hK hT hP hD hS hA [67, 68, 69, 70, 71, 72, 73, 74, 75, 76, 77, 78, 79, 80, 81] rfl (by decide)⟩ rfl rfl hl.1 rfl (lv_room (Nat.le_of_ble_eq_true rfl)) dL_law_666 ⟨by show _ ≤ 600000; omega, by show _ ≤ 7302250; omega⟩) hP hD hS hA [67, 68, 69, 70, 71, 72, 73, 74, 75, 76, 77, 78, 79, 80, 81] [0, 1, 2, 3, 4, 5, 6, 7, 8, 9, 10, 11, 12, 13, 14, 15, 16, 17, 18, 19, 20, 21, 22, 23, 24, 25, 26, 27, 28, 29, 30, 31, 32, 33, 34, 35, 36, 37, 38, 39, 40, 41, 42, 43, 44, 45, 46, 47, 48, 49, 50, 51, 52, 53, 54, 55, 56, 57, 58, 59, 60, 61, 62, 63, 64, 65, 66] rfl rfl (by decide) (by decide) rfl (fun r9 u9 H locs hw hP hD hS => ?_)
  obtain ⟨hw, hw2⟩ := hw
  try dsimp only at hw hw2
  rw [hw2] at hP hD
  have hP : va_P D vwCl (WSL cI cJ cZ cY q v0 v1 v2 v3 v4 u8 v6 v7 v8 v9 v10 v11 v12 v13 v14 v15 v16 y ++ PL cI v18) H := hP.by _ (va_part (cx := WSL cI cJ cZ cY q v0 v1 v2 v3 v4 u8 v6 v7 v8 v9 v10 v11 v12 v13 v14 v15 v16 y) [0, 1, 2, 3, 4, 5, 6, 7, 8, 9, 10, 11, 12, 13, 14, 15, 16, 17, 18, 19, 20, 21, 22, 23, 24, 25, 26, 27, 28, 29, 30, 31, 32, 33, 34, 35, 36, 37, 38, 39, 40, 41, 42, 43, 44, 45, 46, 47, 48, 49, 50, 51, 52, 53, 54, 55, 56, 57, 58, 59, 60, 61, 62, 63, 64, 65, 66, 67, 68, 69, 70, 71, 72, 73, 74, 75, 76, 77, 78, 79, 80, 81] rfl)
  have hD : va_D (fun q : Nat => s.heap.size ≤ q) (WSL cI cJ cZ cY q v0 v1 v2 v3 v4 u8 v6 v7 v8 v9 v10 v11 v12 v13 v14 v15 v16 y ++ PL cI v18) := hD.part (cx := WSL cI cJ cZ cY q v0 v1 v2 v3 v4 u8 v6 v7 v8 v9 v10 v11 v12 v13 v14 v15 v16 y) [0, 1, 2, 3, 4, 5, 6, 7, 8, 9, 10, 11, 12, 13, 14, 15, 16, 17, 18, 19, 20, 21, 22, 23, 24, 25, 26, 27, 28, 29, 30, 31, 32, 33, 34, 35, 36, 37, 38, 39, 40, 41, 42, 43, 44, 45, 46, 47, 48, 49, 50, 51, 52, 53, 54, 55, 56, 57, 58, 59, 60, 61, 62, 63, 64, 65, 66, 67, 68, 69, 70, 71, 72, 73, 74, 75, 76, 77, 78, 79, 80, 81] (by decide) rfl
  refine lv_icmp_eq (tgt := 1282) hx hb dL_law_669 (by decide) (fun _ => ?_) (fun c_2 => absurd hw.symm c_2)
  exact hnext v0 v1 v2 v3 v4 u8 v6 v7 v8 v9 v10 v11 v12 v13 v14 v15 v16 y v18 H locs ls _ _ (by omega) (by omega) hR2 hP hD hS (lv_sub hl [0, 1, 2, 3] rfl)
set_option maxHeartbeats 8000000 in
set_option maxRecDepth 100000 in
theorem lc_same {p : Program} {l : Launch} {e : Env} {s : State} {m : MethodId} {below : List Frame} {meth : Method} {c : Code} {D : va_G} {cI cJ cZ cY : ClassId} {tX tY : Nat} {b L : Nat} {xs : Nat → Int32} (hL : L ≤ 4610) (C0 : lw_At p s m meth c b L xs) (hK : KU D cI cJ cZ cY s) (hT : ST tX tY (fun q : Nat => s.heap.size ≤ q) s s.heap) (q : Nat → Nat) (Rel : RelT) (o_same : Op_same Rel) {i k : Nat} (hiL : i + 9 ≤ L) (hk1 : k + 1 ≤ 512)
    (hnext : ∀ (v0 : BX11) (v1 : BX3) (v2 : BX8) (v3 : BX4) (v4 : BX8) (v5 : BX7) (v6 : BX6) (v7 : BX2) (v8 : BX1) (v9 : BX2) (v10 : BX5) (v11 : BX10) (v12 : BX9) (v13 : BX1) (v14 : BX2) (v15 : BX5) (v16 : BX10) (v17 : BX12) (v18 : PB) (H : Heap) (locs : List Loc) (ls : Array Slot) (cs ss : Nat), cs ≤ 120 + (k + 1) → ss ≤ 25000 + 300 * (k + 1) → Rel v0 v1 v2 v3 v4 v5 v6 v7 v8 v9 v10 v11 v12 v13 v14 v15 v16 v17 v18 → va_P D vwCl (WSL cI cJ cZ cY q v0 v1 v2 v3 v4 v5 v6 v7 v8 v9 v10 v11 v12 v13 v14 v15 v16 v17 ++ PL cI v18) H → va_D (fun q : Nat => s.heap.size ≤ q) (WSL cI cJ cZ cY q v0 v1 v2 v3 v4 v5 v6 v7 v8 v9 v10 v11 v12 v13 v14 v15 v16 v17 ++ PL cI v18) → va_S (fun q : Nat => s.heap.size ≤ q) s.heap H locs → lv_has ls 4 [(0, .ref b), (1, .ref (q 0)), (2, .ref (q 67)), (3, .int (nI i))] → W p l e room_1 s m #[Value.ref b] below meth c H locs cs ss (lw_Z below #[Value.ref b] s) (F0 m 1282 ls []))
    (v0 : BX11) (v1 : BX3) (v2 : BX8) (v3 : BX4) (v4 : BX8) (v5 : BX7) (v6 : BX6) (v7 : BX2) (v8 : BX1) (v9 : BX2) (v10 : BX5) (v11 : BX10) (v12 : BX9) (v13 : BX1) (v14 : BX2) (v15 : BX5) (v16 : BX10) (v17 : BX12) (v18 : PB) (H : Heap) (locs : List Loc) (ls : Array Slot) (hR : Rel v0 v1 v2 v3 v4 v5 v6 v7 v8 v9 v10 v11 v12 v13 v14 v15 v16 v17 v18) (hP : va_P D vwCl (WSL cI cJ cZ cY q v0 v1 v2 v3 v4 v5 v6 v7 v8 v9 v10 v11 v12 v13 v14 v15 v16 v17 ++ PL cI v18) H) (hD : va_D (fun q : Nat => s.heap.size ≤ q) (WSL cI cJ cZ cY q v0 v1 v2 v3 v4 v5 v6 v7 v8 v9 v10 v11 v12 v13 v14 v15 v16 v17 ++ PL cI v18)) (hS : va_S (fun q : Nat => s.heap.size ≤ q) s.heap H locs) (hl : lv_has ls 4 [(0, .ref b), (1, .ref (q 0)), (2, .ref (q 67)), (3, .int (nI i))]) : W p l e room_1 s m #[Value.ref b] below meth c H locs (120 + k) (25000 + 300 * k) (lw_Z below #[Value.ref b] s) (F0 m 674 ls []) := by
  obtain ⟨hx, hb, hr, hml, hown, hts, hX, hbl, hlocks, hgv⟩ := C0
  have htb : ∀ w ∈ TB, w.before #[Value.ref b] s = true := fun w h => hts w (tb_tbl h)
  have hA : ∀ q : Nat, s.heap.size ≤ q → (fun q : Nat => s.heap.size ≤ q) q := fun _ h => h
  have hbA : ¬ (fun q : Nat => s.heap.size ≤ q) b := Nat.not_le.mpr hbl
  refine lv_aload_n hx hb dL_law_674 rfl (lv_at hl 1 rfl) ?_
  refine lv_aload_n hx hb dL_law_675 rfl (lv_at hl 0 rfl) ?_
  refine lv_iload_n hx hb dL_law_676 rfl (lv_at hl 3 rfl) ?_
  refine lv_iconst (v := 1) hx hb dL_law_677 (by decide) ?_
  refine lv_iadd hx hb dL_law_678 ?_
  refine va_sld hx hb hX hbl hbA hS (scr_in (j := 1) (by omega) hL rfl) dL_law_679 ?_
  refine lv_aload_n hx hb dL_law_680 rfl (lv_at hl 0 rfl) ?_
  refine lv_iload_n hx hb dL_law_681 rfl (lv_at hl 3 rfl) ?_
  refine lv_iconst (v := 2) hx hb dL_law_682 (by decide) ?_
  refine lv_iadd hx hb dL_law_683 ?_
  refine va_sld hx hb hX hbl hbA hS (scr_in (j := 2) (by omega) hL rfl) dL_law_684 ?_
  refine lv_aload_n hx hb dL_law_685 rfl (lv_at hl 0 rfl) ?_
  refine lv_iload_n hx hb dL_law_686 rfl (lv_at hl 3 rfl) ?_
  refine lv_iconst (v := 3) hx hb dL_law_687 (by decide) ?_
  refine lv_iadd hx hb dL_law_688 ?_
  refine va_sld hx hb hX hbl hbA hS (scr_in (j := 3) (by omega) hL rfl) dL_law_689 ?_
  refine lv_aload_n hx hb dL_law_690 rfl (lv_at hl 0 rfl) ?_
  refine lv_iload_n hx hb dL_law_691 rfl (lv_at hl 3 rfl) ?_
  refine lv_iconst (v := 4) hx hb dL_law_692 (by decide) ?_
  refine lv_iadd hx hb dL_law_693 ?_
  refine va_sld hx hb hX hbl hbA hS (scr_in (j := 4) (by omega) hL rfl) dL_law_694 ?_
  refine lv_aload_n hx hb dL_law_695 rfl (lv_at hl 0 rfl) ?_
  refine lv_iload_n hx hb dL_law_696 rfl (lv_at hl 3 rfl) ?_
  refine lv_iconst (v := 5) hx hb dL_law_697 (by decide) ?_
  refine lv_iadd hx hb dL_law_698 ?_
  refine va_sld hx hb hX hbl hbA hS (scr_in (j := 5) (by omega) hL rfl) dL_law_699 ?_
  refine lv_aload_n hx hb dL_law_700 rfl (lv_at hl 0 rfl) ?_
  refine lv_iload_n hx hb dL_law_701 rfl (lv_at hl 3 rfl) ?_
  refine lv_bipush (v := 6) hx hb dL_law_702 (by decide) ?_
  refine lv_iadd hx hb dL_law_704 ?_
  refine va_sld hx hb hX hbl hbA hS (scr_in (j := 6) (by omega) hL rfl) dL_law_705 ?_
  obtain ⟨r, x, y, hfx, hfm, hR2⟩ := o_same v0 v1 v2 v3 v4 v5 v6 v7 v8 v9 v10 v11 v12 v13 v14 v15 v16 v17 v18 hR (xs (nI i + 1).toNatClampNeg) (xs (nI i + 2).toNatClampNeg) (xs (nI i + 3).toNatClampNeg) (xs (nI i + 4).toNatClampNeg) (xs (nI i + 5).toNatClampNeg) (xs (nI i + 6).toNatClampNeg)
  refine cc_iQ (va_runV (C := RX11) (As := [.int (xs (nI i + 1).toNatClampNeg), .int (xs (nI i + 2).toNatClampNeg), .int (xs (nI i + 3).toNatClampNeg), .int (xs (nI i + 4).toNatClampNeg), .int (xs (nI i + 5).toNatClampNeg), .int (xs (nI i + 6).toNatClampNeg)]) (rest := []) ⟨hx, hb, hml, hown, htb⟩ (k_X11_same (q 0) (q 1) (q 2) (q 8) (q 3) (q 6) (q 4) (q 5) (q 28) (q 25) (q 10) (q 11) (q 12) (q 19) (q 20) (q 21) (q 22) (q 23) (q 24) (q 34) (q 35) (q 36) (q 37) (q 38) (q 39) (q 40) v0 v2 v5 v8 v11 (xs (nI i + 1).toNatClampNeg) (xs (nI i + 2).toNatClampNeg) (xs (nI i + 3).toNatClampNeg) (xs (nI i + 4).toNatClampNeg) (xs (nI i + 5).toNatClampNeg) (xs (nI i + 6).toNatClampNeg) (r, x) hfx) (cw_V 6 htb tg_579 tg_1 tg_576 tg_577 tg_578 rfl rfl (by decide +kernel) ⟨Nat.le_of_ble_eq_true rfl, Nat.le_of_ble_eq_true rfl⟩) ⟨PC.blind, va_recv hK.1 hP (ci := 10) (q0 := 0) rfl rfl, PC.pre hK hT hP hD hS hA [0, 1, 2, 4, 5, 10, 11, 12, 19, 20, 21, 22, 23, 24, 34, 35, 36, 37, 38, 39, 40] rfl (by decide)⟩ rfl rfl hl.1 rfl (lv_room (Nat.le_of_ble_eq_true rfl)) dL_law_706 ⟨by show _ ≤ 600000; omega, by show _ ≤ 7302250; omega⟩) hP hD hS hA [0, 1, 2, 4, 5, 10, 11, 12, 19, 20, 21, 22, 23, 24, 34, 35, 36, 37, 38, 39, 40] [3, 6, 7, 8, 9, 13, 14, 15, 16, 17, 18, 25, 26, 27, 28, 29, 30, 31, 32, 33, 41, 42, 43, 44, 45, 46, 47, 48, 49, 50, 51, 52, 53, 54, 55, 56, 57, 58, 59, 60, 61, 62, 63, 64, 65, 66, 67, 68, 69, 70, 71, 72, 73, 74, 75, 76, 77, 78, 79, 80, 81] rfl rfl (by decide) (by decide) rfl (fun r8 u8 H locs hw hP hD hS => ?_)
  obtain ⟨hw, hw2⟩ := hw
  have hw : r8 = r := hw
  have hw2 : u8 = x := hw2
  subst hw
  subst hw2
  have hP : va_P D vwCl (WSL cI cJ cZ cY q u8.1 v1 v2 v3 v4 u8.2.1 v6 v7 v8 v9 v10 u8.2.2 v12 v13 v14 v15 v16 v17 ++ PL cI v18) H := hP.by _ (va_part (cx := WSL cI cJ cZ cY q u8.1 v1 v2 v3 v4 u8.2.1 v6 v7 v8 v9 v10 u8.2.2 v12 v13 v14 v15 v16 v17) [61, 62, 63, 0, 64, 65, 1, 2, 3, 4, 66, 67, 68, 5, 6, 7, 8, 9, 10, 69, 70, 71, 72, 73, 74, 11, 12, 13, 14, 15, 16, 17, 18, 19, 75, 76, 77, 78, 79, 80, 81, 20, 21, 22, 23, 24, 25, 26, 27, 28, 29, 30, 31, 32, 33, 34, 35, 36, 37, 38, 39, 40, 41, 42, 43, 44, 45, 46, 47, 48, 49, 50, 51, 52, 53, 54, 55, 56, 57, 58, 59, 60] rfl)
  have hD : va_D (fun q : Nat => s.heap.size ≤ q) (WSL cI cJ cZ cY q u8.1 v1 v2 v3 v4 u8.2.1 v6 v7 v8 v9 v10 u8.2.2 v12 v13 v14 v15 v16 v17 ++ PL cI v18) := hD.part (cx := WSL cI cJ cZ cY q u8.1 v1 v2 v3 v4 u8.2.1 v6 v7 v8 v9 v10 u8.2.2 v12 v13 v14 v15 v16 v17) [61, 62, 63, 0, 64, 65, 1, 2, 3, 4, 66, 67, 68, 5, 6, 7, 8, 9, 10, 69, 70, 71, 72, 73, 74, 11, 12, 13, 14, 15, 16, 17, 18, 19, 75, 76, 77, 78, 79, 80, 81, 20, 21, 22, 23, 24, 25, 26, 27, 28, 29, 30, 31, 32, 33, 34, 35, 36, 37, 38, 39, 40, 41, 42, 43, 44, 45, 46, 47, 48, 49, 50, 51, 52, 53, 54, 55, 56, 57, 58, 59, 60] (by decide) rfl
  refine lv_aload_n hx hb dL_law_709 rfl (lv_at hl 2 rfl) ?_
  refine lv_aload_n hx hb dL_law_710 rfl (lv_at hl 0 rfl) ?_
  refine lv_iload_n hx hb dL_law_711 rfl (lv_at hl 3 rfl) ?_
  refine lv_iconst (v := 1) hx hb dL_law_712 (by decide) ?_
  refine lv_iadd hx hb dL_law_713 ?_
  refine va_sld hx hb hX hbl hbA hS (scr_in (j := 1) (by omega) hL rfl) dL_law_714 ?_
  refine lv_aload_n hx hb dL_law_715 rfl (lv_at hl 0 rfl) ?_
  refine lv_iload_n hx hb dL_law_716 rfl (lv_at hl 3 rfl) ?_
  refine lv_iconst (v := 2) hx hb dL_law_717 (by decide) ?_
  refine lv_iadd hx hb dL_law_718 ?_
  refine va_sld hx hb hX hbl hbA hS (scr_in (j := 2) (by omega) hL rfl) dL_law_719 ?_
  refine lv_aload_n hx hb dL_law_720 rfl (lv_at hl 0 rfl) ?_
  refine lv_iload_n hx hb dL_law_721 rfl (lv_at hl 3 rfl) ?_
  refine lv_iconst (v := 3) hx hb dL_law_722 (by decide) ?_
  refine lv_iadd hx hb dL_law_723 ?_
  refine va_sld hx hb hX hbl hbA hS (scr_in (j := 3) (by omega) hL rfl) dL_law_724 ?_
  refine lv_aload_n hx hb dL_law_725 rfl (lv_at hl 0 rfl) ?_
  refine lv_iload_n hx hb dL_law_726 rfl (lv_at hl 3 rfl) ?_
  refine lv_iconst (v := 4) hx hb dL_law_727 (by decide) ?_
  refine lv_iadd hx hb dL_law_728 ?_
  refine va_sld hx hb hX hbl hbA hS (scr_in (j := 4) (by omega) hL rfl) dL_law_729 ?_
  refine lv_aload_n hx hb dL_law_730 rfl (lv_at hl 0 rfl) ?_
  refine lv_iload_n hx hb dL_law_731 rfl (lv_at hl 3 rfl) ?_
  refine lv_iconst (v := 5) hx hb dL_law_732 (by decide) ?_
  refine lv_iadd hx hb dL_law_733 ?_
  refine va_sld hx hb hX hbl hbA hS (scr_in (j := 5) (by omega) hL rfl) dL_law_734 ?_
  refine lv_aload_n hx hb dL_law_735 rfl (lv_at hl 0 rfl) ?_
  refine lv_iload_n hx hb dL_law_736 rfl (lv_at hl 3 rfl) ?_
  refine lv_bipush (v := 6) hx hb dL_law_737 (by decide) ?_
  refine lv_iadd hx hb dL_law_739 ?_
  refine va_sld hx hb hX hbl hbA hS (scr_in (j := 6) (by omega) hL rfl) dL_law_740 ?_
  refine cc_iQ (va_runV (C := RX12) (As := [.int (xs (nI i + 1).toNatClampNeg), .int (xs (nI i + 2).toNatClampNeg), .int (xs (nI i + 3).toNatClampNeg), .int (xs (nI i + 4).toNatClampNeg), .int (xs (nI i + 5).toNatClampNeg), .int (xs (nI i + 6).toNatClampNeg)]) (rest := [.int r8]) ⟨hx, hb, hml, hown, htb⟩ (k_X12_same (q 67) (q 68) (q 69) (q 70) (q 71) (q 72) (q 73) (q 74) (q 75) (q 76) (q 77) (q 78) (q 79) (q 80) (q 81) v17 (xs (nI i + 1).toNatClampNeg) (xs (nI i + 2).toNatClampNeg) (xs (nI i + 3).toNatClampNeg) (xs (nI i + 4).toNatClampNeg) (xs (nI i + 5).toNatClampNeg) (xs (nI i + 6).toNatClampNeg) (r8, y) hfm) (cw_V 6 htb tg_1180 tg_13 tg_1177 tg_1178 tg_1179 rfl rfl (by decide +kernel) ⟨Nat.le_of_ble_eq_true rfl, Nat.le_of_ble_eq_true rfl⟩) ⟨PC.blind, va_recv hK.1 hP (ci := 11) (q0 := 67) rfl rfl, PC.pre hK hT hP hD hS hA [67, 68, 69, 70, 71, 72, 73, 74, 75, 76, 77, 78, 79, 80, 81] rfl (by decide)⟩ rfl rfl hl.1 rfl (lv_room (Nat.le_of_ble_eq_true rfl)) dL_law_741 ⟨by show _ ≤ 600000; omega, by show _ ≤ 7302250; omega⟩) hP hD hS hA [67, 68, 69, 70, 71, 72, 73, 74, 75, 76, 77, 78, 79, 80, 81] [0, 1, 2, 3, 4, 5, 6, 7, 8, 9, 10, 11, 12, 13, 14, 15, 16, 17, 18, 19, 20, 21, 22, 23, 24, 25, 26, 27, 28, 29, 30, 31, 32, 33, 34, 35, 36, 37, 38, 39, 40, 41, 42, 43, 44, 45, 46, 47, 48, 49, 50, 51, 52, 53, 54, 55, 56, 57, 58, 59, 60, 61, 62, 63, 64, 65, 66] rfl rfl (by decide) (by decide) rfl (fun r9 u9 H locs hw hP hD hS => ?_)
  obtain ⟨hw, hw2⟩ := hw
  try dsimp only at hw hw2
  rw [hw2] at hP hD
  have hP : va_P D vwCl (WSL cI cJ cZ cY q u8.1 v1 v2 v3 v4 u8.2.1 v6 v7 v8 v9 v10 u8.2.2 v12 v13 v14 v15 v16 y ++ PL cI v18) H := hP.by _ (va_part (cx := WSL cI cJ cZ cY q u8.1 v1 v2 v3 v4 u8.2.1 v6 v7 v8 v9 v10 u8.2.2 v12 v13 v14 v15 v16 y) [0, 1, 2, 3, 4, 5, 6, 7, 8, 9, 10, 11, 12, 13, 14, 15, 16, 17, 18, 19, 20, 21, 22, 23, 24, 25, 26, 27, 28, 29, 30, 31, 32, 33, 34, 35, 36, 37, 38, 39, 40, 41, 42, 43, 44, 45, 46, 47, 48, 49, 50, 51, 52, 53, 54, 55, 56, 57, 58, 59, 60, 61, 62, 63, 64, 65, 66, 67, 68, 69, 70, 71, 72, 73, 74, 75, 76, 77, 78, 79, 80, 81] rfl)
  have hD : va_D (fun q : Nat => s.heap.size ≤ q) (WSL cI cJ cZ cY q u8.1 v1 v2 v3 v4 u8.2.1 v6 v7 v8 v9 v10 u8.2.2 v12 v13 v14 v15 v16 y ++ PL cI v18) := hD.part (cx := WSL cI cJ cZ cY q u8.1 v1 v2 v3 v4 u8.2.1 v6 v7 v8 v9 v10 u8.2.2 v12 v13 v14 v15 v16 y) [0, 1, 2, 3, 4, 5, 6, 7, 8, 9, 10, 11, 12, 13, 14, 15, 16, 17, 18, 19, 20, 21, 22, 23, 24, 25, 26, 27, 28, 29, 30, 31, 32, 33, 34, 35, 36, 37, 38, 39, 40, 41, 42, 43, 44, 45, 46, 47, 48, 49, 50, 51, 52, 53, 54, 55, 56, 57, 58, 59, 60, 61, 62, 63, 64, 65, 66, 67, 68, 69, 70, 71, 72, 73, 74, 75, 76, 77, 78, 79, 80, 81] (by decide) rfl
  refine lv_icmp_eq (tgt := 1282) hx hb dL_law_744 (by decide) (fun _ => ?_) (fun c_2 => absurd hw.symm c_2)
  exact hnext u8.1 v1 v2 v3 v4 u8.2.1 v6 v7 v8 v9 v10 u8.2.2 v12 v13 v14 v15 v16 y v18 H locs ls _ _ (by omega) (by omega) hR2 hP hD hS (lv_sub hl [0, 1, 2, 3] rfl)
set_option maxHeartbeats 8000000 in
set_option maxRecDepth 100000 in
theorem lc_feed {p : Program} {l : Launch} {e : Env} {s : State} {m : MethodId} {below : List Frame} {meth : Method} {c : Code} {D : va_G} {cI cJ cZ cY : ClassId} {tX tY : Nat} {b L : Nat} {xs : Nat → Int32} (hL : L ≤ 4610) (C0 : lw_At p s m meth c b L xs) (hK : KU D cI cJ cZ cY s) (hT : ST tX tY (fun q : Nat => s.heap.size ≤ q) s s.heap) (q : Nat → Nat) (Rel : RelT) (o_feed : Op_feed Rel) {i k : Nat} (hiL : i + 9 ≤ L) (hk1 : k + 1 ≤ 512)
    (hnext : ∀ (v0 : BX11) (v1 : BX3) (v2 : BX8) (v3 : BX4) (v4 : BX8) (v5 : BX7) (v6 : BX6) (v7 : BX2) (v8 : BX1) (v9 : BX2) (v10 : BX5) (v11 : BX10) (v12 : BX9) (v13 : BX1) (v14 : BX2) (v15 : BX5) (v16 : BX10) (v17 : BX12) (v18 : PB) (H : Heap) (locs : List Loc) (ls : Array Slot) (cs ss : Nat), cs ≤ 120 + (k + 1) → ss ≤ 25000 + 300 * (k + 1) → Rel v0 v1 v2 v3 v4 v5 v6 v7 v8 v9 v10 v11 v12 v13 v14 v15 v16 v17 v18 → va_P D vwCl (WSL cI cJ cZ cY q v0 v1 v2 v3 v4 v5 v6 v7 v8 v9 v10 v11 v12 v13 v14 v15 v16 v17 ++ PL cI v18) H → va_D (fun q : Nat => s.heap.size ≤ q) (WSL cI cJ cZ cY q v0 v1 v2 v3 v4 v5 v6 v7 v8 v9 v10 v11 v12 v13 v14 v15 v16 v17 ++ PL cI v18) → va_S (fun q : Nat => s.heap.size ≤ q) s.heap H locs → lv_has ls 4 [(0, .ref b), (1, .ref (q 0)), (2, .ref (q 67)), (3, .int (nI i))] → W p l e room_1 s m #[Value.ref b] below meth c H locs cs ss (lw_Z below #[Value.ref b] s) (F0 m 1282 ls []))
    (v0 : BX11) (v1 : BX3) (v2 : BX8) (v3 : BX4) (v4 : BX8) (v5 : BX7) (v6 : BX6) (v7 : BX2) (v8 : BX1) (v9 : BX2) (v10 : BX5) (v11 : BX10) (v12 : BX9) (v13 : BX1) (v14 : BX2) (v15 : BX5) (v16 : BX10) (v17 : BX12) (v18 : PB) (H : Heap) (locs : List Loc) (ls : Array Slot) (hR : Rel v0 v1 v2 v3 v4 v5 v6 v7 v8 v9 v10 v11 v12 v13 v14 v15 v16 v17 v18) (hP : va_P D vwCl (WSL cI cJ cZ cY q v0 v1 v2 v3 v4 v5 v6 v7 v8 v9 v10 v11 v12 v13 v14 v15 v16 v17 ++ PL cI v18) H) (hD : va_D (fun q : Nat => s.heap.size ≤ q) (WSL cI cJ cZ cY q v0 v1 v2 v3 v4 v5 v6 v7 v8 v9 v10 v11 v12 v13 v14 v15 v16 v17 ++ PL cI v18)) (hS : va_S (fun q : Nat => s.heap.size ≤ q) s.heap H locs) (hl : lv_has ls 4 [(0, .ref b), (1, .ref (q 0)), (2, .ref (q 67)), (3, .int (nI i))]) : W p l e room_1 s m #[Value.ref b] below meth c H locs (120 + k) (25000 + 300 * k) (lw_Z below #[Value.ref b] s) (F0 m 749 ls []) := by
  obtain ⟨hx, hb, hr, hml, hown, hts, hX, hbl, hlocks, hgv⟩ := C0
  have htb : ∀ w ∈ TB, w.before #[Value.ref b] s = true := fun w h => hts w (tb_tbl h)
  have hA : ∀ q : Nat, s.heap.size ≤ q → (fun q : Nat => s.heap.size ≤ q) q := fun _ h => h
  have hbA : ¬ (fun q : Nat => s.heap.size ≤ q) b := Nat.not_le.mpr hbl
  refine lv_aload_n hx hb dL_law_749 rfl (lv_at hl 1 rfl) ?_
  refine lv_aload_n hx hb dL_law_750 rfl (lv_at hl 0 rfl) ?_
  refine lv_iload_n hx hb dL_law_751 rfl (lv_at hl 3 rfl) ?_
  refine lv_iconst (v := 1) hx hb dL_law_752 (by decide) ?_
  refine lv_iadd hx hb dL_law_753 ?_
  refine va_sld hx hb hX hbl hbA hS (scr_in (j := 1) (by omega) hL rfl) dL_law_754 ?_
  refine lv_aload_n hx hb dL_law_755 rfl (lv_at hl 0 rfl) ?_
  refine lv_iload_n hx hb dL_law_756 rfl (lv_at hl 3 rfl) ?_
  refine lv_iconst (v := 2) hx hb dL_law_757 (by decide) ?_
  refine lv_iadd hx hb dL_law_758 ?_
  refine va_sld hx hb hX hbl hbA hS (scr_in (j := 2) (by omega) hL rfl) dL_law_759 ?_
  refine lv_aload_n hx hb dL_law_760 rfl (lv_at hl 0 rfl) ?_
  refine lv_iload_n hx hb dL_law_761 rfl (lv_at hl 3 rfl) ?_
  refine lv_iconst (v := 3) hx hb dL_law_762 (by decide) ?_
  refine lv_iadd hx hb dL_law_763 ?_
  refine va_sld hx hb hX hbl hbA hS (scr_in (j := 3) (by omega) hL rfl) dL_law_764 ?_
  refine lv_aload_n hx hb dL_law_765 rfl (lv_at hl 0 rfl) ?_
  refine lv_iload_n hx hb dL_law_766 rfl (lv_at hl 3 rfl) ?_
  refine lv_iconst (v := 4) hx hb dL_law_767 (by decide) ?_
  refine lv_iadd hx hb dL_law_768 ?_
  refine va_sld hx hb hX hbl hbA hS (scr_in (j := 4) (by omega) hL rfl) dL_law_769 ?_
  refine lv_aload_n hx hb dL_law_770 rfl (lv_at hl 0 rfl) ?_
  refine lv_iload_n hx hb dL_law_771 rfl (lv_at hl 3 rfl) ?_
  refine lv_iconst (v := 5) hx hb dL_law_772 (by decide) ?_
  refine lv_iadd hx hb dL_law_773 ?_
  refine va_sld hx hb hX hbl hbA hS (scr_in (j := 5) (by omega) hL rfl) dL_law_774 ?_
  obtain ⟨r, x, y, hfx, hfm, hR2⟩ := o_feed v0 v1 v2 v3 v4 v5 v6 v7 v8 v9 v10 v11 v12 v13 v14 v15 v16 v17 v18 hR (xs (nI i + 1).toNatClampNeg) (xs (nI i + 2).toNatClampNeg) (xs (nI i + 3).toNatClampNeg) (xs (nI i + 4).toNatClampNeg) (xs (nI i + 5).toNatClampNeg)
  refine cc_iQ (va_runV (C := RX11) (As := [.int (xs (nI i + 1).toNatClampNeg), .int (xs (nI i + 2).toNatClampNeg), .int (xs (nI i + 3).toNatClampNeg), .int (xs (nI i + 4).toNatClampNeg), .int (xs (nI i + 5).toNatClampNeg)]) (rest := []) ⟨hx, hb, hml, hown, htb⟩ (k_X11_feed (q 0) (q 1) (q 2) (q 4) (q 8) (q 10) (q 3) (q 6) v0 (xs (nI i + 1).toNatClampNeg) (xs (nI i + 2).toNatClampNeg) (xs (nI i + 3).toNatClampNeg) (xs (nI i + 4).toNatClampNeg) (xs (nI i + 5).toNatClampNeg) (r, x) hfx) (cw_V 5 htb tg_595 tg_1 tg_592 tg_593 tg_594 rfl rfl (by decide +kernel) ⟨Nat.le_of_ble_eq_true rfl, Nat.le_of_ble_eq_true rfl⟩) ⟨PC.blind, va_recv hK.1 hP (ci := 10) (q0 := 0) rfl rfl, PC.pre hK hT hP hD hS hA [0, 1, 2] rfl (by decide)⟩ rfl rfl hl.1 rfl (lv_room (Nat.le_of_ble_eq_true rfl)) dL_law_775 ⟨by show _ ≤ 600000; omega, by show _ ≤ 7302250; omega⟩) hP hD hS hA [0, 1, 2] [3, 4, 5, 6, 7, 8, 9, 10, 11, 12, 13, 14, 15, 16, 17, 18, 19, 20, 21, 22, 23, 24, 25, 26, 27, 28, 29, 30, 31, 32, 33, 34, 35, 36, 37, 38, 39, 40, 41, 42, 43, 44, 45, 46, 47, 48, 49, 50, 51, 52, 53, 54, 55, 56, 57, 58, 59, 60, 61, 62, 63, 64, 65, 66, 67, 68, 69, 70, 71, 72, 73, 74, 75, 76, 77, 78, 79, 80, 81] rfl rfl (by decide) (by decide) rfl (fun r8 u8 H locs hw hP hD hS => ?_)
  obtain ⟨hw, hw2⟩ := hw
  have hw : r8 = r := hw
  have hw2 : u8 = x := hw2
  subst hw
  subst hw2
  have hP : va_P D vwCl (WSL cI cJ cZ cY q u8 v1 v2 v3 v4 v5 v6 v7 v8 v9 v10 v11 v12 v13 v14 v15 v16 v17 ++ PL cI v18) H := hP.by _ (va_part (cx := WSL cI cJ cZ cY q u8 v1 v2 v3 v4 v5 v6 v7 v8 v9 v10 v11 v12 v13 v14 v15 v16 v17) [79, 80, 81, 0, 1, 2, 3, 4, 5, 6, 7, 8, 9, 10, 11, 12, 13, 14, 15, 16, 17, 18, 19, 20, 21, 22, 23, 24, 25, 26, 27, 28, 29, 30, 31, 32, 33, 34, 35, 36, 37, 38, 39, 40, 41, 42, 43, 44, 45, 46, 47, 48, 49, 50, 51, 52, 53, 54, 55, 56, 57, 58, 59, 60, 61, 62, 63, 64, 65, 66, 67, 68, 69, 70, 71, 72, 73, 74, 75, 76, 77, 78] rfl)
  have hD : va_D (fun q : Nat => s.heap.size ≤ q) (WSL cI cJ cZ cY q u8 v1 v2 v3 v4 v5 v6 v7 v8 v9 v10 v11 v12 v13 v14 v15 v16 v17 ++ PL cI v18) := hD.part (cx := WSL cI cJ cZ cY q u8 v1 v2 v3 v4 v5 v6 v7 v8 v9 v10 v11 v12 v13 v14 v15 v16 v17) [79, 80, 81, 0, 1, 2, 3, 4, 5, 6, 7, 8, 9, 10, 11, 12, 13, 14, 15, 16, 17, 18, 19, 20, 21, 22, 23, 24, 25, 26, 27, 28, 29, 30, 31, 32, 33, 34, 35, 36, 37, 38, 39, 40, 41, 42, 43, 44, 45, 46, 47, 48, 49, 50, 51, 52, 53, 54, 55, 56, 57, 58, 59, 60, 61, 62, 63, 64, 65, 66, 67, 68, 69, 70, 71, 72, 73, 74, 75, 76, 77, 78] (by decide) rfl
  refine lv_aload_n hx hb dL_law_778 rfl (lv_at hl 2 rfl) ?_
  refine lv_aload_n hx hb dL_law_779 rfl (lv_at hl 0 rfl) ?_
  refine lv_iload_n hx hb dL_law_780 rfl (lv_at hl 3 rfl) ?_
  refine lv_iconst (v := 1) hx hb dL_law_781 (by decide) ?_
  refine lv_iadd hx hb dL_law_782 ?_
  refine va_sld hx hb hX hbl hbA hS (scr_in (j := 1) (by omega) hL rfl) dL_law_783 ?_
  refine lv_aload_n hx hb dL_law_784 rfl (lv_at hl 0 rfl) ?_
  refine lv_iload_n hx hb dL_law_785 rfl (lv_at hl 3 rfl) ?_
  refine lv_iconst (v := 2) hx hb dL_law_786 (by decide) ?_
  refine lv_iadd hx hb dL_law_787 ?_
  refine va_sld hx hb hX hbl hbA hS (scr_in (j := 2) (by omega) hL rfl) dL_law_788 ?_
  refine lv_aload_n hx hb dL_law_789 rfl (lv_at hl 0 rfl) ?_
  refine lv_iload_n hx hb dL_law_790 rfl (lv_at hl 3 rfl) ?_
  refine lv_iconst (v := 3) hx hb dL_law_791 (by decide) ?_
  refine lv_iadd hx hb dL_law_792 ?_
  refine va_sld hx hb hX hbl hbA hS (scr_in (j := 3) (by omega) hL rfl) dL_law_793 ?_
  refine lv_aload_n hx hb dL_law_794 rfl (lv_at hl 0 rfl) ?_
  refine lv_iload_n hx hb dL_law_795 rfl (lv_at hl 3 rfl) ?_
  refine lv_iconst (v := 4) hx hb dL_law_796 (by decide) ?_
  refine lv_iadd hx hb dL_law_797 ?_
  refine va_sld hx hb hX hbl hbA hS (scr_in (j := 4) (by omega) hL rfl) dL_law_798 ?_
  refine lv_aload_n hx hb dL_law_799 rfl (lv_at hl 0 rfl) ?_
  refine lv_iload_n hx hb dL_law_800 rfl (lv_at hl 3 rfl) ?_
  refine lv_iconst (v := 5) hx hb dL_law_801 (by decide) ?_
  refine lv_iadd hx hb dL_law_802 ?_
  refine va_sld hx hb hX hbl hbA hS (scr_in (j := 5) (by omega) hL rfl) dL_law_803 ?_
  refine cc_iQ (va_runV (C := RX12) (As := [.int (xs (nI i + 1).toNatClampNeg), .int (xs (nI i + 2).toNatClampNeg), .int (xs (nI i + 3).toNatClampNeg), .int (xs (nI i + 4).toNatClampNeg), .int (xs (nI i + 5).toNatClampNeg)]) (rest := [.int r8]) ⟨hx, hb, hml, hown, htb⟩ (k_X12_feed (q 67) (q 68) (q 69) (q 70) (q 71) (q 72) (q 73) (q 74) (q 75) (q 76) (q 77) (q 78) (q 79) (q 80) (q 81) v17 (xs (nI i + 1).toNatClampNeg) (xs (nI i + 2).toNatClampNeg) (xs (nI i + 3).toNatClampNeg) (xs (nI i + 4).toNatClampNeg) (xs (nI i + 5).toNatClampNeg) (r8, y) hfm) (cw_V 5 htb tg_1184 tg_13 tg_1181 tg_1182 tg_1183 rfl rfl (by decide +kernel) ⟨Nat.le_of_ble_eq_true rfl, Nat.le_of_ble_eq_true rfl⟩) ⟨PC.blind, va_recv hK.1 hP (ci := 11) (q0 := 67) rfl rfl, PC.pre hK hT hP hD hS hA [67, 68, 69, 70, 71, 72, 73, 74, 75, 76, 77, 78, 79, 80, 81] rfl (by decide)⟩ rfl rfl hl.1 rfl (lv_room (Nat.le_of_ble_eq_true rfl)) dL_law_804 ⟨by show _ ≤ 600000; omega, by show _ ≤ 7302250; omega⟩) hP hD hS hA [67, 68, 69, 70, 71, 72, 73, 74, 75, 76, 77, 78, 79, 80, 81] [0, 1, 2, 3, 4, 5, 6, 7, 8, 9, 10, 11, 12, 13, 14, 15, 16, 17, 18, 19, 20, 21, 22, 23, 24, 25, 26, 27, 28, 29, 30, 31, 32, 33, 34, 35, 36, 37, 38, 39, 40, 41, 42, 43, 44, 45, 46, 47, 48, 49, 50, 51, 52, 53, 54, 55, 56, 57, 58, 59, 60, 61, 62, 63, 64, 65, 66] rfl rfl (by decide) (by decide) rfl (fun r9 u9 H locs hw hP hD hS => ?_)
  obtain ⟨hw, hw2⟩ := hw
  try dsimp only at hw hw2
  rw [hw2] at hP hD
  have hP : va_P D vwCl (WSL cI cJ cZ cY q u8 v1 v2 v3 v4 v5 v6 v7 v8 v9 v10 v11 v12 v13 v14 v15 v16 y ++ PL cI v18) H := hP.by _ (va_part (cx := WSL cI cJ cZ cY q u8 v1 v2 v3 v4 v5 v6 v7 v8 v9 v10 v11 v12 v13 v14 v15 v16 y) [0, 1, 2, 3, 4, 5, 6, 7, 8, 9, 10, 11, 12, 13, 14, 15, 16, 17, 18, 19, 20, 21, 22, 23, 24, 25, 26, 27, 28, 29, 30, 31, 32, 33, 34, 35, 36, 37, 38, 39, 40, 41, 42, 43, 44, 45, 46, 47, 48, 49, 50, 51, 52, 53, 54, 55, 56, 57, 58, 59, 60, 61, 62, 63, 64, 65, 66, 67, 68, 69, 70, 71, 72, 73, 74, 75, 76, 77, 78, 79, 80, 81] rfl)
  have hD : va_D (fun q : Nat => s.heap.size ≤ q) (WSL cI cJ cZ cY q u8 v1 v2 v3 v4 v5 v6 v7 v8 v9 v10 v11 v12 v13 v14 v15 v16 y ++ PL cI v18) := hD.part (cx := WSL cI cJ cZ cY q u8 v1 v2 v3 v4 v5 v6 v7 v8 v9 v10 v11 v12 v13 v14 v15 v16 y) [0, 1, 2, 3, 4, 5, 6, 7, 8, 9, 10, 11, 12, 13, 14, 15, 16, 17, 18, 19, 20, 21, 22, 23, 24, 25, 26, 27, 28, 29, 30, 31, 32, 33, 34, 35, 36, 37, 38, 39, 40, 41, 42, 43, 44, 45, 46, 47, 48, 49, 50, 51, 52, 53, 54, 55, 56, 57, 58, 59, 60, 61, 62, 63, 64, 65, 66, 67, 68, 69, 70, 71, 72, 73, 74, 75, 76, 77, 78, 79, 80, 81] (by decide) rfl
  refine lv_icmp_eq (tgt := 1282) hx hb dL_law_807 (by decide) (fun _ => ?_) (fun c_2 => absurd hw.symm c_2)
  exact hnext u8 v1 v2 v3 v4 v5 v6 v7 v8 v9 v10 v11 v12 v13 v14 v15 v16 y v18 H locs ls _ _ (by omega) (by omega) hR2 hP hD hS (lv_sub hl [0, 1, 2, 3] rfl)
set_option maxHeartbeats 8000000 in
set_option maxRecDepth 100000 in
theorem lc_end {p : Program} {l : Launch} {e : Env} {s : State} {m : MethodId} {below : List Frame} {meth : Method} {c : Code} {D : va_G} {cI cJ cZ cY : ClassId} {tX tY : Nat} {b L : Nat} {xs : Nat → Int32} (hL : L ≤ 4610) (C0 : lw_At p s m meth c b L xs) (hK : KU D cI cJ cZ cY s) (hT : ST tX tY (fun q : Nat => s.heap.size ≤ q) s s.heap) (q : Nat → Nat) (Rel : RelT) (o_end : Op_end Rel) {i k : Nat} (hiL : i + 9 ≤ L) (hk1 : k + 1 ≤ 512)
    (hnext : ∀ (v0 : BX11) (v1 : BX3) (v2 : BX8) (v3 : BX4) (v4 : BX8) (v5 : BX7) (v6 : BX6) (v7 : BX2) (v8 : BX1) (v9 : BX2) (v10 : BX5) (v11 : BX10) (v12 : BX9) (v13 : BX1) (v14 : BX2) (v15 : BX5) (v16 : BX10) (v17 : BX12) (v18 : PB) (H : Heap) (locs : List Loc) (ls : Array Slot) (cs ss : Nat), cs ≤ 120 + (k + 1) → ss ≤ 25000 + 300 * (k + 1) → Rel v0 v1 v2 v3 v4 v5 v6 v7 v8 v9 v10 v11 v12 v13 v14 v15 v16 v17 v18 → va_P D vwCl (WSL cI cJ cZ cY q v0 v1 v2 v3 v4 v5 v6 v7 v8 v9 v10 v11 v12 v13 v14 v15 v16 v17 ++ PL cI v18) H → va_D (fun q : Nat => s.heap.size ≤ q) (WSL cI cJ cZ cY q v0 v1 v2 v3 v4 v5 v6 v7 v8 v9 v10 v11 v12 v13 v14 v15 v16 v17 ++ PL cI v18) → va_S (fun q : Nat => s.heap.size ≤ q) s.heap H locs → lv_has ls 4 [(0, .ref b), (1, .ref (q 0)), (2, .ref (q 67)), (3, .int (nI i))] → W p l e room_1 s m #[Value.ref b] below meth c H locs cs ss (lw_Z below #[Value.ref b] s) (F0 m 1282 ls []))
    (v0 : BX11) (v1 : BX3) (v2 : BX8) (v3 : BX4) (v4 : BX8) (v5 : BX7) (v6 : BX6) (v7 : BX2) (v8 : BX1) (v9 : BX2) (v10 : BX5) (v11 : BX10) (v12 : BX9) (v13 : BX1) (v14 : BX2) (v15 : BX5) (v16 : BX10) (v17 : BX12) (v18 : PB) (H : Heap) (locs : List Loc) (ls : Array Slot) (hR : Rel v0 v1 v2 v3 v4 v5 v6 v7 v8 v9 v10 v11 v12 v13 v14 v15 v16 v17 v18) (hP : va_P D vwCl (WSL cI cJ cZ cY q v0 v1 v2 v3 v4 v5 v6 v7 v8 v9 v10 v11 v12 v13 v14 v15 v16 v17 ++ PL cI v18) H) (hD : va_D (fun q : Nat => s.heap.size ≤ q) (WSL cI cJ cZ cY q v0 v1 v2 v3 v4 v5 v6 v7 v8 v9 v10 v11 v12 v13 v14 v15 v16 v17 ++ PL cI v18)) (hS : va_S (fun q : Nat => s.heap.size ≤ q) s.heap H locs) (hl : lv_has ls 4 [(0, .ref b), (1, .ref (q 0)), (2, .ref (q 67)), (3, .int (nI i))]) : W p l e room_1 s m #[Value.ref b] below meth c H locs (120 + k) (25000 + 300 * k) (lw_Z below #[Value.ref b] s) (F0 m 812 ls []) := by
  obtain ⟨hx, hb, hr, hml, hown, hts, hX, hbl, hlocks, hgv⟩ := C0
  have htb : ∀ w ∈ TB, w.before #[Value.ref b] s = true := fun w h => hts w (tb_tbl h)
  have hA : ∀ q : Nat, s.heap.size ≤ q → (fun q : Nat => s.heap.size ≤ q) q := fun _ h => h
  have hbA : ¬ (fun q : Nat => s.heap.size ≤ q) b := Nat.not_le.mpr hbl
  refine lv_aload_n hx hb dL_law_812 rfl (lv_at hl 1 rfl) ?_
  refine lv_aload_n hx hb dL_law_813 rfl (lv_at hl 0 rfl) ?_
  refine lv_iload_n hx hb dL_law_814 rfl (lv_at hl 3 rfl) ?_
  refine lv_iconst (v := 1) hx hb dL_law_815 (by decide) ?_
  refine lv_iadd hx hb dL_law_816 ?_
  refine va_sld hx hb hX hbl hbA hS (scr_in (j := 1) (by omega) hL rfl) dL_law_817 ?_
  obtain ⟨r, x, y, hfx, hfm, hR2⟩ := o_end v0 v1 v2 v3 v4 v5 v6 v7 v8 v9 v10 v11 v12 v13 v14 v15 v16 v17 v18 hR (xs (nI i + 1).toNatClampNeg)
  refine cc_iQ (va_runV (C := RX11) (As := [.int (xs (nI i + 1).toNatClampNeg)]) (rest := []) ⟨hx, hb, hml, hown, htb⟩ (k_X11_end (q 0) (q 1) (q 2) (q 4) (q 8) (q 10) (q 3) (q 6) v0 (xs (nI i + 1).toNatClampNeg) (r, x) hfx) (cw_V 1 htb tg_603 tg_1 tg_600 tg_601 tg_602 rfl rfl (by decide +kernel) ⟨Nat.le_of_ble_eq_true rfl, Nat.le_of_ble_eq_true rfl⟩) ⟨PC.blind, va_recv hK.1 hP (ci := 10) (q0 := 0) rfl rfl, PC.pre hK hT hP hD hS hA [0, 1, 2] rfl (by decide)⟩ rfl rfl hl.1 rfl (lv_room (Nat.le_of_ble_eq_true rfl)) dL_law_818 ⟨by show _ ≤ 600000; omega, by show _ ≤ 7302250; omega⟩) hP hD hS hA [0, 1, 2] [3, 4, 5, 6, 7, 8, 9, 10, 11, 12, 13, 14, 15, 16, 17, 18, 19, 20, 21, 22, 23, 24, 25, 26, 27, 28, 29, 30, 31, 32, 33, 34, 35, 36, 37, 38, 39, 40, 41, 42, 43, 44, 45, 46, 47, 48, 49, 50, 51, 52, 53, 54, 55, 56, 57, 58, 59, 60, 61, 62, 63, 64, 65, 66, 67, 68, 69, 70, 71, 72, 73, 74, 75, 76, 77, 78, 79, 80, 81] rfl rfl (by decide) (by decide) rfl (fun r8 u8 H locs hw hP hD hS => ?_)
  obtain ⟨hw, hw2⟩ := hw
  have hw : r8 = r := hw
  have hw2 : u8 = x := hw2
  subst hw
  subst hw2
  have hP : va_P D vwCl (WSL cI cJ cZ cY q u8 v1 v2 v3 v4 v5 v6 v7 v8 v9 v10 v11 v12 v13 v14 v15 v16 v17 ++ PL cI v18) H := hP.by _ (va_part (cx := WSL cI cJ cZ cY q u8 v1 v2 v3 v4 v5 v6 v7 v8 v9 v10 v11 v12 v13 v14 v15 v16 v17) [79, 80, 81, 0, 1, 2, 3, 4, 5, 6, 7, 8, 9, 10, 11, 12, 13, 14, 15, 16, 17, 18, 19, 20, 21, 22, 23, 24, 25, 26, 27, 28, 29, 30, 31, 32, 33, 34, 35, 36, 37, 38, 39, 40, 41, 42, 43, 44, 45, 46, 47, 48, 49, 50, 51, 52, 53, 54, 55, 56, 57, 58, 59, 60, 61, 62, 63, 64, 65, 66, 67, 68, 69, 70, 71, 72, 73, 74, 75, 76, 77, 78] rfl)
  have hD : va_D (fun q : Nat => s.heap.size ≤ q) (WSL cI cJ cZ cY q u8 v1 v2 v3 v4 v5 v6 v7 v8 v9 v10 v11 v12 v13 v14 v15 v16 v17 ++ PL cI v18) := hD.part (cx := WSL cI cJ cZ cY q u8 v1 v2 v3 v4 v5 v6 v7 v8 v9 v10 v11 v12 v13 v14 v15 v16 v17) [79, 80, 81, 0, 1, 2, 3, 4, 5, 6, 7, 8, 9, 10, 11, 12, 13, 14, 15, 16, 17, 18, 19, 20, 21, 22, 23, 24, 25, 26, 27, 28, 29, 30, 31, 32, 33, 34, 35, 36, 37, 38, 39, 40, 41, 42, 43, 44, 45, 46, 47, 48, 49, 50, 51, 52, 53, 54, 55, 56, 57, 58, 59, 60, 61, 62, 63, 64, 65, 66, 67, 68, 69, 70, 71, 72, 73, 74, 75, 76, 77, 78] (by decide) rfl
  refine lv_aload_n hx hb dL_law_821 rfl (lv_at hl 2 rfl) ?_
  refine lv_aload_n hx hb dL_law_822 rfl (lv_at hl 0 rfl) ?_
  refine lv_iload_n hx hb dL_law_823 rfl (lv_at hl 3 rfl) ?_
  refine lv_iconst (v := 1) hx hb dL_law_824 (by decide) ?_
  refine lv_iadd hx hb dL_law_825 ?_
  refine va_sld hx hb hX hbl hbA hS (scr_in (j := 1) (by omega) hL rfl) dL_law_826 ?_
  refine cc_iQ (va_runV (C := RX12) (As := [.int (xs (nI i + 1).toNatClampNeg)]) (rest := [.int r8]) ⟨hx, hb, hml, hown, htb⟩ (k_X12_end (q 67) (q 68) (q 69) (q 70) (q 71) (q 72) (q 73) (q 74) (q 75) (q 76) (q 77) (q 78) (q 79) (q 80) (q 81) v17 (xs (nI i + 1).toNatClampNeg) (r8, y) hfm) (cw_V 1 htb tg_1192 tg_13 tg_1189 tg_1190 tg_1191 rfl rfl (by decide +kernel) ⟨Nat.le_of_ble_eq_true rfl, Nat.le_of_ble_eq_true rfl⟩) ⟨PC.blind, va_recv hK.1 hP (ci := 11) (q0 := 67) rfl rfl, PC.pre hK hT hP hD hS hA [67, 68, 69, 70, 71, 72, 73, 74, 75, 76, 77, 78, 79, 80, 81] rfl (by decide)⟩ rfl rfl hl.1 rfl (lv_room (Nat.le_of_ble_eq_true rfl)) dL_law_827 ⟨by show _ ≤ 600000; omega, by show _ ≤ 7302250; omega⟩) hP hD hS hA [67, 68, 69, 70, 71, 72, 73, 74, 75, 76, 77, 78, 79, 80, 81] [0, 1, 2, 3, 4, 5, 6, 7, 8, 9, 10, 11, 12, 13, 14, 15, 16, 17, 18, 19, 20, 21, 22, 23, 24, 25, 26, 27, 28, 29, 30, 31, 32, 33, 34, 35, 36, 37, 38, 39, 40, 41, 42, 43, 44, 45, 46, 47, 48, 49, 50, 51, 52, 53, 54, 55, 56, 57, 58, 59, 60, 61, 62, 63, 64, 65, 66] rfl rfl (by decide) (by decide) rfl (fun r9 u9 H locs hw hP hD hS => ?_)
  obtain ⟨hw, hw2⟩ := hw
  try dsimp only at hw hw2
  rw [hw2] at hP hD
  have hP : va_P D vwCl (WSL cI cJ cZ cY q u8 v1 v2 v3 v4 v5 v6 v7 v8 v9 v10 v11 v12 v13 v14 v15 v16 y ++ PL cI v18) H := hP.by _ (va_part (cx := WSL cI cJ cZ cY q u8 v1 v2 v3 v4 v5 v6 v7 v8 v9 v10 v11 v12 v13 v14 v15 v16 y) [0, 1, 2, 3, 4, 5, 6, 7, 8, 9, 10, 11, 12, 13, 14, 15, 16, 17, 18, 19, 20, 21, 22, 23, 24, 25, 26, 27, 28, 29, 30, 31, 32, 33, 34, 35, 36, 37, 38, 39, 40, 41, 42, 43, 44, 45, 46, 47, 48, 49, 50, 51, 52, 53, 54, 55, 56, 57, 58, 59, 60, 61, 62, 63, 64, 65, 66, 67, 68, 69, 70, 71, 72, 73, 74, 75, 76, 77, 78, 79, 80, 81] rfl)
  have hD : va_D (fun q : Nat => s.heap.size ≤ q) (WSL cI cJ cZ cY q u8 v1 v2 v3 v4 v5 v6 v7 v8 v9 v10 v11 v12 v13 v14 v15 v16 y ++ PL cI v18) := hD.part (cx := WSL cI cJ cZ cY q u8 v1 v2 v3 v4 v5 v6 v7 v8 v9 v10 v11 v12 v13 v14 v15 v16 y) [0, 1, 2, 3, 4, 5, 6, 7, 8, 9, 10, 11, 12, 13, 14, 15, 16, 17, 18, 19, 20, 21, 22, 23, 24, 25, 26, 27, 28, 29, 30, 31, 32, 33, 34, 35, 36, 37, 38, 39, 40, 41, 42, 43, 44, 45, 46, 47, 48, 49, 50, 51, 52, 53, 54, 55, 56, 57, 58, 59, 60, 61, 62, 63, 64, 65, 66, 67, 68, 69, 70, 71, 72, 73, 74, 75, 76, 77, 78, 79, 80, 81] (by decide) rfl
  refine lv_icmp_eq (tgt := 1282) hx hb dL_law_830 (by decide) (fun _ => ?_) (fun c_2 => absurd hw.symm c_2)
  exact hnext u8 v1 v2 v3 v4 v5 v6 v7 v8 v9 v10 v11 v12 v13 v14 v15 v16 y v18 H locs ls _ _ (by omega) (by omega) hR2 hP hD hS (lv_sub hl [0, 1, 2, 3] rfl)
set_option maxHeartbeats 8000000 in
set_option maxRecDepth 100000 in
theorem lc_rule {p : Program} {l : Launch} {e : Env} {s : State} {m : MethodId} {below : List Frame} {meth : Method} {c : Code} {D : va_G} {cI cJ cZ cY : ClassId} {tX tY : Nat} {b L : Nat} {xs : Nat → Int32} (hL : L ≤ 4610) (C0 : lw_At p s m meth c b L xs) (hK : KU D cI cJ cZ cY s) (hT : ST tX tY (fun q : Nat => s.heap.size ≤ q) s s.heap) (q : Nat → Nat) (Rel : RelT) (o_rule : Op_rule Rel) {i k : Nat} (hiL : i + 9 ≤ L) (hk1 : k + 1 ≤ 512)
    (hnext : ∀ (v0 : BX11) (v1 : BX3) (v2 : BX8) (v3 : BX4) (v4 : BX8) (v5 : BX7) (v6 : BX6) (v7 : BX2) (v8 : BX1) (v9 : BX2) (v10 : BX5) (v11 : BX10) (v12 : BX9) (v13 : BX1) (v14 : BX2) (v15 : BX5) (v16 : BX10) (v17 : BX12) (v18 : PB) (H : Heap) (locs : List Loc) (ls : Array Slot) (cs ss : Nat), cs ≤ 120 + (k + 1) → ss ≤ 25000 + 300 * (k + 1) → Rel v0 v1 v2 v3 v4 v5 v6 v7 v8 v9 v10 v11 v12 v13 v14 v15 v16 v17 v18 → va_P D vwCl (WSL cI cJ cZ cY q v0 v1 v2 v3 v4 v5 v6 v7 v8 v9 v10 v11 v12 v13 v14 v15 v16 v17 ++ PL cI v18) H → va_D (fun q : Nat => s.heap.size ≤ q) (WSL cI cJ cZ cY q v0 v1 v2 v3 v4 v5 v6 v7 v8 v9 v10 v11 v12 v13 v14 v15 v16 v17 ++ PL cI v18) → va_S (fun q : Nat => s.heap.size ≤ q) s.heap H locs → lv_has ls 4 [(0, .ref b), (1, .ref (q 0)), (2, .ref (q 67)), (3, .int (nI i))] → W p l e room_1 s m #[Value.ref b] below meth c H locs cs ss (lw_Z below #[Value.ref b] s) (F0 m 1282 ls []))
    (v0 : BX11) (v1 : BX3) (v2 : BX8) (v3 : BX4) (v4 : BX8) (v5 : BX7) (v6 : BX6) (v7 : BX2) (v8 : BX1) (v9 : BX2) (v10 : BX5) (v11 : BX10) (v12 : BX9) (v13 : BX1) (v14 : BX2) (v15 : BX5) (v16 : BX10) (v17 : BX12) (v18 : PB) (H : Heap) (locs : List Loc) (ls : Array Slot) (hR : Rel v0 v1 v2 v3 v4 v5 v6 v7 v8 v9 v10 v11 v12 v13 v14 v15 v16 v17 v18) (hP : va_P D vwCl (WSL cI cJ cZ cY q v0 v1 v2 v3 v4 v5 v6 v7 v8 v9 v10 v11 v12 v13 v14 v15 v16 v17 ++ PL cI v18) H) (hD : va_D (fun q : Nat => s.heap.size ≤ q) (WSL cI cJ cZ cY q v0 v1 v2 v3 v4 v5 v6 v7 v8 v9 v10 v11 v12 v13 v14 v15 v16 v17 ++ PL cI v18)) (hS : va_S (fun q : Nat => s.heap.size ≤ q) s.heap H locs) (hl : lv_has ls 4 [(0, .ref b), (1, .ref (q 0)), (2, .ref (q 67)), (3, .int (nI i))]) : W p l e room_1 s m #[Value.ref b] below meth c H locs (120 + k) (25000 + 300 * k) (lw_Z below #[Value.ref b] s) (F0 m 835 ls []) := by
  obtain ⟨hx, hb, hr, hml, hown, hts, hX, hbl, hlocks, hgv⟩ := C0
  have htb : ∀ w ∈ TB, w.before #[Value.ref b] s = true := fun w h => hts w (tb_tbl h)
  have hA : ∀ q : Nat, s.heap.size ≤ q → (fun q : Nat => s.heap.size ≤ q) q := fun _ h => h
  have hbA : ¬ (fun q : Nat => s.heap.size ≤ q) b := Nat.not_le.mpr hbl
  refine lv_aload_n hx hb dL_law_835 rfl (lv_at hl 1 rfl) ?_
  obtain ⟨r, x, y, hfx, hfm, hR2⟩ := o_rule v0 v1 v2 v3 v4 v5 v6 v7 v8 v9 v10 v11 v12 v13 v14 v15 v16 v17 v18 hR
  refine cc_iP (va_runV (C := RX11) (As := []) (rest := []) ⟨hx, hb, hml, hown, htb⟩ (k_X11_rule (q 0) (q 1) (q 2) (q 8) (q 10) (q 3) (q 4) (q 5) (q 34) (q 19) (q 28) (q 25) (q 6) (q 7) (q 41) (q 42) (q 43) (q 44) v0 v2 v3 v12 v18 (r, x) hfx) (cw_V 0 htb tg_607 tg_1 tg_604 tg_605 tg_606 rfl rfl (by decide +kernel) ⟨Nat.le_of_ble_eq_true rfl, Nat.le_of_ble_eq_true rfl⟩) ⟨PC.blind, va_recv hK.1 hP (ci := 10) (q0 := 0) rfl rfl, PC.preP hK hT hP hD hS hA [0, 1, 2, 4, 5, 6, 7, 41, 42, 43, 44] rfl (by decide)⟩ rfl rfl hl.1 rfl (lv_room (Nat.le_of_ble_eq_true rfl)) dL_law_836 ⟨by show _ ≤ 600000; omega, by show _ ≤ 7302250; omega⟩) hP hD hS hA [0, 1, 2, 4, 5, 6, 7, 41, 42, 43, 44] [3, 8, 9, 10, 11, 12, 13, 14, 15, 16, 17, 18, 19, 20, 21, 22, 23, 24, 25, 26, 27, 28, 29, 30, 31, 32, 33, 34, 35, 36, 37, 38, 39, 40, 45, 46, 47, 48, 49, 50, 51, 52, 53, 54, 55, 56, 57, 58, 59, 60, 61, 62, 63, 64, 65, 66, 67, 68, 69, 70, 71, 72, 73, 74, 75, 76, 77, 78, 79, 80, 81] rfl rfl (by decide) (by decide) (fun r8 u8 H locs hw hP hD hS => ?_)
  obtain ⟨hw, hfr⟩ := hw
  have hw : r8 = r := hw
  subst hw
  have hR2 := hR2 u8 hfr
  have hP : va_P D vwCl (WSL cI cJ cZ cY q x.1 v1 (sX8_codes x.2.1 (cdPut (pX8_codes x.2.1) r8 u8 x.2.2.2.2)) x.2.2.1 v4 v5 v6 v7 v8 v9 v10 v11 x.2.2.2.1 v13 v14 v15 v16 v17 ++ PL cI (pbPut v18 u8 x.2.2.2.2)) H := hP.by _ (va_part (cx := WSL cI cJ cZ cY q x.1 v1 (sX8_codes x.2.1 (cdPut (pX8_codes x.2.1) r8 u8 x.2.2.2.2)) x.2.2.1 v4 v5 v6 v7 v8 v9 v10 v11 x.2.2.2.1 v13 v14 v15 v16 v17) [71, 72, 73, 0, 74, 75, 76, 77, 1, 2, 3, 4, 5, 6, 7, 8, 9, 10, 11, 12, 13, 14, 15, 16, 17, 18, 19, 20, 21, 22, 23, 24, 25, 26, 27, 28, 29, 30, 31, 32, 33, 78, 79, 80, 81, 34, 35, 36, 37, 38, 39, 40, 41, 42, 43, 44, 45, 46, 47, 48, 49, 50, 51, 52, 53, 54, 55, 56, 57, 58, 59, 60, 61, 62, 63, 64, 65, 66, 67, 68, 69, 70] rfl)
  have hD : va_D (fun q : Nat => s.heap.size ≤ q) (WSL cI cJ cZ cY q x.1 v1 (sX8_codes x.2.1 (cdPut (pX8_codes x.2.1) r8 u8 x.2.2.2.2)) x.2.2.1 v4 v5 v6 v7 v8 v9 v10 v11 x.2.2.2.1 v13 v14 v15 v16 v17 ++ PL cI (pbPut v18 u8 x.2.2.2.2)) := hD.part (cx := WSL cI cJ cZ cY q x.1 v1 (sX8_codes x.2.1 (cdPut (pX8_codes x.2.1) r8 u8 x.2.2.2.2)) x.2.2.1 v4 v5 v6 v7 v8 v9 v10 v11 x.2.2.2.1 v13 v14 v15 v16 v17) [71, 72, 73, 0, 74, 75, 76, 77, 1, 2, 3, 4, 5, 6, 7, 8, 9, 10, 11, 12, 13, 14, 15, 16, 17, 18, 19, 20, 21, 22, 23, 24, 25, 26, 27, 28, 29, 30, 31, 32, 33, 78, 79, 80, 81, 34, 35, 36, 37, 38, 39, 40, 41, 42, 43, 44, 45, 46, 47, 48, 49, 50, 51, 52, 53, 54, 55, 56, 57, 58, 59, 60, 61, 62, 63, 64, 65, 66, 67, 68, 69, 70] (by decide) rfl
  refine lv_aload_n hx hb dL_law_839 rfl (lv_at hl 2 rfl) ?_
  refine cc_iQ (va_runV (C := RX12) (As := []) (rest := [.int r8]) ⟨hx, hb, hml, hown, htb⟩ (k_X12_rule (q 67) (q 68) (q 69) (q 70) (q 71) (q 72) (q 73) (q 74) (q 75) (q 76) (q 77) (q 78) (q 79) (q 80) (q 81) v17 (r8, y) hfm) (cw_V 0 htb tg_1196 tg_13 tg_1193 tg_1194 tg_1195 rfl rfl (by decide +kernel) ⟨Nat.le_of_ble_eq_true rfl, Nat.le_of_ble_eq_true rfl⟩) ⟨PC.blind, va_recv hK.1 hP (ci := 11) (q0 := 67) rfl rfl, PC.pre hK hT hP hD hS hA [67, 68, 69, 70, 71, 72, 73, 74, 75, 76, 77, 78, 79, 80, 81] rfl (by decide)⟩ rfl rfl hl.1 rfl (lv_room (Nat.le_of_ble_eq_true rfl)) dL_law_840 ⟨by show _ ≤ 600000; omega, by show _ ≤ 7302250; omega⟩) hP hD hS hA [67, 68, 69, 70, 71, 72, 73, 74, 75, 76, 77, 78, 79, 80, 81] [0, 1, 2, 3, 4, 5, 6, 7, 8, 9, 10, 11, 12, 13, 14, 15, 16, 17, 18, 19, 20, 21, 22, 23, 24, 25, 26, 27, 28, 29, 30, 31, 32, 33, 34, 35, 36, 37, 38, 39, 40, 41, 42, 43, 44, 45, 46, 47, 48, 49, 50, 51, 52, 53, 54, 55, 56, 57, 58, 59, 60, 61, 62, 63, 64, 65, 66] rfl rfl (by decide) (by decide) rfl (fun r9 u9 H locs hw hP hD hS => ?_)
  obtain ⟨hw, hw2⟩ := hw
  try dsimp only at hw hw2
  rw [hw2] at hP hD
  have hP : va_P D vwCl (WSL cI cJ cZ cY q x.1 v1 (sX8_codes x.2.1 (cdPut (pX8_codes x.2.1) r8 u8 x.2.2.2.2)) x.2.2.1 v4 v5 v6 v7 v8 v9 v10 v11 x.2.2.2.1 v13 v14 v15 v16 y ++ PL cI (pbPut v18 u8 x.2.2.2.2)) H := hP.by _ (va_part (cx := WSL cI cJ cZ cY q x.1 v1 (sX8_codes x.2.1 (cdPut (pX8_codes x.2.1) r8 u8 x.2.2.2.2)) x.2.2.1 v4 v5 v6 v7 v8 v9 v10 v11 x.2.2.2.1 v13 v14 v15 v16 y) [0, 1, 2, 3, 4, 5, 6, 7, 8, 9, 10, 11, 12, 13, 14, 15, 16, 17, 18, 19, 20, 21, 22, 23, 24, 25, 26, 27, 28, 29, 30, 31, 32, 33, 34, 35, 36, 37, 38, 39, 40, 41, 42, 43, 44, 45, 46, 47, 48, 49, 50, 51, 52, 53, 54, 55, 56, 57, 58, 59, 60, 61, 62, 63, 64, 65, 66, 67, 68, 69, 70, 71, 72, 73, 74, 75, 76, 77, 78, 79, 80, 81] rfl)
  have hD : va_D (fun q : Nat => s.heap.size ≤ q) (WSL cI cJ cZ cY q x.1 v1 (sX8_codes x.2.1 (cdPut (pX8_codes x.2.1) r8 u8 x.2.2.2.2)) x.2.2.1 v4 v5 v6 v7 v8 v9 v10 v11 x.2.2.2.1 v13 v14 v15 v16 y ++ PL cI (pbPut v18 u8 x.2.2.2.2)) := hD.part (cx := WSL cI cJ cZ cY q x.1 v1 (sX8_codes x.2.1 (cdPut (pX8_codes x.2.1) r8 u8 x.2.2.2.2)) x.2.2.1 v4 v5 v6 v7 v8 v9 v10 v11 x.2.2.2.1 v13 v14 v15 v16 y) [0, 1, 2, 3, 4, 5, 6, 7, 8, 9, 10, 11, 12, 13, 14, 15, 16, 17, 18, 19, 20, 21, 22, 23, 24, 25, 26, 27, 28, 29, 30, 31, 32, 33, 34, 35, 36, 37, 38, 39, 40, 41, 42, 43, 44, 45, 46, 47, 48, 49, 50, 51, 52, 53, 54, 55, 56, 57, 58, 59, 60, 61, 62, 63, 64, 65, 66, 67, 68, 69, 70, 71, 72, 73, 74, 75, 76, 77, 78, 79, 80, 81] (by decide) rfl
  refine lv_icmp_eq (tgt := 1282) hx hb dL_law_843 (by decide) (fun _ => ?_) (fun c_2 => absurd hw.symm c_2)
  exact hnext x.1 v1 (sX8_codes x.2.1 (cdPut (pX8_codes x.2.1) r8 u8 x.2.2.2.2)) x.2.2.1 v4 v5 v6 v7 v8 v9 v10 v11 x.2.2.2.1 v13 v14 v15 v16 y (pbPut v18 u8 x.2.2.2.2) H locs ls _ _ (by omega) (by omega) hR2 hP hD hS (lv_sub hl [0, 1, 2, 3] rfl)
