set_option maxHeartbeats 8000000 in
set_option maxRecDepth 100000 in
theorem lc_fault {p : Program} {l : Launch} {e : Env} {s : State} {m : MethodId} {below : List Frame} {meth : Method} {c : Code} {D : va_G} {cI cJ cZ cY : ClassId} {tX tY : Nat} {b L : Nat} {xs : Nat → Int32} (hL : L ≤ 4610) (C0 : lw_At p s m meth c b L xs) (hK : KU D cI cJ cZ cY s) (hT : ST tX tY (fun q : Nat => s.heap.size ≤ q) s s.heap) (q : Nat → Nat) (Rel : RelT) (o_fault : Op_fault Rel) {i k : Nat} (hiL : i + 9 ≤ L) (hk1 : k + 1 ≤ 512)
    (hnext : ∀ (v0 : BX11) (v1 : BX3) (v2 : BX8) (v3 : BX4) (v4 : BX8) (v5 : BX7) (v6 : BX6) (v7 : BX2) (v8 : BX1) (v9 : BX2) (v10 : BX5) (v11 : BX10) (v12 : BX9) (v13 : BX1) (v14 : BX2) (v15 : BX5) (v16 : BX10) (v17 : BX12) (v18 : PB) (H : Heap) (locs : List Loc) (ls : Array Slot) (cs ss : Nat), cs ≤ 120 + (k + 1) → ss ≤ 25000 + 300 * (k + 1) → Rel v0 v1 v2 v3 v4 v5 v6 v7 v8 v9 v10 v11 v12 v13 v14 v15 v16 v17 v18 → va_P D vwCl (WSL cI cJ cZ cY q v0 v1 v2 v3 v4 v5 v6 v7 v8 v9 v10 v11 v12 v13 v14 v15 v16 v17 ++ PL cI v18) H → va_D (fun q : Nat => s.heap.size ≤ q) (WSL cI cJ cZ cY q v0 v1 v2 v3 v4 v5 v6 v7 v8 v9 v10 v11 v12 v13 v14 v15 v16 v17 ++ PL cI v18) → va_S (fun q : Nat => s.heap.size ≤ q) s.heap H locs → lv_has ls 4 [(0, .ref b), (1, .ref (q 0)), (2, .ref (q 67)), (3, .int (nI i))] → W p l e room_1 s m #[Value.ref b] below meth c H locs cs ss (lw_Z below #[Value.ref b] s) (F0 m 1282 ls []))
    (v0 : BX11) (v1 : BX3) (v2 : BX8) (v3 : BX4) (v4 : BX8) (v5 : BX7) (v6 : BX6) (v7 : BX2) (v8 : BX1) (v9 : BX2) (v10 : BX5) (v11 : BX10) (v12 : BX9) (v13 : BX1) (v14 : BX2) (v15 : BX5) (v16 : BX10) (v17 : BX12) (v18 : PB) (H : Heap) (locs : List Loc) (ls : Array Slot) (hR : Rel v0 v1 v2 v3 v4 v5 v6 v7 v8 v9 v10 v11 v12 v13 v14 v15 v16 v17 v18) (hP : va_P D vwCl (WSL cI cJ cZ cY q v0 v1 v2 v3 v4 v5 v6 v7 v8 v9 v10 v11 v12 v13 v14 v15 v16 v17 ++ PL cI v18) H) (hD : va_D (fun q : Nat => s.heap.size ≤ q) (WSL cI cJ cZ cY q v0 v1 v2 v3 v4 v5 v6 v7 v8 v9 v10 v11 v12 v13 v14 v15 v16 v17 ++ PL cI v18)) (hS : va_S (fun q : Nat => s.heap.size ≤ q) s.heap H locs) (hl : lv_has ls 4 [(0, .ref b), (1, .ref (q 0)), (2, .ref (q 67)), (3, .int (nI i))]) : W p l e room_1 s m #[Value.ref b] below meth c H locs (120 + k) (25000 + 300 * k) (lw_Z below #[Value.ref b] s) (F0 m 848 ls []) := by
  obtain ⟨hx, hb, hr, hml, hown, hts, hX, hbl, hlocks, hgv⟩ := C0
  have htb : ∀ w ∈ TB, w.before #[Value.ref b] s = true := fun w h => hts w (tb_tbl h)
  have hA : ∀ q : Nat, s.heap.size ≤ q → (fun q : Nat => s.heap.size ≤ q) q := fun _ h => h
  have hbA : ¬ (fun q : Nat => s.heap.size ≤ q) b := Nat.not_le.mpr hbl
  refine lv_aload_n hx hb dL_law_848 rfl (lv_at hl 1 rfl) ?_
  refine lv_aload_n hx hb dL_law_849 rfl (lv_at hl 0 rfl) ?_
  refine lv_iload_n hx hb dL_law_850 rfl (lv_at hl 3 rfl) ?_
  refine lv_iconst (v := 1) hx hb dL_law_851 (by decide) ?_
  refine lv_iadd hx hb dL_law_852 ?_
  refine va_sld hx hb hX hbl hbA hS (scr_in (j := 1) (by omega) hL rfl) dL_law_853 ?_
  obtain ⟨r, hfx, hfm, hR2⟩ := o_fault v0 v1 v2 v3 v4 v5 v6 v7 v8 v9 v10 v11 v12 v13 v14 v15 v16 v17 v18 hR (xs (nI i + 1).toNatClampNeg)
  refine cc_iQ (va_runV (C := RX11) (As := [.int (xs (nI i + 1).toNatClampNeg)]) (rest := []) ⟨hx, hb, hml, hown, htb⟩ (k_X11_fault (q 0) (q 1) (q 2) (q 4) (q 8) (q 10) (q 3) (q 6) (q 7) (q 41) v0 v3 (xs (nI i + 1).toNatClampNeg) r hfx) (cw_V 1 htb tg_728 tg_1 tg_725 tg_726 tg_727 rfl rfl (by decide +kernel) ⟨Nat.le_of_ble_eq_true rfl, Nat.le_of_ble_eq_true rfl⟩) ⟨PC.blind, va_recv hK.1 hP (ci := 10) (q0 := 0) rfl rfl, PC.pre hK hT hP hD hS hA [0, 6, 7] rfl (by decide)⟩ rfl rfl hl.1 rfl (lv_room (Nat.le_of_ble_eq_true rfl)) dL_law_854 ⟨by show _ ≤ 600000; omega, by show _ ≤ 7302250; omega⟩) hP hD hS hA [0, 6, 7] [1, 2, 3, 4, 5, 8, 9, 10, 11, 12, 13, 14, 15, 16, 17, 18, 19, 20, 21, 22, 23, 24, 25, 26, 27, 28, 29, 30, 31, 32, 33, 34, 35, 36, 37, 38, 39, 40, 41, 42, 43, 44, 45, 46, 47, 48, 49, 50, 51, 52, 53, 54, 55, 56, 57, 58, 59, 60, 61, 62, 63, 64, 65, 66, 67, 68, 69, 70, 71, 72, 73, 74, 75, 76, 77, 78, 79, 80, 81] rfl rfl (by decide) (by decide) rfl (fun r8 u8 H locs hw hP hD hS => ?_)
  have hw : r8 = r := hw
  subst hw
  have hP : va_P D vwCl (WSL cI cJ cZ cY q v0 v1 v2 v3 v4 v5 v6 v7 v8 v9 v10 v11 v12 v13 v14 v15 v16 v17 ++ PL cI v18) H := hP.by _ (va_part (cx := WSL cI cJ cZ cY q v0 v1 v2 v3 v4 v5 v6 v7 v8 v9 v10 v11 v12 v13 v14 v15 v16 v17) [79, 0, 1, 2, 3, 4, 80, 81, 5, 6, 7, 8, 9, 10, 11, 12, 13, 14, 15, 16, 17, 18, 19, 20, 21, 22, 23, 24, 25, 26, 27, 28, 29, 30, 31, 32, 33, 34, 35, 36, 37, 38, 39, 40, 41, 42, 43, 44, 45, 46, 47, 48, 49, 50, 51, 52, 53, 54, 55, 56, 57, 58, 59, 60, 61, 62, 63, 64, 65, 66, 67, 68, 69, 70, 71, 72, 73, 74, 75, 76, 77, 78] rfl)
  have hD : va_D (fun q : Nat => s.heap.size ≤ q) (WSL cI cJ cZ cY q v0 v1 v2 v3 v4 v5 v6 v7 v8 v9 v10 v11 v12 v13 v14 v15 v16 v17 ++ PL cI v18) := hD.part (cx := WSL cI cJ cZ cY q v0 v1 v2 v3 v4 v5 v6 v7 v8 v9 v10 v11 v12 v13 v14 v15 v16 v17) [79, 0, 1, 2, 3, 4, 80, 81, 5, 6, 7, 8, 9, 10, 11, 12, 13, 14, 15, 16, 17, 18, 19, 20, 21, 22, 23, 24, 25, 26, 27, 28, 29, 30, 31, 32, 33, 34, 35, 36, 37, 38, 39, 40, 41, 42, 43, 44, 45, 46, 47, 48, 49, 50, 51, 52, 53, 54, 55, 56, 57, 58, 59, 60, 61, 62, 63, 64, 65, 66, 67, 68, 69, 70, 71, 72, 73, 74, 75, 76, 77, 78] (by decide) rfl
  refine lv_aload_n hx hb dL_law_857 rfl (lv_at hl 2 rfl) ?_
  refine lv_aload_n hx hb dL_law_858 rfl (lv_at hl 0 rfl) ?_
  refine lv_iload_n hx hb dL_law_859 rfl (lv_at hl 3 rfl) ?_
  refine lv_iconst (v := 1) hx hb dL_law_860 (by decide) ?_
  refine lv_iadd hx hb dL_law_861 ?_
  refine va_sld hx hb hX hbl hbA hS (scr_in (j := 1) (by omega) hL rfl) dL_law_862 ?_
  refine cc_iQ (va_runV (C := RX12) (As := [.int (xs (nI i + 1).toNatClampNeg)]) (rest := [.int r8]) ⟨hx, hb, hml, hown, htb⟩ (k_X12_fault (q 67) (q 68) (q 69) (q 70) (q 71) (q 72) (q 73) (q 74) (q 75) (q 76) (q 77) (q 78) (q 79) (q 80) (q 81) v17 (xs (nI i + 1).toNatClampNeg) r8 hfm) (cw_V 1 htb tg_1297 tg_13 tg_1294 tg_1295 tg_1296 rfl rfl (by decide +kernel) ⟨Nat.le_of_ble_eq_true rfl, Nat.le_of_ble_eq_true rfl⟩) ⟨PC.blind, va_recv hK.1 hP (ci := 11) (q0 := 67) rfl rfl, PC.pre hK hT hP hD hS hA [67, 68, 69, 70, 71, 72, 73, 74, 75, 76, 77, 78, 79, 80, 81] rfl (by decide)⟩ rfl rfl hl.1 rfl (lv_room (Nat.le_of_ble_eq_true rfl)) dL_law_863 ⟨by show _ ≤ 600000; omega, by show _ ≤ 7302250; omega⟩) hP hD hS hA [67, 68, 69, 70, 71, 72, 73, 74, 75, 76, 77, 78, 79, 80, 81] [0, 1, 2, 3, 4, 5, 6, 7, 8, 9, 10, 11, 12, 13, 14, 15, 16, 17, 18, 19, 20, 21, 22, 23, 24, 25, 26, 27, 28, 29, 30, 31, 32, 33, 34, 35, 36, 37, 38, 39, 40, 41, 42, 43, 44, 45, 46, 47, 48, 49, 50, 51, 52, 53, 54, 55, 56, 57, 58, 59, 60, 61, 62, 63, 64, 65, 66] rfl rfl (by decide) (by decide) rfl (fun r9 u9 H locs hw hP hD hS => ?_)
  have hP : va_P D vwCl (WSL cI cJ cZ cY q v0 v1 v2 v3 v4 v5 v6 v7 v8 v9 v10 v11 v12 v13 v14 v15 v16 v17 ++ PL cI v18) H := hP.by _ (va_part (cx := WSL cI cJ cZ cY q v0 v1 v2 v3 v4 v5 v6 v7 v8 v9 v10 v11 v12 v13 v14 v15 v16 v17) [0, 1, 2, 3, 4, 5, 6, 7, 8, 9, 10, 11, 12, 13, 14, 15, 16, 17, 18, 19, 20, 21, 22, 23, 24, 25, 26, 27, 28, 29, 30, 31, 32, 33, 34, 35, 36, 37, 38, 39, 40, 41, 42, 43, 44, 45, 46, 47, 48, 49, 50, 51, 52, 53, 54, 55, 56, 57, 58, 59, 60, 61, 62, 63, 64, 65, 66, 67, 68, 69, 70, 71, 72, 73, 74, 75, 76, 77, 78, 79, 80, 81] rfl)
  have hD : va_D (fun q : Nat => s.heap.size ≤ q) (WSL cI cJ cZ cY q v0 v1 v2 v3 v4 v5 v6 v7 v8 v9 v10 v11 v12 v13 v14 v15 v16 v17 ++ PL cI v18) := hD.part (cx := WSL cI cJ cZ cY q v0 v1 v2 v3 v4 v5 v6 v7 v8 v9 v10 v11 v12 v13 v14 v15 v16 v17) [0, 1, 2, 3, 4, 5, 6, 7, 8, 9, 10, 11, 12, 13, 14, 15, 16, 17, 18, 19, 20, 21, 22, 23, 24, 25, 26, 27, 28, 29, 30, 31, 32, 33, 34, 35, 36, 37, 38, 39, 40, 41, 42, 43, 44, 45, 46, 47, 48, 49, 50, 51, 52, 53, 54, 55, 56, 57, 58, 59, 60, 61, 62, 63, 64, 65, 66, 67, 68, 69, 70, 71, 72, 73, 74, 75, 76, 77, 78, 79, 80, 81] (by decide) rfl
  refine lv_icmp_eq (tgt := 1282) hx hb dL_law_866 (by decide) (fun _ => ?_) (fun c_2 => absurd hw.symm c_2)
  exact hnext v0 v1 v2 v3 v4 v5 v6 v7 v8 v9 v10 v11 v12 v13 v14 v15 v16 v17 v18 H locs ls _ _ (by omega) (by omega) hR2 hP hD hS (lv_sub hl [0, 1, 2, 3] rfl)
set_option maxHeartbeats 8000000 in
set_option maxRecDepth 100000 in
theorem lc_fly {p : Program} {l : Launch} {e : Env} {s : State} {m : MethodId} {below : List Frame} {meth : Method} {c : Code} {D : va_G} {cI cJ cZ cY : ClassId} {tX tY : Nat} {b L : Nat} {xs : Nat → Int32} (hL : L ≤ 4610) (C0 : lw_At p s m meth c b L xs) (hK : KU D cI cJ cZ cY s) (hT : ST tX tY (fun q : Nat => s.heap.size ≤ q) s s.heap) (q : Nat → Nat) (Rel : RelT) (o_fly : Op_fly Rel) {i k : Nat} (hiL : i + 9 ≤ L) (hk1 : k + 1 ≤ 512)
    (hnext : ∀ (v0 : BX11) (v1 : BX3) (v2 : BX8) (v3 : BX4) (v4 : BX8) (v5 : BX7) (v6 : BX6) (v7 : BX2) (v8 : BX1) (v9 : BX2) (v10 : BX5) (v11 : BX10) (v12 : BX9) (v13 : BX1) (v14 : BX2) (v15 : BX5) (v16 : BX10) (v17 : BX12) (v18 : PB) (H : Heap) (locs : List Loc) (ls : Array Slot) (cs ss : Nat), cs ≤ 120 + (k + 1) → ss ≤ 25000 + 300 * (k + 1) → Rel v0 v1 v2 v3 v4 v5 v6 v7 v8 v9 v10 v11 v12 v13 v14 v15 v16 v17 v18 → va_P D vwCl (WSL cI cJ cZ cY q v0 v1 v2 v3 v4 v5 v6 v7 v8 v9 v10 v11 v12 v13 v14 v15 v16 v17 ++ PL cI v18) H → va_D (fun q : Nat => s.heap.size ≤ q) (WSL cI cJ cZ cY q v0 v1 v2 v3 v4 v5 v6 v7 v8 v9 v10 v11 v12 v13 v14 v15 v16 v17 ++ PL cI v18) → va_S (fun q : Nat => s.heap.size ≤ q) s.heap H locs → lv_has ls 4 [(0, .ref b), (1, .ref (q 0)), (2, .ref (q 67)), (3, .int (nI i))] → W p l e room_1 s m #[Value.ref b] below meth c H locs cs ss (lw_Z below #[Value.ref b] s) (F0 m 1282 ls []))
    (v0 : BX11) (v1 : BX3) (v2 : BX8) (v3 : BX4) (v4 : BX8) (v5 : BX7) (v6 : BX6) (v7 : BX2) (v8 : BX1) (v9 : BX2) (v10 : BX5) (v11 : BX10) (v12 : BX9) (v13 : BX1) (v14 : BX2) (v15 : BX5) (v16 : BX10) (v17 : BX12) (v18 : PB) (H : Heap) (locs : List Loc) (ls : Array Slot) (hR : Rel v0 v1 v2 v3 v4 v5 v6 v7 v8 v9 v10 v11 v12 v13 v14 v15 v16 v17 v18) (hP : va_P D vwCl (WSL cI cJ cZ cY q v0 v1 v2 v3 v4 v5 v6 v7 v8 v9 v10 v11 v12 v13 v14 v15 v16 v17 ++ PL cI v18) H) (hD : va_D (fun q : Nat => s.heap.size ≤ q) (WSL cI cJ cZ cY q v0 v1 v2 v3 v4 v5 v6 v7 v8 v9 v10 v11 v12 v13 v14 v15 v16 v17 ++ PL cI v18)) (hS : va_S (fun q : Nat => s.heap.size ≤ q) s.heap H locs) (hl : lv_has ls 4 [(0, .ref b), (1, .ref (q 0)), (2, .ref (q 67)), (3, .int (nI i))]) : W p l e room_1 s m #[Value.ref b] below meth c H locs (120 + k) (25000 + 300 * k) (lw_Z below #[Value.ref b] s) (F0 m 871 ls []) := by
  obtain ⟨hx, hb, hr, hml, hown, hts, hX, hbl, hlocks, hgv⟩ := C0
  have htb : ∀ w ∈ TB, w.before #[Value.ref b] s = true := fun w h => hts w (tb_tbl h)
  have hA : ∀ q : Nat, s.heap.size ≤ q → (fun q : Nat => s.heap.size ≤ q) q := fun _ h => h
  have hbA : ¬ (fun q : Nat => s.heap.size ≤ q) b := Nat.not_le.mpr hbl
  refine lv_aload_n hx hb dL_law_871 rfl (lv_at hl 1 rfl) ?_
  refine lv_aload_n hx hb dL_law_872 rfl (lv_at hl 0 rfl) ?_
  refine lv_iload_n hx hb dL_law_873 rfl (lv_at hl 3 rfl) ?_
  refine lv_iconst (v := 1) hx hb dL_law_874 (by decide) ?_
  refine lv_iadd hx hb dL_law_875 ?_
  refine va_sld hx hb hX hbl hbA hS (scr_in (j := 1) (by omega) hL rfl) dL_law_876 ?_
  refine lv_aload_n hx hb dL_law_877 rfl (lv_at hl 0 rfl) ?_
  refine lv_iload_n hx hb dL_law_878 rfl (lv_at hl 3 rfl) ?_
  refine lv_iconst (v := 2) hx hb dL_law_879 (by decide) ?_
  refine lv_iadd hx hb dL_law_880 ?_
  refine va_sld hx hb hX hbl hbA hS (scr_in (j := 2) (by omega) hL rfl) dL_law_881 ?_
  refine lv_aload_n hx hb dL_law_882 rfl (lv_at hl 0 rfl) ?_
  refine lv_iload_n hx hb dL_law_883 rfl (lv_at hl 3 rfl) ?_
  refine lv_iconst (v := 3) hx hb dL_law_884 (by decide) ?_
  refine lv_iadd hx hb dL_law_885 ?_
  refine va_sld hx hb hX hbl hbA hS (scr_in (j := 3) (by omega) hL rfl) dL_law_886 ?_
  refine lv_aload_n hx hb dL_law_887 rfl (lv_at hl 0 rfl) ?_
  refine lv_iload_n hx hb dL_law_888 rfl (lv_at hl 3 rfl) ?_
  refine lv_iconst (v := 4) hx hb dL_law_889 (by decide) ?_
  refine lv_iadd hx hb dL_law_890 ?_
  refine va_sld hx hb hX hbl hbA hS (scr_in (j := 4) (by omega) hL rfl) dL_law_891 ?_
  refine lv_aload_n hx hb dL_law_892 rfl (lv_at hl 0 rfl) ?_
  refine lv_iload_n hx hb dL_law_893 rfl (lv_at hl 3 rfl) ?_
  refine lv_iconst (v := 5) hx hb dL_law_894 (by decide) ?_
  refine lv_iadd hx hb dL_law_895 ?_
  refine va_sld hx hb hX hbl hbA hS (scr_in (j := 5) (by omega) hL rfl) dL_law_896 ?_
  refine lv_aload_n hx hb dL_law_897 rfl (lv_at hl 0 rfl) ?_
  refine lv_iload_n hx hb dL_law_898 rfl (lv_at hl 3 rfl) ?_
  refine lv_bipush (v := 6) hx hb dL_law_899 (by decide) ?_
  refine lv_iadd hx hb dL_law_901 ?_
  refine va_sld hx hb hX hbl hbA hS (scr_in (j := 6) (by omega) hL rfl) dL_law_902 ?_
  obtain ⟨r, x, y, hfx, hfm, hR2⟩ := o_fly v0 v1 v2 v3 v4 v5 v6 v7 v8 v9 v10 v11 v12 v13 v14 v15 v16 v17 v18 hR (xs (nI i + 1).toNatClampNeg) (xs (nI i + 2).toNatClampNeg) (xs (nI i + 3).toNatClampNeg) (xs (nI i + 4).toNatClampNeg) (xs (nI i + 5).toNatClampNeg) (xs (nI i + 6).toNatClampNeg)
  refine cc_iP (va_runV (C := RX11) (As := [.int (xs (nI i + 1).toNatClampNeg), .int (xs (nI i + 2).toNatClampNeg), .int (xs (nI i + 3).toNatClampNeg), .int (xs (nI i + 4).toNatClampNeg), .int (xs (nI i + 5).toNatClampNeg), .int (xs (nI i + 6).toNatClampNeg)]) (rest := []) ⟨hx, hb, hml, hown, htb⟩ (k_X11_fly (q 0) (q 1) (q 2) (q 8) (q 6) (q 3) (q 16) (q 4) (q 5) (q 28) (q 10) (q 11) (q 12) (q 13) (q 14) (q 15) (q 19) (q 20) (q 21) (q 22) (q 23) (q 24) (q 25) (q 26) (q 27) (q 34) (q 35) (q 36) (q 37) (q 38) (q 39) (q 40) v0 v1 v2 v5 v6 v8 v9 v11 v18 (xs (nI i + 1).toNatClampNeg) (xs (nI i + 2).toNatClampNeg) (xs (nI i + 3).toNatClampNeg) (xs (nI i + 4).toNatClampNeg) (xs (nI i + 5).toNatClampNeg) (xs (nI i + 6).toNatClampNeg) (r, x) hfx) (cw_V 6 htb tg_732 tg_1 tg_729 tg_730 tg_731 rfl rfl (by decide +kernel) ⟨Nat.le_of_ble_eq_true rfl, Nat.le_of_ble_eq_true rfl⟩) ⟨PC.blind, va_recv hK.1 hP (ci := 10) (q0 := 0) rfl rfl, PC.preP hK hT hP hD hS hA [0, 3, 4, 5, 10, 11, 12, 13, 14, 15, 19, 20, 21, 22, 23, 24, 25, 26, 27, 34, 35, 36, 37, 38, 39, 40] rfl (by decide)⟩ rfl rfl hl.1 rfl (lv_room (Nat.le_of_ble_eq_true rfl)) dL_law_903 ⟨by show _ ≤ 600000; omega, by show _ ≤ 7302250; omega⟩) hP hD hS hA [0, 3, 4, 5, 10, 11, 12, 13, 14, 15, 19, 20, 21, 22, 23, 24, 25, 26, 27, 34, 35, 36, 37, 38, 39, 40] [1, 2, 6, 7, 8, 9, 16, 17, 18, 28, 29, 30, 31, 32, 33, 41, 42, 43, 44, 45, 46, 47, 48, 49, 50, 51, 52, 53, 54, 55, 56, 57, 58, 59, 60, 61, 62, 63, 64, 65, 66, 67, 68, 69, 70, 71, 72, 73, 74, 75, 76, 77, 78, 79, 80, 81] rfl rfl (by decide) (by decide) (fun r8 u8 H locs hw hP hD hS => ?_)
  obtain ⟨hw, hw2⟩ := hw
  have hw : r8 = r := hw
  have hw2 : u8 = x := hw2
  subst hw
  subst hw2
  have hP : va_P D vwCl (WSL cI cJ cZ cY q v0 v1 v2 v3 v4 u8.1 u8.2.1 v7 v8 u8.2.2 v10 v11 v12 v13 v14 v15 v16 v17 ++ PL cI v18) H := hP.by _ (va_part (cx := WSL cI cJ cZ cY q v0 v1 v2 v3 v4 u8.1 u8.2.1 v7 v8 u8.2.2 v10 v11 v12 v13 v14 v15 v16 v17) [56, 0, 1, 57, 58, 59, 2, 3, 4, 5, 60, 61, 62, 63, 64, 65, 6, 7, 8, 66, 67, 68, 69, 70, 71, 72, 73, 74, 9, 10, 11, 12, 13, 14, 75, 76, 77, 78, 79, 80, 81, 15, 16, 17, 18, 19, 20, 21, 22, 23, 24, 25, 26, 27, 28, 29, 30, 31, 32, 33, 34, 35, 36, 37, 38, 39, 40, 41, 42, 43, 44, 45, 46, 47, 48, 49, 50, 51, 52, 53, 54, 55] rfl)
  have hD : va_D (fun q : Nat => s.heap.size ≤ q) (WSL cI cJ cZ cY q v0 v1 v2 v3 v4 u8.1 u8.2.1 v7 v8 u8.2.2 v10 v11 v12 v13 v14 v15 v16 v17 ++ PL cI v18) := hD.part (cx := WSL cI cJ cZ cY q v0 v1 v2 v3 v4 u8.1 u8.2.1 v7 v8 u8.2.2 v10 v11 v12 v13 v14 v15 v16 v17) [56, 0, 1, 57, 58, 59, 2, 3, 4, 5, 60, 61, 62, 63, 64, 65, 6, 7, 8, 66, 67, 68, 69, 70, 71, 72, 73, 74, 9, 10, 11, 12, 13, 14, 75, 76, 77, 78, 79, 80, 81, 15, 16, 17, 18, 19, 20, 21, 22, 23, 24, 25, 26, 27, 28, 29, 30, 31, 32, 33, 34, 35, 36, 37, 38, 39, 40, 41, 42, 43, 44, 45, 46, 47, 48, 49, 50, 51, 52, 53, 54, 55] (by decide) rfl
  refine lv_aload_n hx hb dL_law_906 rfl (lv_at hl 2 rfl) ?_
  refine lv_aload_n hx hb dL_law_907 rfl (lv_at hl 0 rfl) ?_
  refine lv_iload_n hx hb dL_law_908 rfl (lv_at hl 3 rfl) ?_
  refine lv_iconst (v := 1) hx hb dL_law_909 (by decide) ?_
  refine lv_iadd hx hb dL_law_910 ?_
  refine va_sld hx hb hX hbl hbA hS (scr_in (j := 1) (by omega) hL rfl) dL_law_911 ?_
  refine lv_aload_n hx hb dL_law_912 rfl (lv_at hl 0 rfl) ?_
  refine lv_iload_n hx hb dL_law_913 rfl (lv_at hl 3 rfl) ?_
  refine lv_iconst (v := 2) hx hb dL_law_914 (by decide) ?_
  refine lv_iadd hx hb dL_law_915 ?_
  refine va_sld hx hb hX hbl hbA hS (scr_in (j := 2) (by omega) hL rfl) dL_law_916 ?_
  refine lv_aload_n hx hb dL_law_917 rfl (lv_at hl 0 rfl) ?_
  refine lv_iload_n hx hb dL_law_918 rfl (lv_at hl 3 rfl) ?_
  refine lv_iconst (v := 3) hx hb dL_law_919 (by decide) ?_
  refine lv_iadd hx hb dL_law_920 ?_
  refine va_sld hx hb hX hbl hbA hS (scr_in (j := 3) (by omega) hL rfl) dL_law_921 ?_
  refine lv_aload_n hx hb dL_law_922 rfl (lv_at hl 0 rfl) ?_
  refine lv_iload_n hx hb dL_law_923 rfl (lv_at hl 3 rfl) ?_
  refine lv_iconst (v := 4) hx hb dL_law_924 (by decide) ?_
  refine lv_iadd hx hb dL_law_925 ?_
  refine va_sld hx hb hX hbl hbA hS (scr_in (j := 4) (by omega) hL rfl) dL_law_926 ?_
  refine lv_aload_n hx hb dL_law_927 rfl (lv_at hl 0 rfl) ?_
  refine lv_iload_n hx hb dL_law_928 rfl (lv_at hl 3 rfl) ?_
  refine lv_iconst (v := 5) hx hb dL_law_929 (by decide) ?_
  refine lv_iadd hx hb dL_law_930 ?_
  refine va_sld hx hb hX hbl hbA hS (scr_in (j := 5) (by omega) hL rfl) dL_law_931 ?_
  refine lv_aload_n hx hb dL_law_932 rfl (lv_at hl 0 rfl) ?_
  refine lv_iload_n hx hb dL_law_933 rfl (lv_at hl 3 rfl) ?_
  refine lv_bipush (v := 6) hx hb dL_law_934 (by decide) ?_
  refine lv_iadd hx hb dL_law_936 ?_
  refine va_sld hx hb hX hbl hbA hS (scr_in (j := 6) (by omega) hL rfl) dL_law_937 ?_
  refine cc_iQ (va_runV (C := RX12) (As := [.int (xs (nI i + 1).toNatClampNeg), .int (xs (nI i + 2).toNatClampNeg), .int (xs (nI i + 3).toNatClampNeg), .int (xs (nI i + 4).toNatClampNeg), .int (xs (nI i + 5).toNatClampNeg), .int (xs (nI i + 6).toNatClampNeg)]) (rest := [.int r8]) ⟨hx, hb, hml, hown, htb⟩ (k_X12_fly (q 67) (q 68) (q 69) (q 70) (q 71) (q 72) (q 73) (q 74) (q 75) (q 76) (q 77) (q 78) (q 79) (q 80) (q 81) v17 (xs (nI i + 1).toNatClampNeg) (xs (nI i + 2).toNatClampNeg) (xs (nI i + 3).toNatClampNeg) (xs (nI i + 4).toNatClampNeg) (xs (nI i + 5).toNatClampNeg) (xs (nI i + 6).toNatClampNeg) (r8, y) hfm) (cw_V 6 htb tg_1301 tg_13 tg_1298 tg_1299 tg_1300 rfl rfl (by decide +kernel) ⟨Nat.le_of_ble_eq_true rfl, Nat.le_of_ble_eq_true rfl⟩) ⟨PC.blind, va_recv hK.1 hP (ci := 11) (q0 := 67) rfl rfl, PC.pre hK hT hP hD hS hA [67, 68, 69, 70, 71, 72, 73, 74, 75, 76, 77, 78, 79, 80, 81] rfl (by decide)⟩ rfl rfl hl.1 rfl (lv_room (Nat.le_of_ble_eq_true rfl)) dL_law_938 ⟨by show _ ≤ 600000; omega, by show _ ≤ 7302250; omega⟩) hP hD hS hA [67, 68, 69, 70, 71, 72, 73, 74, 75, 76, 77, 78, 79, 80, 81] [0, 1, 2, 3, 4, 5, 6, 7, 8, 9, 10, 11, 12, 13, 14, 15, 16, 17, 18, 19, 20, 21, 22, 23, 24, 25, 26, 27, 28, 29, 30, 31, 32, 33, 34, 35, 36, 37, 38, 39, 40, 41, 42, 43, 44, 45, 46, 47, 48, 49, 50, 51, 52, 53, 54, 55, 56, 57, 58, 59, 60, 61, 62, 63, 64, 65, 66] rfl rfl (by decide) (by decide) rfl (fun r9 u9 H locs hw hP hD hS => ?_)
  obtain ⟨hw, hw2⟩ := hw
  try dsimp only at hw hw2
  rw [hw2] at hP hD
  have hP : va_P D vwCl (WSL cI cJ cZ cY q v0 v1 v2 v3 v4 u8.1 u8.2.1 v7 v8 u8.2.2 v10 v11 v12 v13 v14 v15 v16 y ++ PL cI v18) H := hP.by _ (va_part (cx := WSL cI cJ cZ cY q v0 v1 v2 v3 v4 u8.1 u8.2.1 v7 v8 u8.2.2 v10 v11 v12 v13 v14 v15 v16 y) [0, 1, 2, 3, 4, 5, 6, 7, 8, 9, 10, 11, 12, 13, 14, 15, 16, 17, 18, 19, 20, 21, 22, 23, 24, 25, 26, 27, 28, 29, 30, 31, 32, 33, 34, 35, 36, 37, 38, 39, 40, 41, 42, 43, 44, 45, 46, 47, 48, 49, 50, 51, 52, 53, 54, 55, 56, 57, 58, 59, 60, 61, 62, 63, 64, 65, 66, 67, 68, 69, 70, 71, 72, 73, 74, 75, 76, 77, 78, 79, 80, 81] rfl)
  have hD : va_D (fun q : Nat => s.heap.size ≤ q) (WSL cI cJ cZ cY q v0 v1 v2 v3 v4 u8.1 u8.2.1 v7 v8 u8.2.2 v10 v11 v12 v13 v14 v15 v16 y ++ PL cI v18) := hD.part (cx := WSL cI cJ cZ cY q v0 v1 v2 v3 v4 u8.1 u8.2.1 v7 v8 u8.2.2 v10 v11 v12 v13 v14 v15 v16 y) [0, 1, 2, 3, 4, 5, 6, 7, 8, 9, 10, 11, 12, 13, 14, 15, 16, 17, 18, 19, 20, 21, 22, 23, 24, 25, 26, 27, 28, 29, 30, 31, 32, 33, 34, 35, 36, 37, 38, 39, 40, 41, 42, 43, 44, 45, 46, 47, 48, 49, 50, 51, 52, 53, 54, 55, 56, 57, 58, 59, 60, 61, 62, 63, 64, 65, 66, 67, 68, 69, 70, 71, 72, 73, 74, 75, 76, 77, 78, 79, 80, 81] (by decide) rfl
  refine lv_icmp_eq (tgt := 1282) hx hb dL_law_941 (by decide) (fun _ => ?_) (fun c_2 => absurd hw.symm c_2)
  exact hnext v0 v1 v2 v3 v4 u8.1 u8.2.1 v7 v8 u8.2.2 v10 v11 v12 v13 v14 v15 v16 y v18 H locs ls _ _ (by omega) (by omega) hR2 hP hD hS (lv_sub hl [0, 1, 2, 3] rfl)
set_option maxHeartbeats 8000000 in
set_option maxRecDepth 100000 in
theorem lc_flown {p : Program} {l : Launch} {e : Env} {s : State} {m : MethodId} {below : List Frame} {meth : Method} {c : Code} {D : va_G} {cI cJ cZ cY : ClassId} {tX tY : Nat} {b L : Nat} {xs : Nat → Int32} (hL : L ≤ 4610) (C0 : lw_At p s m meth c b L xs) (hK : KU D cI cJ cZ cY s) (hT : ST tX tY (fun q : Nat => s.heap.size ≤ q) s s.heap) (q : Nat → Nat) (Rel : RelT) (o_flown : Op_flown Rel) {i k : Nat} (hiL : i + 9 ≤ L) (hk1 : k + 1 ≤ 512)
    (hnext : ∀ (v0 : BX11) (v1 : BX3) (v2 : BX8) (v3 : BX4) (v4 : BX8) (v5 : BX7) (v6 : BX6) (v7 : BX2) (v8 : BX1) (v9 : BX2) (v10 : BX5) (v11 : BX10) (v12 : BX9) (v13 : BX1) (v14 : BX2) (v15 : BX5) (v16 : BX10) (v17 : BX12) (v18 : PB) (H : Heap) (locs : List Loc) (ls : Array Slot) (cs ss : Nat), cs ≤ 120 + (k + 1) → ss ≤ 25000 + 300 * (k + 1) → Rel v0 v1 v2 v3 v4 v5 v6 v7 v8 v9 v10 v11 v12 v13 v14 v15 v16 v17 v18 → va_P D vwCl (WSL cI cJ cZ cY q v0 v1 v2 v3 v4 v5 v6 v7 v8 v9 v10 v11 v12 v13 v14 v15 v16 v17 ++ PL cI v18) H → va_D (fun q : Nat => s.heap.size ≤ q) (WSL cI cJ cZ cY q v0 v1 v2 v3 v4 v5 v6 v7 v8 v9 v10 v11 v12 v13 v14 v15 v16 v17 ++ PL cI v18) → va_S (fun q : Nat => s.heap.size ≤ q) s.heap H locs → lv_has ls 4 [(0, .ref b), (1, .ref (q 0)), (2, .ref (q 67)), (3, .int (nI i))] → W p l e room_1 s m #[Value.ref b] below meth c H locs cs ss (lw_Z below #[Value.ref b] s) (F0 m 1282 ls []))
    (v0 : BX11) (v1 : BX3) (v2 : BX8) (v3 : BX4) (v4 : BX8) (v5 : BX7) (v6 : BX6) (v7 : BX2) (v8 : BX1) (v9 : BX2) (v10 : BX5) (v11 : BX10) (v12 : BX9) (v13 : BX1) (v14 : BX2) (v15 : BX5) (v16 : BX10) (v17 : BX12) (v18 : PB) (H : Heap) (locs : List Loc) (ls : Array Slot) (hR : Rel v0 v1 v2 v3 v4 v5 v6 v7 v8 v9 v10 v11 v12 v13 v14 v15 v16 v17 v18) (hP : va_P D vwCl (WSL cI cJ cZ cY q v0 v1 v2 v3 v4 v5 v6 v7 v8 v9 v10 v11 v12 v13 v14 v15 v16 v17 ++ PL cI v18) H) (hD : va_D (fun q : Nat => s.heap.size ≤ q) (WSL cI cJ cZ cY q v0 v1 v2 v3 v4 v5 v6 v7 v8 v9 v10 v11 v12 v13 v14 v15 v16 v17 ++ PL cI v18)) (hS : va_S (fun q : Nat => s.heap.size ≤ q) s.heap H locs) (hl : lv_has ls 4 [(0, .ref b), (1, .ref (q 0)), (2, .ref (q 67)), (3, .int (nI i))]) : W p l e room_1 s m #[Value.ref b] below meth c H locs (120 + k) (25000 + 300 * k) (lw_Z below #[Value.ref b] s) (F0 m 946 ls []) := by
  obtain ⟨hx, hb, hr, hml, hown, hts, hX, hbl, hlocks, hgv⟩ := C0
  have htb : ∀ w ∈ TB, w.before #[Value.ref b] s = true := fun w h => hts w (tb_tbl h)
  have hA : ∀ q : Nat, s.heap.size ≤ q → (fun q : Nat => s.heap.size ≤ q) q := fun _ h => h
  have hbA : ¬ (fun q : Nat => s.heap.size ≤ q) b := Nat.not_le.mpr hbl
  refine lv_aload_n hx hb dL_law_946 rfl (lv_at hl 1 rfl) ?_
  refine lv_aload_n hx hb dL_law_947 rfl (lv_at hl 0 rfl) ?_
  refine lv_iload_n hx hb dL_law_948 rfl (lv_at hl 3 rfl) ?_
  refine lv_iconst (v := 1) hx hb dL_law_949 (by decide) ?_
  refine lv_iadd hx hb dL_law_950 ?_
  refine va_sld hx hb hX hbl hbA hS (scr_in (j := 1) (by omega) hL rfl) dL_law_951 ?_
  obtain ⟨r, hfx, hfm, hR2⟩ := o_flown v0 v1 v2 v3 v4 v5 v6 v7 v8 v9 v10 v11 v12 v13 v14 v15 v16 v17 v18 hR (xs (nI i + 1).toNatClampNeg)
  refine cc_iQ (va_runV (C := RX11) (As := [.int (xs (nI i + 1).toNatClampNeg)]) (rest := []) ⟨hx, hb, hml, hown, htb⟩ (k_X11_flown (q 0) (q 1) (q 2) (q 8) (q 10) (q 3) (q 6) (q 4) (q 5) (q 34) (q 19) (q 28) (q 25) (q 26) (q 27) v0 v2 v9 (xs (nI i + 1).toNatClampNeg) r hfx) (cw_V 1 htb tg_821 tg_1 tg_818 tg_819 tg_820 rfl rfl (by decide +kernel) ⟨Nat.le_of_ble_eq_true rfl, Nat.le_of_ble_eq_true rfl⟩) ⟨PC.blind, va_recv hK.1 hP (ci := 10) (q0 := 0) rfl rfl, PC.pre hK hT hP hD hS hA [0, 4, 5, 25, 26, 27] rfl (by decide)⟩ rfl rfl hl.1 rfl (lv_room (Nat.le_of_ble_eq_true rfl)) dL_law_952 ⟨by show _ ≤ 600000; omega, by show _ ≤ 7302250; omega⟩) hP hD hS hA [0, 4, 5, 25, 26, 27] [1, 2, 3, 6, 7, 8, 9, 10, 11, 12, 13, 14, 15, 16, 17, 18, 19, 20, 21, 22, 23, 24, 28, 29, 30, 31, 32, 33, 34, 35, 36, 37, 38, 39, 40, 41, 42, 43, 44, 45, 46, 47, 48, 49, 50, 51, 52, 53, 54, 55, 56, 57, 58, 59, 60, 61, 62, 63, 64, 65, 66, 67, 68, 69, 70, 71, 72, 73, 74, 75, 76, 77, 78, 79, 80, 81] rfl rfl (by decide) (by decide) rfl (fun r8 u8 H locs hw hP hD hS => ?_)
  have hw : r8 = r := hw
  subst hw
  have hP : va_P D vwCl (WSL cI cJ cZ cY q v0 v1 v2 v3 v4 v5 v6 v7 v8 v9 v10 v11 v12 v13 v14 v15 v16 v17 ++ PL cI v18) H := hP.by _ (va_part (cx := WSL cI cJ cZ cY q v0 v1 v2 v3 v4 v5 v6 v7 v8 v9 v10 v11 v12 v13 v14 v15 v16 v17) [76, 0, 1, 2, 77, 78, 3, 4, 5, 6, 7, 8, 9, 10, 11, 12, 13, 14, 15, 16, 17, 18, 19, 20, 21, 79, 80, 81, 22, 23, 24, 25, 26, 27, 28, 29, 30, 31, 32, 33, 34, 35, 36, 37, 38, 39, 40, 41, 42, 43, 44, 45, 46, 47, 48, 49, 50, 51, 52, 53, 54, 55, 56, 57, 58, 59, 60, 61, 62, 63, 64, 65, 66, 67, 68, 69, 70, 71, 72, 73, 74, 75] rfl)
  have hD : va_D (fun q : Nat => s.heap.size ≤ q) (WSL cI cJ cZ cY q v0 v1 v2 v3 v4 v5 v6 v7 v8 v9 v10 v11 v12 v13 v14 v15 v16 v17 ++ PL cI v18) := hD.part (cx := WSL cI cJ cZ cY q v0 v1 v2 v3 v4 v5 v6 v7 v8 v9 v10 v11 v12 v13 v14 v15 v16 v17) [76, 0, 1, 2, 77, 78, 3, 4, 5, 6, 7, 8, 9, 10, 11, 12, 13, 14, 15, 16, 17, 18, 19, 20, 21, 79, 80, 81, 22, 23, 24, 25, 26, 27, 28, 29, 30, 31, 32, 33, 34, 35, 36, 37, 38, 39, 40, 41, 42, 43, 44, 45, 46, 47, 48, 49, 50, 51, 52, 53, 54, 55, 56, 57, 58, 59, 60, 61, 62, 63, 64, 65, 66, 67, 68, 69, 70, 71, 72, 73, 74, 75] (by decide) rfl
  refine lv_aload_n hx hb dL_law_955 rfl (lv_at hl 2 rfl) ?_
  refine lv_aload_n hx hb dL_law_956 rfl (lv_at hl 0 rfl) ?_
  refine lv_iload_n hx hb dL_law_957 rfl (lv_at hl 3 rfl) ?_
  refine lv_iconst (v := 1) hx hb dL_law_958 (by decide) ?_
  refine lv_iadd hx hb dL_law_959 ?_
  refine va_sld hx hb hX hbl hbA hS (scr_in (j := 1) (by omega) hL rfl) dL_law_960 ?_
  refine cc_iQ (va_runV (C := RX12) (As := [.int (xs (nI i + 1).toNatClampNeg)]) (rest := [.int r8]) ⟨hx, hb, hml, hown, htb⟩ (k_X12_flown (q 67) (q 68) (q 69) (q 70) (q 71) (q 72) (q 73) (q 74) (q 75) (q 76) (q 77) (q 78) (q 79) (q 80) (q 81) v17 (xs (nI i + 1).toNatClampNeg) r8 hfm) (cw_V 1 htb tg_1348 tg_13 tg_1345 tg_1346 tg_1347 rfl rfl (by decide +kernel) ⟨Nat.le_of_ble_eq_true rfl, Nat.le_of_ble_eq_true rfl⟩) ⟨PC.blind, va_recv hK.1 hP (ci := 11) (q0 := 67) rfl rfl, PC.pre hK hT hP hD hS hA [67, 68, 69, 70, 71, 72, 73, 74, 75, 76, 77, 78, 79, 80, 81] rfl (by decide)⟩ rfl rfl hl.1 rfl (lv_room (Nat.le_of_ble_eq_true rfl)) dL_law_961 ⟨by show _ ≤ 600000; omega, by show _ ≤ 7302250; omega⟩) hP hD hS hA [67, 68, 69, 70, 71, 72, 73, 74, 75, 76, 77, 78, 79, 80, 81] [0, 1, 2, 3, 4, 5, 6, 7, 8, 9, 10, 11, 12, 13, 14, 15, 16, 17, 18, 19, 20, 21, 22, 23, 24, 25, 26, 27, 28, 29, 30, 31, 32, 33, 34, 35, 36, 37, 38, 39, 40, 41, 42, 43, 44, 45, 46, 47, 48, 49, 50, 51, 52, 53, 54, 55, 56, 57, 58, 59, 60, 61, 62, 63, 64, 65, 66] rfl rfl (by decide) (by decide) rfl (fun r9 u9 H locs hw hP hD hS => ?_)
  have hP : va_P D vwCl (WSL cI cJ cZ cY q v0 v1 v2 v3 v4 v5 v6 v7 v8 v9 v10 v11 v12 v13 v14 v15 v16 v17 ++ PL cI v18) H := hP.by _ (va_part (cx := WSL cI cJ cZ cY q v0 v1 v2 v3 v4 v5 v6 v7 v8 v9 v10 v11 v12 v13 v14 v15 v16 v17) [0, 1, 2, 3, 4, 5, 6, 7, 8, 9, 10, 11, 12, 13, 14, 15, 16, 17, 18, 19, 20, 21, 22, 23, 24, 25, 26, 27, 28, 29, 30, 31, 32, 33, 34, 35, 36, 37, 38, 39, 40, 41, 42, 43, 44, 45, 46, 47, 48, 49, 50, 51, 52, 53, 54, 55, 56, 57, 58, 59, 60, 61, 62, 63, 64, 65, 66, 67, 68, 69, 70, 71, 72, 73, 74, 75, 76, 77, 78, 79, 80, 81] rfl)
  have hD : va_D (fun q : Nat => s.heap.size ≤ q) (WSL cI cJ cZ cY q v0 v1 v2 v3 v4 v5 v6 v7 v8 v9 v10 v11 v12 v13 v14 v15 v16 v17 ++ PL cI v18) := hD.part (cx := WSL cI cJ cZ cY q v0 v1 v2 v3 v4 v5 v6 v7 v8 v9 v10 v11 v12 v13 v14 v15 v16 v17) [0, 1, 2, 3, 4, 5, 6, 7, 8, 9, 10, 11, 12, 13, 14, 15, 16, 17, 18, 19, 20, 21, 22, 23, 24, 25, 26, 27, 28, 29, 30, 31, 32, 33, 34, 35, 36, 37, 38, 39, 40, 41, 42, 43, 44, 45, 46, 47, 48, 49, 50, 51, 52, 53, 54, 55, 56, 57, 58, 59, 60, 61, 62, 63, 64, 65, 66, 67, 68, 69, 70, 71, 72, 73, 74, 75, 76, 77, 78, 79, 80, 81] (by decide) rfl
  refine lv_icmp_eq (tgt := 1282) hx hb dL_law_964 (by decide) (fun _ => ?_) (fun c_2 => absurd hw.symm c_2)
  exact hnext v0 v1 v2 v3 v4 v5 v6 v7 v8 v9 v10 v11 v12 v13 v14 v15 v16 v17 v18 H locs ls _ _ (by omega) (by omega) hR2 hP hD hS (lv_sub hl [0, 1, 2, 3] rfl)
set_option maxHeartbeats 8000000 in
set_option maxRecDepth 100000 in
theorem lc_tick {p : Program} {l : Launch} {e : Env} {s : State} {m : MethodId} {below : List Frame} {meth : Method} {c : Code} {D : va_G} {cI cJ cZ cY : ClassId} {tX tY : Nat} {b L : Nat} {xs : Nat → Int32} (hL : L ≤ 4610) (C0 : lw_At p s m meth c b L xs) (hK : KU D cI cJ cZ cY s) (hT : ST tX tY (fun q : Nat => s.heap.size ≤ q) s s.heap) (q : Nat → Nat) (Rel : RelT) (o_tick : Op_tick Rel) {i k : Nat} (hiL : i + 9 ≤ L) (hk1 : k + 1 ≤ 512)
    (hnext : ∀ (v0 : BX11) (v1 : BX3) (v2 : BX8) (v3 : BX4) (v4 : BX8) (v5 : BX7) (v6 : BX6) (v7 : BX2) (v8 : BX1) (v9 : BX2) (v10 : BX5) (v11 : BX10) (v12 : BX9) (v13 : BX1) (v14 : BX2) (v15 : BX5) (v16 : BX10) (v17 : BX12) (v18 : PB) (H : Heap) (locs : List Loc) (ls : Array Slot) (cs ss : Nat), cs ≤ 120 + (k + 1) → ss ≤ 25000 + 300 * (k + 1) → Rel v0 v1 v2 v3 v4 v5 v6 v7 v8 v9 v10 v11 v12 v13 v14 v15 v16 v17 v18 → va_P D vwCl (WSL cI cJ cZ cY q v0 v1 v2 v3 v4 v5 v6 v7 v8 v9 v10 v11 v12 v13 v14 v15 v16 v17 ++ PL cI v18) H → va_D (fun q : Nat => s.heap.size ≤ q) (WSL cI cJ cZ cY q v0 v1 v2 v3 v4 v5 v6 v7 v8 v9 v10 v11 v12 v13 v14 v15 v16 v17 ++ PL cI v18) → va_S (fun q : Nat => s.heap.size ≤ q) s.heap H locs → lv_has ls 4 [(0, .ref b), (1, .ref (q 0)), (2, .ref (q 67)), (3, .int (nI i))] → W p l e room_1 s m #[Value.ref b] below meth c H locs cs ss (lw_Z below #[Value.ref b] s) (F0 m 1282 ls []))
    (v0 : BX11) (v1 : BX3) (v2 : BX8) (v3 : BX4) (v4 : BX8) (v5 : BX7) (v6 : BX6) (v7 : BX2) (v8 : BX1) (v9 : BX2) (v10 : BX5) (v11 : BX10) (v12 : BX9) (v13 : BX1) (v14 : BX2) (v15 : BX5) (v16 : BX10) (v17 : BX12) (v18 : PB) (H : Heap) (locs : List Loc) (ls : Array Slot) (hR : Rel v0 v1 v2 v3 v4 v5 v6 v7 v8 v9 v10 v11 v12 v13 v14 v15 v16 v17 v18) (hP : va_P D vwCl (WSL cI cJ cZ cY q v0 v1 v2 v3 v4 v5 v6 v7 v8 v9 v10 v11 v12 v13 v14 v15 v16 v17 ++ PL cI v18) H) (hD : va_D (fun q : Nat => s.heap.size ≤ q) (WSL cI cJ cZ cY q v0 v1 v2 v3 v4 v5 v6 v7 v8 v9 v10 v11 v12 v13 v14 v15 v16 v17 ++ PL cI v18)) (hS : va_S (fun q : Nat => s.heap.size ≤ q) s.heap H locs) (hl : lv_has ls 4 [(0, .ref b), (1, .ref (q 0)), (2, .ref (q 67)), (3, .int (nI i))]) : W p l e room_1 s m #[Value.ref b] below meth c H locs (120 + k) (25000 + 300 * k) (lw_Z below #[Value.ref b] s) (F0 m 969 ls []) := by
  obtain ⟨hx, hb, hr, hml, hown, hts, hX, hbl, hlocks, hgv⟩ := C0
  have htb : ∀ w ∈ TB, w.before #[Value.ref b] s = true := fun w h => hts w (tb_tbl h)
  have hA : ∀ q : Nat, s.heap.size ≤ q → (fun q : Nat => s.heap.size ≤ q) q := fun _ h => h
  have hbA : ¬ (fun q : Nat => s.heap.size ≤ q) b := Nat.not_le.mpr hbl
  refine lv_aload_n hx hb dL_law_969 rfl (lv_at hl 1 rfl) ?_
  refine lv_aload_n hx hb dL_law_970 rfl (lv_at hl 0 rfl) ?_
  refine lv_iload_n hx hb dL_law_971 rfl (lv_at hl 3 rfl) ?_
  refine lv_iconst (v := 1) hx hb dL_law_972 (by decide) ?_
  refine lv_iadd hx hb dL_law_973 ?_
  refine va_sld hx hb hX hbl hbA hS (scr_in (j := 1) (by omega) hL rfl) dL_law_974 ?_
  refine lv_aload_n hx hb dL_law_975 rfl (lv_at hl 0 rfl) ?_
  refine lv_iload_n hx hb dL_law_976 rfl (lv_at hl 3 rfl) ?_
  refine lv_iconst (v := 2) hx hb dL_law_977 (by decide) ?_
  refine lv_iadd hx hb dL_law_978 ?_
  refine va_sld hx hb hX hbl hbA hS (scr_in (j := 2) (by omega) hL rfl) dL_law_979 ?_
  obtain ⟨r, hfx, hfm, hR2⟩ := o_tick v0 v1 v2 v3 v4 v5 v6 v7 v8 v9 v10 v11 v12 v13 v14 v15 v16 v17 v18 hR (xs (nI i + 1).toNatClampNeg) (xs (nI i + 2).toNatClampNeg)
  refine cc_iQ (va_runV (C := RX11) (As := [.int (xs (nI i + 1).toNatClampNeg), .int (xs (nI i + 2).toNatClampNeg)]) (rest := []) ⟨hx, hb, hml, hown, htb⟩ (k_X11_tick (q 0) (q 1) (q 2) (q 8) (q 10) (q 3) (q 6) (q 4) (q 5) (q 34) (q 28) (q 19) (q 20) (q 21) (q 22) (q 23) (q 24) (q 25) (q 26) (q 27) v0 v2 v8 v9 (xs (nI i + 1).toNatClampNeg) (xs (nI i + 2).toNatClampNeg) r hfx) (cw_V 2 htb tg_825 tg_1 tg_822 tg_823 tg_824 rfl rfl (by decide +kernel) ⟨Nat.le_of_ble_eq_true rfl, Nat.le_of_ble_eq_true rfl⟩) ⟨PC.blind, va_recv hK.1 hP (ci := 10) (q0 := 0) rfl rfl, PC.pre hK hT hP hD hS hA [0, 4, 5, 19, 20, 21, 22, 23, 24, 25, 26, 27] rfl (by decide)⟩ rfl rfl hl.1 rfl (lv_room (Nat.le_of_ble_eq_true rfl)) dL_law_980 ⟨by show _ ≤ 600000; omega, by show _ ≤ 7302250; omega⟩) hP hD hS hA [0, 4, 5, 19, 20, 21, 22, 23, 24, 25, 26, 27] [1, 2, 3, 6, 7, 8, 9, 10, 11, 12, 13, 14, 15, 16, 17, 18, 28, 29, 30, 31, 32, 33, 34, 35, 36, 37, 38, 39, 40, 41, 42, 43, 44, 45, 46, 47, 48, 49, 50, 51, 52, 53, 54, 55, 56, 57, 58, 59, 60, 61, 62, 63, 64, 65, 66, 67, 68, 69, 70, 71, 72, 73, 74, 75, 76, 77, 78, 79, 80, 81] rfl rfl (by decide) (by decide) rfl (fun r8 u8 H locs hw hP hD hS => ?_)
  have hw : r8 = r := hw
  subst hw
  have hP : va_P D vwCl (WSL cI cJ cZ cY q v0 v1 v2 v3 v4 v5 v6 v7 v8 v9 v10 v11 v12 v13 v14 v15 v16 v17 ++ PL cI v18) H := hP.by _ (va_part (cx := WSL cI cJ cZ cY q v0 v1 v2 v3 v4 v5 v6 v7 v8 v9 v10 v11 v12 v13 v14 v15 v16 v17) [70, 0, 1, 2, 71, 72, 3, 4, 5, 6, 7, 8, 9, 10, 11, 12, 13, 14, 15, 73, 74, 75, 76, 77, 78, 79, 80, 81, 16, 17, 18, 19, 20, 21, 22, 23, 24, 25, 26, 27, 28, 29, 30, 31, 32, 33, 34, 35, 36, 37, 38, 39, 40, 41, 42, 43, 44, 45, 46, 47, 48, 49, 50, 51, 52, 53, 54, 55, 56, 57, 58, 59, 60, 61, 62, 63, 64, 65, 66, 67, 68, 69] rfl)
  have hD : va_D (fun q : Nat => s.heap.size ≤ q) (WSL cI cJ cZ cY q v0 v1 v2 v3 v4 v5 v6 v7 v8 v9 v10 v11 v12 v13 v14 v15 v16 v17 ++ PL cI v18) := hD.part (cx := WSL cI cJ cZ cY q v0 v1 v2 v3 v4 v5 v6 v7 v8 v9 v10 v11 v12 v13 v14 v15 v16 v17) [70, 0, 1, 2, 71, 72, 3, 4, 5, 6, 7, 8, 9, 10, 11, 12, 13, 14, 15, 73, 74, 75, 76, 77, 78, 79, 80, 81, 16, 17, 18, 19, 20, 21, 22, 23, 24, 25, 26, 27, 28, 29, 30, 31, 32, 33, 34, 35, 36, 37, 38, 39, 40, 41, 42, 43, 44, 45, 46, 47, 48, 49, 50, 51, 52, 53, 54, 55, 56, 57, 58, 59, 60, 61, 62, 63, 64, 65, 66, 67, 68, 69] (by decide) rfl
  refine lv_aload_n hx hb dL_law_983 rfl (lv_at hl 2 rfl) ?_
  refine lv_aload_n hx hb dL_law_984 rfl (lv_at hl 0 rfl) ?_
  refine lv_iload_n hx hb dL_law_985 rfl (lv_at hl 3 rfl) ?_
  refine lv_iconst (v := 1) hx hb dL_law_986 (by decide) ?_
  refine lv_iadd hx hb dL_law_987 ?_
  refine va_sld hx hb hX hbl hbA hS (scr_in (j := 1) (by omega) hL rfl) dL_law_988 ?_
  refine lv_aload_n hx hb dL_law_989 rfl (lv_at hl 0 rfl) ?_
  refine lv_iload_n hx hb dL_law_990 rfl (lv_at hl 3 rfl) ?_
  refine lv_iconst (v := 2) hx hb dL_law_991 (by decide) ?_
  refine lv_iadd hx hb dL_law_992 ?_
  refine va_sld hx hb hX hbl hbA hS (scr_in (j := 2) (by omega) hL rfl) dL_law_993 ?_
  refine cc_iQ (va_runV (C := RX12) (As := [.int (xs (nI i + 1).toNatClampNeg), .int (xs (nI i + 2).toNatClampNeg)]) (rest := [.int r8]) ⟨hx, hb, hml, hown, htb⟩ (k_X12_tick (q 67) (q 68) (q 69) (q 70) (q 71) (q 72) (q 73) (q 74) (q 75) (q 76) (q 77) (q 78) (q 79) (q 80) (q 81) v17 (xs (nI i + 1).toNatClampNeg) (xs (nI i + 2).toNatClampNeg) r8 hfm) (cw_V 2 htb tg_1352 tg_13 tg_1349 tg_1350 tg_1351 rfl rfl (by decide +kernel) ⟨Nat.le_of_ble_eq_true rfl, Nat.le_of_ble_eq_true rfl⟩) ⟨PC.blind, va_recv hK.1 hP (ci := 11) (q0 := 67) rfl rfl, PC.pre hK hT hP hD hS hA [67, 68, 69, 70, 71, 72, 73, 74, 75, 76, 77, 78, 79, 80, 81] rfl (by decide)⟩ rfl rfl hl.1 rfl (lv_room (Nat.le_of_ble_eq_true rfl)) dL_law_994 ⟨by show _ ≤ 600000; omega, by show _ ≤ 7302250; omega⟩) hP hD hS hA [67, 68, 69, 70, 71, 72, 73, 74, 75, 76, 77, 78, 79, 80, 81] [0, 1, 2, 3, 4, 5, 6, 7, 8, 9, 10, 11, 12, 13, 14, 15, 16, 17, 18, 19, 20, 21, 22, 23, 24, 25, 26, 27, 28, 29, 30, 31, 32, 33, 34, 35, 36, 37, 38, 39, 40, 41, 42, 43, 44, 45, 46, 47, 48, 49, 50, 51, 52, 53, 54, 55, 56, 57, 58, 59, 60, 61, 62, 63, 64, 65, 66] rfl rfl (by decide) (by decide) rfl (fun r9 u9 H locs hw hP hD hS => ?_)
  have hP : va_P D vwCl (WSL cI cJ cZ cY q v0 v1 v2 v3 v4 v5 v6 v7 v8 v9 v10 v11 v12 v13 v14 v15 v16 v17 ++ PL cI v18) H := hP.by _ (va_part (cx := WSL cI cJ cZ cY q v0 v1 v2 v3 v4 v5 v6 v7 v8 v9 v10 v11 v12 v13 v14 v15 v16 v17) [0, 1, 2, 3, 4, 5, 6, 7, 8, 9, 10, 11, 12, 13, 14, 15, 16, 17, 18, 19, 20, 21, 22, 23, 24, 25, 26, 27, 28, 29, 30, 31, 32, 33, 34, 35, 36, 37, 38, 39, 40, 41, 42, 43, 44, 45, 46, 47, 48, 49, 50, 51, 52, 53, 54, 55, 56, 57, 58, 59, 60, 61, 62, 63, 64, 65, 66, 67, 68, 69, 70, 71, 72, 73, 74, 75, 76, 77, 78, 79, 80, 81] rfl)
  have hD : va_D (fun q : Nat => s.heap.size ≤ q) (WSL cI cJ cZ cY q v0 v1 v2 v3 v4 v5 v6 v7 v8 v9 v10 v11 v12 v13 v14 v15 v16 v17 ++ PL cI v18) := hD.part (cx := WSL cI cJ cZ cY q v0 v1 v2 v3 v4 v5 v6 v7 v8 v9 v10 v11 v12 v13 v14 v15 v16 v17) [0, 1, 2, 3, 4, 5, 6, 7, 8, 9, 10, 11, 12, 13, 14, 15, 16, 17, 18, 19, 20, 21, 22, 23, 24, 25, 26, 27, 28, 29, 30, 31, 32, 33, 34, 35, 36, 37, 38, 39, 40, 41, 42, 43, 44, 45, 46, 47, 48, 49, 50, 51, 52, 53, 54, 55, 56, 57, 58, 59, 60, 61, 62, 63, 64, 65, 66, 67, 68, 69, 70, 71, 72, 73, 74, 75, 76, 77, 78, 79, 80, 81] (by decide) rfl
  refine lv_icmp_eq (tgt := 1282) hx hb dL_law_997 (by decide) (fun _ => ?_) (fun c_2 => absurd hw.symm c_2)
  exact hnext v0 v1 v2 v3 v4 v5 v6 v7 v8 v9 v10 v11 v12 v13 v14 v15 v16 v17 v18 H locs ls _ _ (by omega) (by omega) hR2 hP hD hS (lv_sub hl [0, 1, 2, 3] rfl)
set_option maxHeartbeats 8000000 in
set_option maxRecDepth 100000 in
theorem lc_safe {p : Program} {l : Launch} {e : Env} {s : State} {m : MethodId} {below : List Frame} {meth : Method} {c : Code} {D : va_G} {cI cJ cZ cY : ClassId} {tX tY : Nat} {b L : Nat} {xs : Nat → Int32} (hL : L ≤ 4610) (C0 : lw_At p s m meth c b L xs) (hK : KU D cI cJ cZ cY s) (hT : ST tX tY (fun q : Nat => s.heap.size ≤ q) s s.heap) (q : Nat → Nat) (Rel : RelT) (o_safe : Op_safe Rel) {i k : Nat} (hiL : i + 9 ≤ L) (hk1 : k + 1 ≤ 512)
    (hnext : ∀ (v0 : BX11) (v1 : BX3) (v2 : BX8) (v3 : BX4) (v4 : BX8) (v5 : BX7) (v6 : BX6) (v7 : BX2) (v8 : BX1) (v9 : BX2) (v10 : BX5) (v11 : BX10) (v12 : BX9) (v13 : BX1) (v14 : BX2) (v15 : BX5) (v16 : BX10) (v17 : BX12) (v18 : PB) (H : Heap) (locs : List Loc) (ls : Array Slot) (cs ss : Nat), cs ≤ 120 + (k + 1) → ss ≤ 25000 + 300 * (k + 1) → Rel v0 v1 v2 v3 v4 v5 v6 v7 v8 v9 v10 v11 v12 v13 v14 v15 v16 v17 v18 → va_P D vwCl (WSL cI cJ cZ cY q v0 v1 v2 v3 v4 v5 v6 v7 v8 v9 v10 v11 v12 v13 v14 v15 v16 v17 ++ PL cI v18) H → va_D (fun q : Nat => s.heap.size ≤ q) (WSL cI cJ cZ cY q v0 v1 v2 v3 v4 v5 v6 v7 v8 v9 v10 v11 v12 v13 v14 v15 v16 v17 ++ PL cI v18) → va_S (fun q : Nat => s.heap.size ≤ q) s.heap H locs → lv_has ls 4 [(0, .ref b), (1, .ref (q 0)), (2, .ref (q 67)), (3, .int (nI i))] → W p l e room_1 s m #[Value.ref b] below meth c H locs cs ss (lw_Z below #[Value.ref b] s) (F0 m 1282 ls []))
    (v0 : BX11) (v1 : BX3) (v2 : BX8) (v3 : BX4) (v4 : BX8) (v5 : BX7) (v6 : BX6) (v7 : BX2) (v8 : BX1) (v9 : BX2) (v10 : BX5) (v11 : BX10) (v12 : BX9) (v13 : BX1) (v14 : BX2) (v15 : BX5) (v16 : BX10) (v17 : BX12) (v18 : PB) (H : Heap) (locs : List Loc) (ls : Array Slot) (hR : Rel v0 v1 v2 v3 v4 v5 v6 v7 v8 v9 v10 v11 v12 v13 v14 v15 v16 v17 v18) (hP : va_P D vwCl (WSL cI cJ cZ cY q v0 v1 v2 v3 v4 v5 v6 v7 v8 v9 v10 v11 v12 v13 v14 v15 v16 v17 ++ PL cI v18) H) (hD : va_D (fun q : Nat => s.heap.size ≤ q) (WSL cI cJ cZ cY q v0 v1 v2 v3 v4 v5 v6 v7 v8 v9 v10 v11 v12 v13 v14 v15 v16 v17 ++ PL cI v18)) (hS : va_S (fun q : Nat => s.heap.size ≤ q) s.heap H locs) (hl : lv_has ls 4 [(0, .ref b), (1, .ref (q 0)), (2, .ref (q 67)), (3, .int (nI i))]) : W p l e room_1 s m #[Value.ref b] below meth c H locs (120 + k) (25000 + 300 * k) (lw_Z below #[Value.ref b] s) (F0 m 1002 ls []) := by
  obtain ⟨hx, hb, hr, hml, hown, hts, hX, hbl, hlocks, hgv⟩ := C0
  have htb : ∀ w ∈ TB, w.before #[Value.ref b] s = true := fun w h => hts w (tb_tbl h)
  have hA : ∀ q : Nat, s.heap.size ≤ q → (fun q : Nat => s.heap.size ≤ q) q := fun _ h => h
  have hbA : ¬ (fun q : Nat => s.heap.size ≤ q) b := Nat.not_le.mpr hbl
  refine lv_aload_n hx hb dL_law_1002 rfl (lv_at hl 1 rfl) ?_
  refine lv_aload_n hx hb dL_law_1003 rfl (lv_at hl 0 rfl) ?_
  refine lv_iload_n hx hb dL_law_1004 rfl (lv_at hl 3 rfl) ?_
  refine lv_iconst (v := 1) hx hb dL_law_1005 (by decide) ?_
  refine lv_iadd hx hb dL_law_1006 ?_
  refine va_sld hx hb hX hbl hbA hS (scr_in (j := 1) (by omega) hL rfl) dL_law_1007 ?_
  refine lv_aload_n hx hb dL_law_1008 rfl (lv_at hl 0 rfl) ?_
  refine lv_iload_n hx hb dL_law_1009 rfl (lv_at hl 3 rfl) ?_
  refine lv_iconst (v := 2) hx hb dL_law_1010 (by decide) ?_
  refine lv_iadd hx hb dL_law_1011 ?_
  refine va_sld hx hb hX hbl hbA hS (scr_in (j := 2) (by omega) hL rfl) dL_law_1012 ?_
  refine lv_aload_n hx hb dL_law_1013 rfl (lv_at hl 0 rfl) ?_
  refine lv_iload_n hx hb dL_law_1014 rfl (lv_at hl 3 rfl) ?_
  refine lv_iconst (v := 3) hx hb dL_law_1015 (by decide) ?_
  refine lv_iadd hx hb dL_law_1016 ?_
  refine va_sld hx hb hX hbl hbA hS (scr_in (j := 3) (by omega) hL rfl) dL_law_1017 ?_
  refine lv_aload_n hx hb dL_law_1018 rfl (lv_at hl 0 rfl) ?_
  refine lv_iload_n hx hb dL_law_1019 rfl (lv_at hl 3 rfl) ?_
  refine lv_iconst (v := 4) hx hb dL_law_1020 (by decide) ?_
  refine lv_iadd hx hb dL_law_1021 ?_
  refine va_sld hx hb hX hbl hbA hS (scr_in (j := 4) (by omega) hL rfl) dL_law_1022 ?_
  refine lv_aload_n hx hb dL_law_1023 rfl (lv_at hl 0 rfl) ?_
  refine lv_iload_n hx hb dL_law_1024 rfl (lv_at hl 3 rfl) ?_
  refine lv_iconst (v := 5) hx hb dL_law_1025 (by decide) ?_
  refine lv_iadd hx hb dL_law_1026 ?_
  refine va_sld hx hb hX hbl hbA hS (scr_in (j := 5) (by omega) hL rfl) dL_law_1027 ?_
  refine lv_aload_n hx hb dL_law_1028 rfl (lv_at hl 0 rfl) ?_
  refine lv_iload_n hx hb dL_law_1029 rfl (lv_at hl 3 rfl) ?_
  refine lv_bipush (v := 6) hx hb dL_law_1030 (by decide) ?_
  refine lv_iadd hx hb dL_law_1032 ?_
  refine va_sld hx hb hX hbl hbA hS (scr_in (j := 6) (by omega) hL rfl) dL_law_1033 ?_
  refine lv_aload_n hx hb dL_law_1034 rfl (lv_at hl 0 rfl) ?_
  refine lv_iload_n hx hb dL_law_1035 rfl (lv_at hl 3 rfl) ?_
  refine lv_bipush (v := 7) hx hb dL_law_1036 (by decide) ?_
  refine lv_iadd hx hb dL_law_1038 ?_
  refine va_sld hx hb hX hbl hbA hS (scr_in (j := 7) (by omega) hL rfl) dL_law_1039 ?_
  refine lv_aload_n hx hb dL_law_1040 rfl (lv_at hl 0 rfl) ?_
  refine lv_iload_n hx hb dL_law_1041 rfl (lv_at hl 3 rfl) ?_
  refine lv_bipush (v := 8) hx hb dL_law_1042 (by decide) ?_
  refine lv_iadd hx hb dL_law_1044 ?_
  refine va_sld hx hb hX hbl hbA hS (scr_in (j := 8) (by omega) hL rfl) dL_law_1045 ?_
  obtain ⟨r, x, y, hfx, hfm, hR2⟩ := o_safe v0 v1 v2 v3 v4 v5 v6 v7 v8 v9 v10 v11 v12 v13 v14 v15 v16 v17 v18 hR (xs (nI i + 1).toNatClampNeg) (xs (nI i + 2).toNatClampNeg) (xs (nI i + 3).toNatClampNeg) (xs (nI i + 4).toNatClampNeg) (xs (nI i + 5).toNatClampNeg) (xs (nI i + 6).toNatClampNeg) (xs (nI i + 7).toNatClampNeg) (xs (nI i + 8).toNatClampNeg)
  refine cc_iP (va_runV (C := RX11) (As := [.int (xs (nI i + 1).toNatClampNeg), .int (xs (nI i + 2).toNatClampNeg), .int (xs (nI i + 3).toNatClampNeg), .int (xs (nI i + 4).toNatClampNeg), .int (xs (nI i + 5).toNatClampNeg), .int (xs (nI i + 6).toNatClampNeg), .int (xs (nI i + 7).toNatClampNeg), .int (xs (nI i + 8).toNatClampNeg)]) (rest := []) ⟨hx, hb, hml, hown, htb⟩ (k_X11_safe (q 0) (q 1) (q 2) (q 8) (q 6) (q 3) (q 4) (q 5) (q 28) (q 25) (q 10) (q 11) (q 12) (q 13) (q 14) (q 15) (q 16) (q 17) (q 18) (q 19) (q 20) (q 21) (q 22) (q 23) (q 24) (q 34) (q 35) (q 36) (q 37) (q 38) (q 39) (q 40) v0 v1 v2 v5 v6 v7 v8 v11 v18 (xs (nI i + 1).toNatClampNeg) (xs (nI i + 2).toNatClampNeg) (xs (nI i + 3).toNatClampNeg) (xs (nI i + 4).toNatClampNeg) (xs (nI i + 5).toNatClampNeg) (xs (nI i + 6).toNatClampNeg) (xs (nI i + 7).toNatClampNeg) (xs (nI i + 8).toNatClampNeg) (r, x) hfx) (cw_V 8 htb tg_836 tg_1 tg_833 tg_834 tg_835 rfl rfl (by decide +kernel) ⟨Nat.le_of_ble_eq_true rfl, Nat.le_of_ble_eq_true rfl⟩) ⟨PC.blind, va_recv hK.1 hP (ci := 10) (q0 := 0) rfl rfl, PC.preP hK hT hP hD hS hA [0, 3, 4, 5, 10, 11, 12, 13, 14, 15, 16, 17, 18, 19, 20, 21, 22, 23, 24, 34, 35, 36, 37, 38, 39, 40] rfl (by decide)⟩ rfl rfl hl.1 rfl (lv_room (Nat.le_of_ble_eq_true rfl)) dL_law_1046 ⟨by show _ ≤ 600000; omega, by show _ ≤ 7302250; omega⟩) hP hD hS hA [0, 3, 4, 5, 10, 11, 12, 13, 14, 15, 16, 17, 18, 19, 20, 21, 22, 23, 24, 34, 35, 36, 37, 38, 39, 40] [1, 2, 6, 7, 8, 9, 25, 26, 27, 28, 29, 30, 31, 32, 33, 41, 42, 43, 44, 45, 46, 47, 48, 49, 50, 51, 52, 53, 54, 55, 56, 57, 58, 59, 60, 61, 62, 63, 64, 65, 66, 67, 68, 69, 70, 71, 72, 73, 74, 75, 76, 77, 78, 79, 80, 81] rfl rfl (by decide) (by decide) (fun r8 u8 H locs hw hP hD hS => ?_)
  obtain ⟨hw, hw2⟩ := hw
  have hw : r8 = r := hw
  have hw2 : u8 = x := hw2
  subst hw
  subst hw2
  have hP : va_P D vwCl (WSL cI cJ cZ cY q v0 v1 v2 v3 v4 u8.1 u8.2.1 u8.2.2 v8 v9 v10 v11 v12 v13 v14 v15 v16 v17 ++ PL cI v18) H := hP.by _ (va_part (cx := WSL cI cJ cZ cY q v0 v1 v2 v3 v4 u8.1 u8.2.1 u8.2.2 v8 v9 v10 v11 v12 v13 v14 v15 v16 v17) [56, 0, 1, 57, 58, 59, 2, 3, 4, 5, 60, 61, 62, 63, 64, 65, 66, 67, 68, 69, 70, 71, 72, 73, 74, 6, 7, 8, 9, 10, 11, 12, 13, 14, 75, 76, 77, 78, 79, 80, 81, 15, 16, 17, 18, 19, 20, 21, 22, 23, 24, 25, 26, 27, 28, 29, 30, 31, 32, 33, 34, 35, 36, 37, 38, 39, 40, 41, 42, 43, 44, 45, 46, 47, 48, 49, 50, 51, 52, 53, 54, 55] rfl)
  have hD : va_D (fun q : Nat => s.heap.size ≤ q) (WSL cI cJ cZ cY q v0 v1 v2 v3 v4 u8.1 u8.2.1 u8.2.2 v8 v9 v10 v11 v12 v13 v14 v15 v16 v17 ++ PL cI v18) := hD.part (cx := WSL cI cJ cZ cY q v0 v1 v2 v3 v4 u8.1 u8.2.1 u8.2.2 v8 v9 v10 v11 v12 v13 v14 v15 v16 v17) [56, 0, 1, 57, 58, 59, 2, 3, 4, 5, 60, 61, 62, 63, 64, 65, 66, 67, 68, 69, 70, 71, 72, 73, 74, 6, 7, 8, 9, 10, 11, 12, 13, 14, 75, 76, 77, 78, 79, 80, 81, 15, 16, 17, 18, 19, 20, 21, 22, 23, 24, 25, 26, 27, 28, 29, 30, 31, 32, 33, 34, 35, 36, 37, 38, 39, 40, 41, 42, 43, 44, 45, 46, 47, 48, 49, 50, 51, 52, 53, 54, 55] (by decide) rfl
  refine lv_aload_n hx hb dL_law_1049 rfl (lv_at hl 2 rfl) ?_
  refine lv_aload_n hx hb dL_law_1050 rfl (lv_at hl 0 rfl) ?_
  refine lv_iload_n hx hb dL_law_1051 rfl (lv_at hl 3 rfl) ?_
  refine lv_iconst (v := 1) hx hb dL_law_1052 (by decide) ?_
  refine lv_iadd hx hb dL_law_1053 ?_
  refine va_sld hx hb hX hbl hbA hS (scr_in (j := 1) (by omega) hL rfl) dL_law_1054 ?_
  refine lv_aload_n hx hb dL_law_1055 rfl (lv_at hl 0 rfl) ?_
  refine lv_iload_n hx hb dL_law_1056 rfl (lv_at hl 3 rfl) ?_
  refine lv_iconst (v := 2) hx hb dL_law_1057 (by decide) ?_
  refine lv_iadd hx hb dL_law_1058 ?_
  refine va_sld hx hb hX hbl hbA hS (scr_in (j := 2) (by omega) hL rfl) dL_law_1059 ?_
  refine lv_aload_n hx hb dL_law_1060 rfl (lv_at hl 0 rfl) ?_
  refine lv_iload_n hx hb dL_law_1061 rfl (lv_at hl 3 rfl) ?_
  refine lv_iconst (v := 3) hx hb dL_law_1062 (by decide) ?_
  refine lv_iadd hx hb dL_law_1063 ?_
  refine va_sld hx hb hX hbl hbA hS (scr_in (j := 3) (by omega) hL rfl) dL_law_1064 ?_
  refine lv_aload_n hx hb dL_law_1065 rfl (lv_at hl 0 rfl) ?_
  refine lv_iload_n hx hb dL_law_1066 rfl (lv_at hl 3 rfl) ?_
  refine lv_iconst (v := 4) hx hb dL_law_1067 (by decide) ?_
  refine lv_iadd hx hb dL_law_1068 ?_
  refine va_sld hx hb hX hbl hbA hS (scr_in (j := 4) (by omega) hL rfl) dL_law_1069 ?_
  refine lv_aload_n hx hb dL_law_1070 rfl (lv_at hl 0 rfl) ?_
  refine lv_iload_n hx hb dL_law_1071 rfl (lv_at hl 3 rfl) ?_
  refine lv_iconst (v := 5) hx hb dL_law_1072 (by decide) ?_
  refine lv_iadd hx hb dL_law_1073 ?_
  refine va_sld hx hb hX hbl hbA hS (scr_in (j := 5) (by omega) hL rfl) dL_law_1074 ?_
  refine lv_aload_n hx hb dL_law_1075 rfl (lv_at hl 0 rfl) ?_
  refine lv_iload_n hx hb dL_law_1076 rfl (lv_at hl 3 rfl) ?_
  refine lv_bipush (v := 6) hx hb dL_law_1077 (by decide) ?_
  refine lv_iadd hx hb dL_law_1079 ?_
  refine va_sld hx hb hX hbl hbA hS (scr_in (j := 6) (by omega) hL rfl) dL_law_1080 ?_
  refine lv_aload_n hx hb dL_law_1081 rfl (lv_at hl 0 rfl) ?_
  refine lv_iload_n hx hb dL_law_1082 rfl (lv_at hl 3 rfl) ?_
  refine lv_bipush (v := 7) hx hb dL_law_1083 (by decide) ?_
  refine lv_iadd hx hb dL_law_1085 ?_
  refine va_sld hx hb hX hbl hbA hS (scr_in (j := 7) (by omega) hL rfl) dL_law_1086 ?_
  refine lv_aload_n hx hb dL_law_1087 rfl (lv_at hl 0 rfl) ?_
  refine lv_iload_n hx hb dL_law_1088 rfl (lv_at hl 3 rfl) ?_
  refine lv_bipush (v := 8) hx hb dL_law_1089 (by decide) ?_
  refine lv_iadd hx hb dL_law_1091 ?_
  refine va_sld hx hb hX hbl hbA hS (scr_in (j := 8) (by omega) hL rfl) dL_law_1092 ?_
  refine cc_iQ (va_runV (C := RX12) (As := [.int (xs (nI i + 1).toNatClampNeg), .int (xs (nI i + 2).toNatClampNeg), .int (xs (nI i + 3).toNatClampNeg), .int (xs (nI i + 4).toNatClampNeg), .int (xs (nI i + 5).toNatClampNeg), .int (xs (nI i + 6).toNatClampNeg), .int (xs (nI i + 7).toNatClampNeg), .int (xs (nI i + 8).toNatClampNeg)]) (rest := [.int r8]) ⟨hx, hb, hml, hown, htb⟩ (k_X12_safe (q 67) (q 68) (q 69) (q 70) (q 71) (q 72) (q 73) (q 74) (q 75) (q 76) (q 77) (q 78) (q 79) (q 80) (q 81) v17 (xs (nI i + 1).toNatClampNeg) (xs (nI i + 2).toNatClampNeg) (xs (nI i + 3).toNatClampNeg) (xs (nI i + 4).toNatClampNeg) (xs (nI i + 5).toNatClampNeg) (xs (nI i + 6).toNatClampNeg) (xs (nI i + 7).toNatClampNeg) (xs (nI i + 8).toNatClampNeg) (r8, y) hfm) (cw_V 8 htb tg_1357 tg_13 tg_1354 tg_1355 tg_1356 rfl rfl (by decide +kernel) ⟨Nat.le_of_ble_eq_true rfl, Nat.le_of_ble_eq_true rfl⟩) ⟨PC.blind, va_recv hK.1 hP (ci := 11) (q0 := 67) rfl rfl, PC.pre hK hT hP hD hS hA [67, 68, 69, 70, 71, 72, 73, 74, 75, 76, 77, 78, 79, 80, 81] rfl (by decide)⟩ rfl rfl hl.1 rfl (lv_room (Nat.le_of_ble_eq_true rfl)) dL_law_1093 ⟨by show _ ≤ 600000; omega, by show _ ≤ 7302250; omega⟩) hP hD hS hA [67, 68, 69, 70, 71, 72, 73, 74, 75, 76, 77, 78, 79, 80, 81] [0, 1, 2, 3, 4, 5, 6, 7, 8, 9, 10, 11, 12, 13, 14, 15, 16, 17, 18, 19, 20, 21, 22, 23, 24, 25, 26, 27, 28, 29, 30, 31, 32, 33, 34, 35, 36, 37, 38, 39, 40, 41, 42, 43, 44, 45, 46, 47, 48, 49, 50, 51, 52, 53, 54, 55, 56, 57, 58, 59, 60, 61, 62, 63, 64, 65, 66] rfl rfl (by decide) (by decide) rfl (fun r9 u9 H locs hw hP hD hS => ?_)
  obtain ⟨hw, hw2⟩ := hw
  try dsimp only at hw hw2
  rw [hw2] at hP hD
  have hP : va_P D vwCl (WSL cI cJ cZ cY q v0 v1 v2 v3 v4 u8.1 u8.2.1 u8.2.2 v8 v9 v10 v11 v12 v13 v14 v15 v16 y ++ PL cI v18) H := hP.by _ (va_part (cx := WSL cI cJ cZ cY q v0 v1 v2 v3 v4 u8.1 u8.2.1 u8.2.2 v8 v9 v10 v11 v12 v13 v14 v15 v16 y) [0, 1, 2, 3, 4, 5, 6, 7, 8, 9, 10, 11, 12, 13, 14, 15, 16, 17, 18, 19, 20, 21, 22, 23, 24, 25, 26, 27, 28, 29, 30, 31, 32, 33, 34, 35, 36, 37, 38, 39, 40, 41, 42, 43, 44, 45, 46, 47, 48, 49, 50, 51, 52, 53, 54, 55, 56, 57, 58, 59, 60, 61, 62, 63, 64, 65, 66, 67, 68, 69, 70, 71, 72, 73, 74, 75, 76, 77, 78, 79, 80, 81] rfl)
  have hD : va_D (fun q : Nat => s.heap.size ≤ q) (WSL cI cJ cZ cY q v0 v1 v2 v3 v4 u8.1 u8.2.1 u8.2.2 v8 v9 v10 v11 v12 v13 v14 v15 v16 y ++ PL cI v18) := hD.part (cx := WSL cI cJ cZ cY q v0 v1 v2 v3 v4 u8.1 u8.2.1 u8.2.2 v8 v9 v10 v11 v12 v13 v14 v15 v16 y) [0, 1, 2, 3, 4, 5, 6, 7, 8, 9, 10, 11, 12, 13, 14, 15, 16, 17, 18, 19, 20, 21, 22, 23, 24, 25, 26, 27, 28, 29, 30, 31, 32, 33, 34, 35, 36, 37, 38, 39, 40, 41, 42, 43, 44, 45, 46, 47, 48, 49, 50, 51, 52, 53, 54, 55, 56, 57, 58, 59, 60, 61, 62, 63, 64, 65, 66, 67, 68, 69, 70, 71, 72, 73, 74, 75, 76, 77, 78, 79, 80, 81] (by decide) rfl
  refine lv_icmp_eq (tgt := 1282) hx hb dL_law_1096 (by decide) (fun _ => ?_) (fun c_2 => absurd hw.symm c_2)
  exact hnext v0 v1 v2 v3 v4 u8.1 u8.2.1 u8.2.2 v8 v9 v10 v11 v12 v13 v14 v15 v16 y v18 H locs ls _ _ (by omega) (by omega) hR2 hP hD hS (lv_sub hl [0, 1, 2, 3] rfl)
set_option maxHeartbeats 8000000 in
set_option maxRecDepth 100000 in
theorem lc_read {p : Program} {l : Launch} {e : Env} {s : State} {m : MethodId} {below : List Frame} {meth : Method} {c : Code} {D : va_G} {cI cJ cZ cY : ClassId} {tX tY : Nat} {b L : Nat} {xs : Nat → Int32} (hL : L ≤ 4610) (C0 : lw_At p s m meth c b L xs) (hK : KU D cI cJ cZ cY s) (hT : ST tX tY (fun q : Nat => s.heap.size ≤ q) s s.heap) (q : Nat → Nat) (Rel : RelT) (o_read : Op_read Rel) {i k : Nat} (hiL : i + 9 ≤ L) (hk1 : k + 1 ≤ 512)
    (hnext : ∀ (v0 : BX11) (v1 : BX3) (v2 : BX8) (v3 : BX4) (v4 : BX8) (v5 : BX7) (v6 : BX6) (v7 : BX2) (v8 : BX1) (v9 : BX2) (v10 : BX5) (v11 : BX10) (v12 : BX9) (v13 : BX1) (v14 : BX2) (v15 : BX5) (v16 : BX10) (v17 : BX12) (v18 : PB) (H : Heap) (locs : List Loc) (ls : Array Slot) (cs ss : Nat), cs ≤ 120 + (k + 1) → ss ≤ 25000 + 300 * (k + 1) → Rel v0 v1 v2 v3 v4 v5 v6 v7 v8 v9 v10 v11 v12 v13 v14 v15 v16 v17 v18 → va_P D vwCl (WSL cI cJ cZ cY q v0 v1 v2 v3 v4 v5 v6 v7 v8 v9 v10 v11 v12 v13 v14 v15 v16 v17 ++ PL cI v18) H → va_D (fun q : Nat => s.heap.size ≤ q) (WSL cI cJ cZ cY q v0 v1 v2 v3 v4 v5 v6 v7 v8 v9 v10 v11 v12 v13 v14 v15 v16 v17 ++ PL cI v18) → va_S (fun q : Nat => s.heap.size ≤ q) s.heap H locs → lv_has ls 4 [(0, .ref b), (1, .ref (q 0)), (2, .ref (q 67)), (3, .int (nI i))] → W p l e room_1 s m #[Value.ref b] below meth c H locs cs ss (lw_Z below #[Value.ref b] s) (F0 m 1282 ls []))
    (v0 : BX11) (v1 : BX3) (v2 : BX8) (v3 : BX4) (v4 : BX8) (v5 : BX7) (v6 : BX6) (v7 : BX2) (v8 : BX1) (v9 : BX2) (v10 : BX5) (v11 : BX10) (v12 : BX9) (v13 : BX1) (v14 : BX2) (v15 : BX5) (v16 : BX10) (v17 : BX12) (v18 : PB) (H : Heap) (locs : List Loc) (ls : Array Slot) (hR : Rel v0 v1 v2 v3 v4 v5 v6 v7 v8 v9 v10 v11 v12 v13 v14 v15 v16 v17 v18) (hP : va_P D vwCl (WSL cI cJ cZ cY q v0 v1 v2 v3 v4 v5 v6 v7 v8 v9 v10 v11 v12 v13 v14 v15 v16 v17 ++ PL cI v18) H) (hD : va_D (fun q : Nat => s.heap.size ≤ q) (WSL cI cJ cZ cY q v0 v1 v2 v3 v4 v5 v6 v7 v8 v9 v10 v11 v12 v13 v14 v15 v16 v17 ++ PL cI v18)) (hS : va_S (fun q : Nat => s.heap.size ≤ q) s.heap H locs) (hl : lv_has ls 4 [(0, .ref b), (1, .ref (q 0)), (2, .ref (q 67)), (3, .int (nI i))]) : W p l e room_1 s m #[Value.ref b] below meth c H locs (120 + k) (25000 + 300 * k) (lw_Z below #[Value.ref b] s) (F0 m 1101 ls []) := by
  obtain ⟨hx, hb, hr, hml, hown, hts, hX, hbl, hlocks, hgv⟩ := C0
  have htb : ∀ w ∈ TB, w.before #[Value.ref b] s = true := fun w h => hts w (tb_tbl h)
  have hA : ∀ q : Nat, s.heap.size ≤ q → (fun q : Nat => s.heap.size ≤ q) q := fun _ h => h
  have hbA : ¬ (fun q : Nat => s.heap.size ≤ q) b := Nat.not_le.mpr hbl
  refine lv_aload_n hx hb dL_law_1101 rfl (lv_at hl 1 rfl) ?_
  refine lv_aload_n hx hb dL_law_1102 rfl (lv_at hl 0 rfl) ?_
  refine lv_iload_n hx hb dL_law_1103 rfl (lv_at hl 3 rfl) ?_
  refine lv_iconst (v := 1) hx hb dL_law_1104 (by decide) ?_
  refine lv_iadd hx hb dL_law_1105 ?_
  refine va_sld hx hb hX hbl hbA hS (scr_in (j := 1) (by omega) hL rfl) dL_law_1106 ?_
  refine lv_aload_n hx hb dL_law_1107 rfl (lv_at hl 0 rfl) ?_
  refine lv_iload_n hx hb dL_law_1108 rfl (lv_at hl 3 rfl) ?_
  refine lv_iconst (v := 2) hx hb dL_law_1109 (by decide) ?_
  refine lv_iadd hx hb dL_law_1110 ?_
  refine va_sld hx hb hX hbl hbA hS (scr_in (j := 2) (by omega) hL rfl) dL_law_1111 ?_
  refine lv_aload_n hx hb dL_law_1112 rfl (lv_at hl 0 rfl) ?_
  refine lv_iload_n hx hb dL_law_1113 rfl (lv_at hl 3 rfl) ?_
  refine lv_iconst (v := 3) hx hb dL_law_1114 (by decide) ?_
  refine lv_iadd hx hb dL_law_1115 ?_
  refine va_sld hx hb hX hbl hbA hS (scr_in (j := 3) (by omega) hL rfl) dL_law_1116 ?_
  obtain ⟨r, x, y, hfx, hfm, hR2⟩ := o_read v0 v1 v2 v3 v4 v5 v6 v7 v8 v9 v10 v11 v12 v13 v14 v15 v16 v17 v18 hR (xs (nI i + 1).toNatClampNeg) (xs (nI i + 2).toNatClampNeg) (xs (nI i + 3).toNatClampNeg)
  refine cc_iQ (va_runV (C := RX11) (As := [.int (xs (nI i + 1).toNatClampNeg), .int (xs (nI i + 2).toNatClampNeg), .int (xs (nI i + 3).toNatClampNeg)]) (rest := []) ⟨hx, hb, hml, hown, htb⟩ (k_X11_read (q 0) (q 1) (q 2) (q 8) (q 10) (q 3) (q 6) (q 4) (q 5) (q 19) (q 25) (q 28) (q 29) (q 30) (q 31) (q 32) (q 33) (q 34) (q 35) (q 36) (q 37) (q 38) (q 39) (q 40) v0 v2 v10 v11 (xs (nI i + 1).toNatClampNeg) (xs (nI i + 2).toNatClampNeg) (xs (nI i + 3).toNatClampNeg) (r, x) hfx) (cw_V 3 htb tg_847 tg_1 tg_844 tg_845 tg_846 rfl rfl (by decide +kernel) ⟨Nat.le_of_ble_eq_true rfl, Nat.le_of_ble_eq_true rfl⟩) ⟨PC.blind, va_recv hK.1 hP (ci := 10) (q0 := 0) rfl rfl, PC.pre hK hT hP hD hS hA [0, 4, 5, 28, 29, 30, 31, 32, 33, 34, 35, 36, 37, 38, 39, 40] rfl (by decide)⟩ rfl rfl hl.1 rfl (lv_room (Nat.le_of_ble_eq_true rfl)) dL_law_1117 ⟨by show _ ≤ 600000; omega, by show _ ≤ 7302250; omega⟩) hP hD hS hA [0, 4, 5, 28, 29, 30, 31, 32, 33, 34, 35, 36, 37, 38, 39, 40] [1, 2, 3, 6, 7, 8, 9, 10, 11, 12, 13, 14, 15, 16, 17, 18, 19, 20, 21, 22, 23, 24, 25, 26, 27, 41, 42, 43, 44, 45, 46, 47, 48, 49, 50, 51, 52, 53, 54, 55, 56, 57, 58, 59, 60, 61, 62, 63, 64, 65, 66, 67, 68, 69, 70, 71, 72, 73, 74, 75, 76, 77, 78, 79, 80, 81] rfl rfl (by decide) (by decide) rfl (fun r8 u8 H locs hw hP hD hS => ?_)
  obtain ⟨hw, hw2⟩ := hw
  have hw : r8 = r := hw
  have hw2 : u8 = x := hw2
  subst hw
  subst hw2
  have hP : va_P D vwCl (WSL cI cJ cZ cY q v0 v1 v2 v3 v4 v5 v6 v7 v8 v9 u8 v11 v12 v13 v14 v15 v16 v17 ++ PL cI v18) H := hP.by _ (va_part (cx := WSL cI cJ cZ cY q v0 v1 v2 v3 v4 v5 v6 v7 v8 v9 u8 v11 v12 v13 v14 v15 v16 v17) [66, 0, 1, 2, 67, 68, 3, 4, 5, 6, 7, 8, 9, 10, 11, 12, 13, 14, 15, 16, 17, 18, 19, 20, 21, 22, 23, 24, 69, 70, 71, 72, 73, 74, 75, 76, 77, 78, 79, 80, 81, 25, 26, 27, 28, 29, 30, 31, 32, 33, 34, 35, 36, 37, 38, 39, 40, 41, 42, 43, 44, 45, 46, 47, 48, 49, 50, 51, 52, 53, 54, 55, 56, 57, 58, 59, 60, 61, 62, 63, 64, 65] rfl)
  have hD : va_D (fun q : Nat => s.heap.size ≤ q) (WSL cI cJ cZ cY q v0 v1 v2 v3 v4 v5 v6 v7 v8 v9 u8 v11 v12 v13 v14 v15 v16 v17 ++ PL cI v18) := hD.part (cx := WSL cI cJ cZ cY q v0 v1 v2 v3 v4 v5 v6 v7 v8 v9 u8 v11 v12 v13 v14 v15 v16 v17) [66, 0, 1, 2, 67, 68, 3, 4, 5, 6, 7, 8, 9, 10, 11, 12, 13, 14, 15, 16, 17, 18, 19, 20, 21, 22, 23, 24, 69, 70, 71, 72, 73, 74, 75, 76, 77, 78, 79, 80, 81, 25, 26, 27, 28, 29, 30, 31, 32, 33, 34, 35, 36, 37, 38, 39, 40, 41, 42, 43, 44, 45, 46, 47, 48, 49, 50, 51, 52, 53, 54, 55, 56, 57, 58, 59, 60, 61, 62, 63, 64, 65] (by decide) rfl
  refine lv_aload_n hx hb dL_law_1120 rfl (lv_at hl 2 rfl) ?_
  refine lv_aload_n hx hb dL_law_1121 rfl (lv_at hl 0 rfl) ?_
  refine lv_iload_n hx hb dL_law_1122 rfl (lv_at hl 3 rfl) ?_
  refine lv_iconst (v := 1) hx hb dL_law_1123 (by decide) ?_
  refine lv_iadd hx hb dL_law_1124 ?_
  refine va_sld hx hb hX hbl hbA hS (scr_in (j := 1) (by omega) hL rfl) dL_law_1125 ?_
  refine lv_aload_n hx hb dL_law_1126 rfl (lv_at hl 0 rfl) ?_
  refine lv_iload_n hx hb dL_law_1127 rfl (lv_at hl 3 rfl) ?_
  refine lv_iconst (v := 2) hx hb dL_law_1128 (by decide) ?_
  refine lv_iadd hx hb dL_law_1129 ?_
  refine va_sld hx hb hX hbl hbA hS (scr_in (j := 2) (by omega) hL rfl) dL_law_1130 ?_
  refine lv_aload_n hx hb dL_law_1131 rfl (lv_at hl 0 rfl) ?_
  refine lv_iload_n hx hb dL_law_1132 rfl (lv_at hl 3 rfl) ?_
  refine lv_iconst (v := 3) hx hb dL_law_1133 (by decide) ?_
  refine lv_iadd hx hb dL_law_1134 ?_
  refine va_sld hx hb hX hbl hbA hS (scr_in (j := 3) (by omega) hL rfl) dL_law_1135 ?_
  refine cc_iQ (va_runV (C := RX12) (As := [.int (xs (nI i + 1).toNatClampNeg), .int (xs (nI i + 2).toNatClampNeg), .int (xs (nI i + 3).toNatClampNeg)]) (rest := [.int r8]) ⟨hx, hb, hml, hown, htb⟩ (k_X12_read (q 67) (q 68) (q 69) (q 70) (q 71) (q 72) (q 73) (q 74) (q 75) (q 76) (q 77) (q 78) (q 79) (q 80) (q 81) v17 (xs (nI i + 1).toNatClampNeg) (xs (nI i + 2).toNatClampNeg) (xs (nI i + 3).toNatClampNeg) (r8, y) hfm) (cw_V 3 htb tg_1361 tg_13 tg_1358 tg_1359 tg_1360 rfl rfl (by decide +kernel) ⟨Nat.le_of_ble_eq_true rfl, Nat.le_of_ble_eq_true rfl⟩) ⟨PC.blind, va_recv hK.1 hP (ci := 11) (q0 := 67) rfl rfl, PC.pre hK hT hP hD hS hA [67, 68, 69, 70, 71, 72, 73, 74, 75, 76, 77, 78, 79, 80, 81] rfl (by decide)⟩ rfl rfl hl.1 rfl (lv_room (Nat.le_of_ble_eq_true rfl)) dL_law_1136 ⟨by show _ ≤ 600000; omega, by show _ ≤ 7302250; omega⟩) hP hD hS hA [67, 68, 69, 70, 71, 72, 73, 74, 75, 76, 77, 78, 79, 80, 81] [0, 1, 2, 3, 4, 5, 6, 7, 8, 9, 10, 11, 12, 13, 14, 15, 16, 17, 18, 19, 20, 21, 22, 23, 24, 25, 26, 27, 28, 29, 30, 31, 32, 33, 34, 35, 36, 37, 38, 39, 40, 41, 42, 43, 44, 45, 46, 47, 48, 49, 50, 51, 52, 53, 54, 55, 56, 57, 58, 59, 60, 61, 62, 63, 64, 65, 66] rfl rfl (by decide) (by decide) rfl (fun r9 u9 H locs hw hP hD hS => ?_)
  obtain ⟨hw, hw2⟩ := hw
  try dsimp only at hw hw2
  rw [hw2] at hP hD
  have hP : va_P D vwCl (WSL cI cJ cZ cY q v0 v1 v2 v3 v4 v5 v6 v7 v8 v9 u8 v11 v12 v13 v14 v15 v16 y ++ PL cI v18) H := hP.by _ (va_part (cx := WSL cI cJ cZ cY q v0 v1 v2 v3 v4 v5 v6 v7 v8 v9 u8 v11 v12 v13 v14 v15 v16 y) [0, 1, 2, 3, 4, 5, 6, 7, 8, 9, 10, 11, 12, 13, 14, 15, 16, 17, 18, 19, 20, 21, 22, 23, 24, 25, 26, 27, 28, 29, 30, 31, 32, 33, 34, 35, 36, 37, 38, 39, 40, 41, 42, 43, 44, 45, 46, 47, 48, 49, 50, 51, 52, 53, 54, 55, 56, 57, 58, 59, 60, 61, 62, 63, 64, 65, 66, 67, 68, 69, 70, 71, 72, 73, 74, 75, 76, 77, 78, 79, 80, 81] rfl)
  have hD : va_D (fun q : Nat => s.heap.size ≤ q) (WSL cI cJ cZ cY q v0 v1 v2 v3 v4 v5 v6 v7 v8 v9 u8 v11 v12 v13 v14 v15 v16 y ++ PL cI v18) := hD.part (cx := WSL cI cJ cZ cY q v0 v1 v2 v3 v4 v5 v6 v7 v8 v9 u8 v11 v12 v13 v14 v15 v16 y) [0, 1, 2, 3, 4, 5, 6, 7, 8, 9, 10, 11, 12, 13, 14, 15, 16, 17, 18, 19, 20, 21, 22, 23, 24, 25, 26, 27, 28, 29, 30, 31, 32, 33, 34, 35, 36, 37, 38, 39, 40, 41, 42, 43, 44, 45, 46, 47, 48, 49, 50, 51, 52, 53, 54, 55, 56, 57, 58, 59, 60, 61, 62, 63, 64, 65, 66, 67, 68, 69, 70, 71, 72, 73, 74, 75, 76, 77, 78, 79, 80, 81] (by decide) rfl
  refine lv_icmp_eq (tgt := 1282) hx hb dL_law_1139 (by decide) (fun _ => ?_) (fun c_2 => absurd hw.symm c_2)
  exact hnext v0 v1 v2 v3 v4 v5 v6 v7 v8 v9 u8 v11 v12 v13 v14 v15 v16 y v18 H locs ls _ _ (by omega) (by omega) hR2 hP hD hS (lv_sub hl [0, 1, 2, 3] rfl)
set_option maxHeartbeats 8000000 in
set_option maxRecDepth 100000 in
theorem lc_turned {p : Program} {l : Launch} {e : Env} {s : State} {m : MethodId} {below : List Frame} {meth : Method} {c : Code} {D : va_G} {cI cJ cZ cY : ClassId} {tX tY : Nat} {b L : Nat} {xs : Nat → Int32} (hL : L ≤ 4610) (C0 : lw_At p s m meth c b L xs) (hK : KU D cI cJ cZ cY s) (hT : ST tX tY (fun q : Nat => s.heap.size ≤ q) s s.heap) (q : Nat → Nat) (Rel : RelT) (o_turned : Op_turned Rel) {i k : Nat} (hiL : i + 9 ≤ L) (hk1 : k + 1 ≤ 512)
    (hnext : ∀ (v0 : BX11) (v1 : BX3) (v2 : BX8) (v3 : BX4) (v4 : BX8) (v5 : BX7) (v6 : BX6) (v7 : BX2) (v8 : BX1) (v9 : BX2) (v10 : BX5) (v11 : BX10) (v12 : BX9) (v13 : BX1) (v14 : BX2) (v15 : BX5) (v16 : BX10) (v17 : BX12) (v18 : PB) (H : Heap) (locs : List Loc) (ls : Array Slot) (cs ss : Nat), cs ≤ 120 + (k + 1) → ss ≤ 25000 + 300 * (k + 1) → Rel v0 v1 v2 v3 v4 v5 v6 v7 v8 v9 v10 v11 v12 v13 v14 v15 v16 v17 v18 → va_P D vwCl (WSL cI cJ cZ cY q v0 v1 v2 v3 v4 v5 v6 v7 v8 v9 v10 v11 v12 v13 v14 v15 v16 v17 ++ PL cI v18) H → va_D (fun q : Nat => s.heap.size ≤ q) (WSL cI cJ cZ cY q v0 v1 v2 v3 v4 v5 v6 v7 v8 v9 v10 v11 v12 v13 v14 v15 v16 v17 ++ PL cI v18) → va_S (fun q : Nat => s.heap.size ≤ q) s.heap H locs → lv_has ls 4 [(0, .ref b), (1, .ref (q 0)), (2, .ref (q 67)), (3, .int (nI i))] → W p l e room_1 s m #[Value.ref b] below meth c H locs cs ss (lw_Z below #[Value.ref b] s) (F0 m 1282 ls []))
    (v0 : BX11) (v1 : BX3) (v2 : BX8) (v3 : BX4) (v4 : BX8) (v5 : BX7) (v6 : BX6) (v7 : BX2) (v8 : BX1) (v9 : BX2) (v10 : BX5) (v11 : BX10) (v12 : BX9) (v13 : BX1) (v14 : BX2) (v15 : BX5) (v16 : BX10) (v17 : BX12) (v18 : PB) (H : Heap) (locs : List Loc) (ls : Array Slot) (hR : Rel v0 v1 v2 v3 v4 v5 v6 v7 v8 v9 v10 v11 v12 v13 v14 v15 v16 v17 v18) (hP : va_P D vwCl (WSL cI cJ cZ cY q v0 v1 v2 v3 v4 v5 v6 v7 v8 v9 v10 v11 v12 v13 v14 v15 v16 v17 ++ PL cI v18) H) (hD : va_D (fun q : Nat => s.heap.size ≤ q) (WSL cI cJ cZ cY q v0 v1 v2 v3 v4 v5 v6 v7 v8 v9 v10 v11 v12 v13 v14 v15 v16 v17 ++ PL cI v18)) (hS : va_S (fun q : Nat => s.heap.size ≤ q) s.heap H locs) (hl : lv_has ls 4 [(0, .ref b), (1, .ref (q 0)), (2, .ref (q 67)), (3, .int (nI i))]) : W p l e room_1 s m #[Value.ref b] below meth c H locs (120 + k) (25000 + 300 * k) (lw_Z below #[Value.ref b] s) (F0 m 1144 ls []) := by
  obtain ⟨hx, hb, hr, hml, hown, hts, hX, hbl, hlocks, hgv⟩ := C0
  have htb : ∀ w ∈ TB, w.before #[Value.ref b] s = true := fun w h => hts w (tb_tbl h)
  have hA : ∀ q : Nat, s.heap.size ≤ q → (fun q : Nat => s.heap.size ≤ q) q := fun _ h => h
  have hbA : ¬ (fun q : Nat => s.heap.size ≤ q) b := Nat.not_le.mpr hbl
  refine lv_aload_n hx hb dL_law_1144 rfl (lv_at hl 1 rfl) ?_
  refine lv_aload_n hx hb dL_law_1145 rfl (lv_at hl 0 rfl) ?_
  refine lv_iload_n hx hb dL_law_1146 rfl (lv_at hl 3 rfl) ?_
  refine lv_iconst (v := 1) hx hb dL_law_1147 (by decide) ?_
  refine lv_iadd hx hb dL_law_1148 ?_
  refine va_sld hx hb hX hbl hbA hS (scr_in (j := 1) (by omega) hL rfl) dL_law_1149 ?_
  refine lv_aload_n hx hb dL_law_1150 rfl (lv_at hl 0 rfl) ?_
  refine lv_iload_n hx hb dL_law_1151 rfl (lv_at hl 3 rfl) ?_
  refine lv_iconst (v := 2) hx hb dL_law_1152 (by decide) ?_
  refine lv_iadd hx hb dL_law_1153 ?_
  refine va_sld hx hb hX hbl hbA hS (scr_in (j := 2) (by omega) hL rfl) dL_law_1154 ?_
  obtain ⟨r, x, y, hfx, hfm, hR2⟩ := o_turned v0 v1 v2 v3 v4 v5 v6 v7 v8 v9 v10 v11 v12 v13 v14 v15 v16 v17 v18 hR (xs (nI i + 1).toNatClampNeg) (xs (nI i + 2).toNatClampNeg)
  refine cc_iQ (va_runV (C := RX11) (As := [.int (xs (nI i + 1).toNatClampNeg), .int (xs (nI i + 2).toNatClampNeg)]) (rest := []) ⟨hx, hb, hml, hown, htb⟩ (k_X11_turned (q 0) (q 1) (q 2) (q 8) (q 10) (q 3) (q 6) (q 4) (q 5) (q 34) (q 19) (q 25) (q 28) (q 29) (q 30) (q 31) (q 32) (q 33) v0 v2 v10 (xs (nI i + 1).toNatClampNeg) (xs (nI i + 2).toNatClampNeg) (r, x) hfx) (cw_V 2 htb tg_851 tg_1 tg_848 tg_849 tg_850 rfl rfl (by decide +kernel) ⟨Nat.le_of_ble_eq_true rfl, Nat.le_of_ble_eq_true rfl⟩) ⟨PC.blind, va_recv hK.1 hP (ci := 10) (q0 := 0) rfl rfl, PC.pre hK hT hP hD hS hA [0, 4, 5, 28, 29, 30, 31, 32, 33] rfl (by decide)⟩ rfl rfl hl.1 rfl (lv_room (Nat.le_of_ble_eq_true rfl)) dL_law_1155 ⟨by show _ ≤ 600000; omega, by show _ ≤ 7302250; omega⟩) hP hD hS hA [0, 4, 5, 28, 29, 30, 31, 32, 33] [1, 2, 3, 6, 7, 8, 9, 10, 11, 12, 13, 14, 15, 16, 17, 18, 19, 20, 21, 22, 23, 24, 25, 26, 27, 34, 35, 36, 37, 38, 39, 40, 41, 42, 43, 44, 45, 46, 47, 48, 49, 50, 51, 52, 53, 54, 55, 56, 57, 58, 59, 60, 61, 62, 63, 64, 65, 66, 67, 68, 69, 70, 71, 72, 73, 74, 75, 76, 77, 78, 79, 80, 81] rfl rfl (by decide) (by decide) rfl (fun r8 u8 H locs hw hP hD hS => ?_)
  obtain ⟨hw, hw2⟩ := hw
  have hw : r8 = r := hw
  have hw2 : u8 = x := hw2
  subst hw
  subst hw2
  have hP : va_P D vwCl (WSL cI cJ cZ cY q v0 v1 v2 v3 v4 v5 v6 v7 v8 v9 u8 v11 v12 v13 v14 v15 v16 v17 ++ PL cI v18) H := hP.by _ (va_part (cx := WSL cI cJ cZ cY q v0 v1 v2 v3 v4 v5 v6 v7 v8 v9 u8 v11 v12 v13 v14 v15 v16 v17) [73, 0, 1, 2, 74, 75, 3, 4, 5, 6, 7, 8, 9, 10, 11, 12, 13, 14, 15, 16, 17, 18, 19, 20, 21, 22, 23, 24, 76, 77, 78, 79, 80, 81, 25, 26, 27, 28, 29, 30, 31, 32, 33, 34, 35, 36, 37, 38, 39, 40, 41, 42, 43, 44, 45, 46, 47, 48, 49, 50, 51, 52, 53, 54, 55, 56, 57, 58, 59, 60, 61, 62, 63, 64, 65, 66, 67, 68, 69, 70, 71, 72] rfl)
  have hD : va_D (fun q : Nat => s.heap.size ≤ q) (WSL cI cJ cZ cY q v0 v1 v2 v3 v4 v5 v6 v7 v8 v9 u8 v11 v12 v13 v14 v15 v16 v17 ++ PL cI v18) := hD.part (cx := WSL cI cJ cZ cY q v0 v1 v2 v3 v4 v5 v6 v7 v8 v9 u8 v11 v12 v13 v14 v15 v16 v17) [73, 0, 1, 2, 74, 75, 3, 4, 5, 6, 7, 8, 9, 10, 11, 12, 13, 14, 15, 16, 17, 18, 19, 20, 21, 22, 23, 24, 76, 77, 78, 79, 80, 81, 25, 26, 27, 28, 29, 30, 31, 32, 33, 34, 35, 36, 37, 38, 39, 40, 41, 42, 43, 44, 45, 46, 47, 48, 49, 50, 51, 52, 53, 54, 55, 56, 57, 58, 59, 60, 61, 62, 63, 64, 65, 66, 67, 68, 69, 70, 71, 72] (by decide) rfl
  refine lv_aload_n hx hb dL_law_1158 rfl (lv_at hl 2 rfl) ?_
  refine lv_aload_n hx hb dL_law_1159 rfl (lv_at hl 0 rfl) ?_
  refine lv_iload_n hx hb dL_law_1160 rfl (lv_at hl 3 rfl) ?_
  refine lv_iconst (v := 1) hx hb dL_law_1161 (by decide) ?_
  refine lv_iadd hx hb dL_law_1162 ?_
  refine va_sld hx hb hX hbl hbA hS (scr_in (j := 1) (by omega) hL rfl) dL_law_1163 ?_
  refine lv_aload_n hx hb dL_law_1164 rfl (lv_at hl 0 rfl) ?_
  refine lv_iload_n hx hb dL_law_1165 rfl (lv_at hl 3 rfl) ?_
  refine lv_iconst (v := 2) hx hb dL_law_1166 (by decide) ?_
  refine lv_iadd hx hb dL_law_1167 ?_
  refine va_sld hx hb hX hbl hbA hS (scr_in (j := 2) (by omega) hL rfl) dL_law_1168 ?_
  refine cc_iQ (va_runV (C := RX12) (As := [.int (xs (nI i + 1).toNatClampNeg), .int (xs (nI i + 2).toNatClampNeg)]) (rest := [.int r8]) ⟨hx, hb, hml, hown, htb⟩ (k_X12_turned (q 67) (q 68) (q 69) (q 70) (q 71) (q 72) (q 73) (q 74) (q 75) (q 76) (q 77) (q 78) (q 79) (q 80) (q 81) v17 (xs (nI i + 1).toNatClampNeg) (xs (nI i + 2).toNatClampNeg) (r8, y) hfm) (cw_V 2 htb tg_1365 tg_13 tg_1362 tg_1363 tg_1364 rfl rfl (by decide +kernel) ⟨Nat.le_of_ble_eq_true rfl, Nat.le_of_ble_eq_true rfl⟩) ⟨PC.blind, va_recv hK.1 hP (ci := 11) (q0 := 67) rfl rfl, PC.pre hK hT hP hD hS hA [67, 68, 69, 70, 71, 72, 73, 74, 75, 76, 77, 78, 79, 80, 81] rfl (by decide)⟩ rfl rfl hl.1 rfl (lv_room (Nat.le_of_ble_eq_true rfl)) dL_law_1169 ⟨by show _ ≤ 600000; omega, by show _ ≤ 7302250; omega⟩) hP hD hS hA [67, 68, 69, 70, 71, 72, 73, 74, 75, 76, 77, 78, 79, 80, 81] [0, 1, 2, 3, 4, 5, 6, 7, 8, 9, 10, 11, 12, 13, 14, 15, 16, 17, 18, 19, 20, 21, 22, 23, 24, 25, 26, 27, 28, 29, 30, 31, 32, 33, 34, 35, 36, 37, 38, 39, 40, 41, 42, 43, 44, 45, 46, 47, 48, 49, 50, 51, 52, 53, 54, 55, 56, 57, 58, 59, 60, 61, 62, 63, 64, 65, 66] rfl rfl (by decide) (by decide) rfl (fun r9 u9 H locs hw hP hD hS => ?_)
  obtain ⟨hw, hw2⟩ := hw
  try dsimp only at hw hw2
  rw [hw2] at hP hD
  have hP : va_P D vwCl (WSL cI cJ cZ cY q v0 v1 v2 v3 v4 v5 v6 v7 v8 v9 u8 v11 v12 v13 v14 v15 v16 y ++ PL cI v18) H := hP.by _ (va_part (cx := WSL cI cJ cZ cY q v0 v1 v2 v3 v4 v5 v6 v7 v8 v9 u8 v11 v12 v13 v14 v15 v16 y) [0, 1, 2, 3, 4, 5, 6, 7, 8, 9, 10, 11, 12, 13, 14, 15, 16, 17, 18, 19, 20, 21, 22, 23, 24, 25, 26, 27, 28, 29, 30, 31, 32, 33, 34, 35, 36, 37, 38, 39, 40, 41, 42, 43, 44, 45, 46, 47, 48, 49, 50, 51, 52, 53, 54, 55, 56, 57, 58, 59, 60, 61, 62, 63, 64, 65, 66, 67, 68, 69, 70, 71, 72, 73, 74, 75, 76, 77, 78, 79, 80, 81] rfl)
  have hD : va_D (fun q : Nat => s.heap.size ≤ q) (WSL cI cJ cZ cY q v0 v1 v2 v3 v4 v5 v6 v7 v8 v9 u8 v11 v12 v13 v14 v15 v16 y ++ PL cI v18) := hD.part (cx := WSL cI cJ cZ cY q v0 v1 v2 v3 v4 v5 v6 v7 v8 v9 u8 v11 v12 v13 v14 v15 v16 y) [0, 1, 2, 3, 4, 5, 6, 7, 8, 9, 10, 11, 12, 13, 14, 15, 16, 17, 18, 19, 20, 21, 22, 23, 24, 25, 26, 27, 28, 29, 30, 31, 32, 33, 34, 35, 36, 37, 38, 39, 40, 41, 42, 43, 44, 45, 46, 47, 48, 49, 50, 51, 52, 53, 54, 55, 56, 57, 58, 59, 60, 61, 62, 63, 64, 65, 66, 67, 68, 69, 70, 71, 72, 73, 74, 75, 76, 77, 78, 79, 80, 81] (by decide) rfl
  refine lv_icmp_eq (tgt := 1282) hx hb dL_law_1172 (by decide) (fun _ => ?_) (fun c_2 => absurd hw.symm c_2)
  exact hnext v0 v1 v2 v3 v4 v5 v6 v7 v8 v9 u8 v11 v12 v13 v14 v15 v16 y v18 H locs ls _ _ (by omega) (by omega) hR2 hP hD hS (lv_sub hl [0, 1, 2, 3] rfl)
