set_option maxHeartbeats 8000000 in
set_option maxRecDepth 100000 in
theorem lc_mark {p : Program} {l : Launch} {e : Env} {s : State} {m : MethodId} {below : List Frame} {meth : Method} {c : Code} {D : va_G} {cI cJ cZ cY : ClassId} {tX tY : Nat} {b L : Nat} {xs : Nat → Int32} (hL : L ≤ 4610) (C0 : lw_At p s m meth c b L xs) (hK : KU D cI cJ cZ cY s) (hT : ST tX tY (fun q : Nat => s.heap.size ≤ q) s s.heap) (q : Nat → Nat) (Rel : RelT) (o_mark : Op_mark Rel) {i k : Nat} (hiL : i + 9 ≤ L) (hk1 : k + 1 ≤ 512)
    (hnext : ∀ (v0 : BX11) (v1 : BX3) (v2 : BX8) (v3 : BX4) (v4 : BX8) (v5 : BX7) (v6 : BX6) (v7 : BX2) (v8 : BX1) (v9 : BX2) (v10 : BX5) (v11 : BX10) (v12 : BX9) (v13 : BX1) (v14 : BX2) (v15 : BX5) (v16 : BX10) (v17 : BX12) (v18 : PB) (H : Heap) (locs : List Loc) (ls : Array Slot) (cs ss : Nat), cs ≤ 120 + (k + 1) → ss ≤ 25000 + 300 * (k + 1) → Rel v0 v1 v2 v3 v4 v5 v6 v7 v8 v9 v10 v11 v12 v13 v14 v15 v16 v17 v18 → va_P D vwCl (WSL cI cJ cZ cY q v0 v1 v2 v3 v4 v5 v6 v7 v8 v9 v10 v11 v12 v13 v14 v15 v16 v17 ++ PL cI v18) H → va_D (fun q : Nat => s.heap.size ≤ q) (WSL cI cJ cZ cY q v0 v1 v2 v3 v4 v5 v6 v7 v8 v9 v10 v11 v12 v13 v14 v15 v16 v17 ++ PL cI v18) → va_S (fun q : Nat => s.heap.size ≤ q) s.heap H locs → lv_has ls 4 [(0, .ref b), (1, .ref (q 0)), (2, .ref (q 67)), (3, .int (nI i))] → W p l e room_1 s m #[Value.ref b] below meth c H locs cs ss (lw_Z below #[Value.ref b] s) (F0 m 1282 ls []))
    (v0 : BX11) (v1 : BX3) (v2 : BX8) (v3 : BX4) (v4 : BX8) (v5 : BX7) (v6 : BX6) (v7 : BX2) (v8 : BX1) (v9 : BX2) (v10 : BX5) (v11 : BX10) (v12 : BX9) (v13 : BX1) (v14 : BX2) (v15 : BX5) (v16 : BX10) (v17 : BX12) (v18 : PB) (H : Heap) (locs : List Loc) (ls : Array Slot) (hR : Rel v0 v1 v2 v3 v4 v5 v6 v7 v8 v9 v10 v11 v12 v13 v14 v15 v16 v17 v18) (hP : va_P D vwCl (WSL cI cJ cZ cY q v0 v1 v2 v3 v4 v5 v6 v7 v8 v9 v10 v11 v12 v13 v14 v15 v16 v17 ++ PL cI v18) H) (hD : va_D (fun q : Nat => s.heap.size ≤ q) (WSL cI cJ cZ cY q v0 v1 v2 v3 v4 v5 v6 v7 v8 v9 v10 v11 v12 v13 v14 v15 v16 v17 ++ PL cI v18)) (hS : va_S (fun q : Nat => s.heap.size ≤ q) s.heap H locs) (hl : lv_has ls 4 [(0, .ref b), (1, .ref (q 0)), (2, .ref (q 67)), (3, .int (nI i))]) : W p l e room_1 s m #[Value.ref b] below meth c H locs (120 + k) (25000 + 300 * k) (lw_Z below #[Value.ref b] s) (F0 m 172 ls []) := by
  obtain ⟨hx, hb, hr, hml, hown, hts, hX, hbl, hlocks, hgv⟩ := C0
  have htb : ∀ w ∈ TB, w.before #[Value.ref b] s = true := fun w h => hts w (tb_tbl h)
  have hA : ∀ q : Nat, s.heap.size ≤ q → (fun q : Nat => s.heap.size ≤ q) q := fun _ h => h
  have hbA : ¬ (fun q : Nat => s.heap.size ≤ q) b := Nat.not_le.mpr hbl
  refine lv_aload_n hx hb dL_law_172 rfl (lv_at hl 1 rfl) ?_
  refine lv_aload_n hx hb dL_law_173 rfl (lv_at hl 0 rfl) ?_
  refine lv_iload_n hx hb dL_law_174 rfl (lv_at hl 3 rfl) ?_
  refine lv_iconst (v := 1) hx hb dL_law_175 (by decide) ?_
  refine lv_iadd hx hb dL_law_176 ?_
  refine va_sld hx hb hX hbl hbA hS (scr_in (j := 1) (by omega) hL rfl) dL_law_177 ?_
  refine lv_aload_n hx hb dL_law_178 rfl (lv_at hl 0 rfl) ?_
  refine lv_iload_n hx hb dL_law_179 rfl (lv_at hl 3 rfl) ?_
  refine lv_iconst (v := 2) hx hb dL_law_180 (by decide) ?_
  refine lv_iadd hx hb dL_law_181 ?_
  refine va_sld hx hb hX hbl hbA hS (scr_in (j := 2) (by omega) hL rfl) dL_law_182 ?_
  obtain ⟨r, x, y, hfx, hfm, hR2⟩ := o_mark v0 v1 v2 v3 v4 v5 v6 v7 v8 v9 v10 v11 v12 v13 v14 v15 v16 v17 v18 hR (xs (nI i + 1).toNatClampNeg) (xs (nI i + 2).toNatClampNeg)
  refine cc_iQ (va_runV (C := RX11) (As := [.int (xs (nI i + 1).toNatClampNeg), .int (xs (nI i + 2).toNatClampNeg)]) (rest := []) ⟨hx, hb, hml, hown, htb⟩ (k_X11_mark (q 0) (q 1) (q 2) (q 8) (q 10) (q 3) (q 6) (q 4) (q 5) (q 19) (q 28) (q 25) (q 34) (q 35) (q 36) (q 37) (q 38) (q 39) (q 40) v0 v2 v11 (xs (nI i + 1).toNatClampNeg) (xs (nI i + 2).toNatClampNeg) (r, x) hfx) (cw_V 2 htb tg_443 tg_1 tg_440 tg_441 tg_442 rfl rfl (by decide +kernel) ⟨Nat.le_of_ble_eq_true rfl, Nat.le_of_ble_eq_true rfl⟩) ⟨PC.blind, va_recv hK.1 hP (ci := 10) (q0 := 0) rfl rfl, PC.pre hK hT hP hD hS hA [0, 4, 5, 34, 35, 36, 37, 38, 39, 40] rfl (by decide)⟩ rfl rfl hl.1 rfl (lv_room (Nat.le_of_ble_eq_true rfl)) dL_law_183 ⟨by show _ ≤ 600000; omega, by show _ ≤ 7302250; omega⟩) hP hD hS hA [0, 4, 5, 34, 35, 36, 37, 38, 39, 40] [1, 2, 3, 6, 7, 8, 9, 10, 11, 12, 13, 14, 15, 16, 17, 18, 19, 20, 21, 22, 23, 24, 25, 26, 27, 28, 29, 30, 31, 32, 33, 41, 42, 43, 44, 45, 46, 47, 48, 49, 50, 51, 52, 53, 54, 55, 56, 57, 58, 59, 60, 61, 62, 63, 64, 65, 66, 67, 68, 69, 70, 71, 72, 73, 74, 75, 76, 77, 78, 79, 80, 81] rfl rfl (by decide) (by decide) rfl (fun r8 u8 H locs hw hP hD hS => ?_)
  obtain ⟨hw, hw2⟩ := hw
  have hw : r8 = r := hw
  have hw2 : u8 = x := hw2
  subst hw
  subst hw2
  have hP : va_P D vwCl (WSL cI cJ cZ cY q v0 v1 v2 v3 v4 v5 v6 v7 v8 v9 v10 u8 v12 v13 v14 v15 v16 v17 ++ PL cI v18) H := hP.by _ (va_part (cx := WSL cI cJ cZ cY q v0 v1 v2 v3 v4 v5 v6 v7 v8 v9 v10 u8 v12 v13 v14 v15 v16 v17) [72, 0, 1, 2, 73, 74, 3, 4, 5, 6, 7, 8, 9, 10, 11, 12, 13, 14, 15, 16, 17, 18, 19, 20, 21, 22, 23, 24, 25, 26, 27, 28, 29, 30, 75, 76, 77, 78, 79, 80, 81, 31, 32, 33, 34, 35, 36, 37, 38, 39, 40, 41, 42, 43, 44, 45, 46, 47, 48, 49, 50, 51, 52, 53, 54, 55, 56, 57, 58, 59, 60, 61, 62, 63, 64, 65, 66, 67, 68, 69, 70, 71] rfl)
  have hD : va_D (fun q : Nat => s.heap.size ≤ q) (WSL cI cJ cZ cY q v0 v1 v2 v3 v4 v5 v6 v7 v8 v9 v10 u8 v12 v13 v14 v15 v16 v17 ++ PL cI v18) := hD.part (cx := WSL cI cJ cZ cY q v0 v1 v2 v3 v4 v5 v6 v7 v8 v9 v10 u8 v12 v13 v14 v15 v16 v17) [72, 0, 1, 2, 73, 74, 3, 4, 5, 6, 7, 8, 9, 10, 11, 12, 13, 14, 15, 16, 17, 18, 19, 20, 21, 22, 23, 24, 25, 26, 27, 28, 29, 30, 75, 76, 77, 78, 79, 80, 81, 31, 32, 33, 34, 35, 36, 37, 38, 39, 40, 41, 42, 43, 44, 45, 46, 47, 48, 49, 50, 51, 52, 53, 54, 55, 56, 57, 58, 59, 60, 61, 62, 63, 64, 65, 66, 67, 68, 69, 70, 71] (by decide) rfl
  refine lv_aload_n hx hb dL_law_186 rfl (lv_at hl 2 rfl) ?_
  refine lv_aload_n hx hb dL_law_187 rfl (lv_at hl 0 rfl) ?_
  refine lv_iload_n hx hb dL_law_188 rfl (lv_at hl 3 rfl) ?_
  refine lv_iconst (v := 1) hx hb dL_law_189 (by decide) ?_
  refine lv_iadd hx hb dL_law_190 ?_
  refine va_sld hx hb hX hbl hbA hS (scr_in (j := 1) (by omega) hL rfl) dL_law_191 ?_
  refine lv_aload_n hx hb dL_law_192 rfl (lv_at hl 0 rfl) ?_
  refine lv_iload_n hx hb dL_law_193 rfl (lv_at hl 3 rfl) ?_
  refine lv_iconst (v := 2) hx hb dL_law_194 (by decide) ?_
  refine lv_iadd hx hb dL_law_195 ?_
  refine va_sld hx hb hX hbl hbA hS (scr_in (j := 2) (by omega) hL rfl) dL_law_196 ?_
  refine cc_iQ (va_runV (C := RX12) (As := [.int (xs (nI i + 1).toNatClampNeg), .int (xs (nI i + 2).toNatClampNeg)]) (rest := [.int r8]) ⟨hx, hb, hml, hown, htb⟩ (k_X12_mark (q 67) (q 68) (q 69) (q 70) (q 71) (q 72) (q 73) (q 74) (q 75) (q 76) (q 77) (q 78) (q 79) (q 80) (q 81) v17 (xs (nI i + 1).toNatClampNeg) (xs (nI i + 2).toNatClampNeg) (r8, y) hfm) (cw_V 2 htb tg_1071 tg_13 tg_1068 tg_1069 tg_1070 rfl rfl (by decide +kernel) ⟨Nat.le_of_ble_eq_true rfl, Nat.le_of_ble_eq_true rfl⟩) ⟨PC.blind, va_recv hK.1 hP (ci := 11) (q0 := 67) rfl rfl, PC.pre hK hT hP hD hS hA [67, 68, 69, 70, 71, 72, 73, 74, 75, 76, 77, 78, 79, 80, 81] rfl (by decide)⟩ rfl rfl hl.1 rfl (lv_room (Nat.le_of_ble_eq_true rfl)) dL_law_197 ⟨by show _ ≤ 600000; omega, by show _ ≤ 7302250; omega⟩) hP hD hS hA [67, 68, 69, 70, 71, 72, 73, 74, 75, 76, 77, 78, 79, 80, 81] [0, 1, 2, 3, 4, 5, 6, 7, 8, 9, 10, 11, 12, 13, 14, 15, 16, 17, 18, 19, 20, 21, 22, 23, 24, 25, 26, 27, 28, 29, 30, 31, 32, 33, 34, 35, 36, 37, 38, 39, 40, 41, 42, 43, 44, 45, 46, 47, 48, 49, 50, 51, 52, 53, 54, 55, 56, 57, 58, 59, 60, 61, 62, 63, 64, 65, 66] rfl rfl (by decide) (by decide) rfl (fun r9 u9 H locs hw hP hD hS => ?_)
  obtain ⟨hw, hw2⟩ := hw
  try dsimp only at hw hw2
  rw [hw2] at hP hD
  have hP : va_P D vwCl (WSL cI cJ cZ cY q v0 v1 v2 v3 v4 v5 v6 v7 v8 v9 v10 u8 v12 v13 v14 v15 v16 y ++ PL cI v18) H := hP.by _ (va_part (cx := WSL cI cJ cZ cY q v0 v1 v2 v3 v4 v5 v6 v7 v8 v9 v10 u8 v12 v13 v14 v15 v16 y) [0, 1, 2, 3, 4, 5, 6, 7, 8, 9, 10, 11, 12, 13, 14, 15, 16, 17, 18, 19, 20, 21, 22, 23, 24, 25, 26, 27, 28, 29, 30, 31, 32, 33, 34, 35, 36, 37, 38, 39, 40, 41, 42, 43, 44, 45, 46, 47, 48, 49, 50, 51, 52, 53, 54, 55, 56, 57, 58, 59, 60, 61, 62, 63, 64, 65, 66, 67, 68, 69, 70, 71, 72, 73, 74, 75, 76, 77, 78, 79, 80, 81] rfl)
  have hD : va_D (fun q : Nat => s.heap.size ≤ q) (WSL cI cJ cZ cY q v0 v1 v2 v3 v4 v5 v6 v7 v8 v9 v10 u8 v12 v13 v14 v15 v16 y ++ PL cI v18) := hD.part (cx := WSL cI cJ cZ cY q v0 v1 v2 v3 v4 v5 v6 v7 v8 v9 v10 u8 v12 v13 v14 v15 v16 y) [0, 1, 2, 3, 4, 5, 6, 7, 8, 9, 10, 11, 12, 13, 14, 15, 16, 17, 18, 19, 20, 21, 22, 23, 24, 25, 26, 27, 28, 29, 30, 31, 32, 33, 34, 35, 36, 37, 38, 39, 40, 41, 42, 43, 44, 45, 46, 47, 48, 49, 50, 51, 52, 53, 54, 55, 56, 57, 58, 59, 60, 61, 62, 63, 64, 65, 66, 67, 68, 69, 70, 71, 72, 73, 74, 75, 76, 77, 78, 79, 80, 81] (by decide) rfl
  refine lv_icmp_eq (tgt := 1282) hx hb dL_law_200 (by decide) (fun _ => ?_) (fun c_2 => absurd hw.symm c_2)
  exact hnext v0 v1 v2 v3 v4 v5 v6 v7 v8 v9 v10 u8 v12 v13 v14 v15 v16 y v18 H locs ls _ _ (by omega) (by omega) hR2 hP hD hS (lv_sub hl [0, 1, 2, 3] rfl)
set_option maxHeartbeats 8000000 in
set_option maxRecDepth 100000 in
theorem lc_body {p : Program} {l : Launch} {e : Env} {s : State} {m : MethodId} {below : List Frame} {meth : Method} {c : Code} {D : va_G} {cI cJ cZ cY : ClassId} {tX tY : Nat} {b L : Nat} {xs : Nat → Int32} (hL : L ≤ 4610) (C0 : lw_At p s m meth c b L xs) (hK : KU D cI cJ cZ cY s) (hT : ST tX tY (fun q : Nat => s.heap.size ≤ q) s s.heap) (q : Nat → Nat) (Rel : RelT) (o_body : Op_body Rel) {i k : Nat} (hiL : i + 9 ≤ L) (hk1 : k + 1 ≤ 512)
    (hnext : ∀ (v0 : BX11) (v1 : BX3) (v2 : BX8) (v3 : BX4) (v4 : BX8) (v5 : BX7) (v6 : BX6) (v7 : BX2) (v8 : BX1) (v9 : BX2) (v10 : BX5) (v11 : BX10) (v12 : BX9) (v13 : BX1) (v14 : BX2) (v15 : BX5) (v16 : BX10) (v17 : BX12) (v18 : PB) (H : Heap) (locs : List Loc) (ls : Array Slot) (cs ss : Nat), cs ≤ 120 + (k + 1) → ss ≤ 25000 + 300 * (k + 1) → Rel v0 v1 v2 v3 v4 v5 v6 v7 v8 v9 v10 v11 v12 v13 v14 v15 v16 v17 v18 → va_P D vwCl (WSL cI cJ cZ cY q v0 v1 v2 v3 v4 v5 v6 v7 v8 v9 v10 v11 v12 v13 v14 v15 v16 v17 ++ PL cI v18) H → va_D (fun q : Nat => s.heap.size ≤ q) (WSL cI cJ cZ cY q v0 v1 v2 v3 v4 v5 v6 v7 v8 v9 v10 v11 v12 v13 v14 v15 v16 v17 ++ PL cI v18) → va_S (fun q : Nat => s.heap.size ≤ q) s.heap H locs → lv_has ls 4 [(0, .ref b), (1, .ref (q 0)), (2, .ref (q 67)), (3, .int (nI i))] → W p l e room_1 s m #[Value.ref b] below meth c H locs cs ss (lw_Z below #[Value.ref b] s) (F0 m 1282 ls []))
    (v0 : BX11) (v1 : BX3) (v2 : BX8) (v3 : BX4) (v4 : BX8) (v5 : BX7) (v6 : BX6) (v7 : BX2) (v8 : BX1) (v9 : BX2) (v10 : BX5) (v11 : BX10) (v12 : BX9) (v13 : BX1) (v14 : BX2) (v15 : BX5) (v16 : BX10) (v17 : BX12) (v18 : PB) (H : Heap) (locs : List Loc) (ls : Array Slot) (hR : Rel v0 v1 v2 v3 v4 v5 v6 v7 v8 v9 v10 v11 v12 v13 v14 v15 v16 v17 v18) (hP : va_P D vwCl (WSL cI cJ cZ cY q v0 v1 v2 v3 v4 v5 v6 v7 v8 v9 v10 v11 v12 v13 v14 v15 v16 v17 ++ PL cI v18) H) (hD : va_D (fun q : Nat => s.heap.size ≤ q) (WSL cI cJ cZ cY q v0 v1 v2 v3 v4 v5 v6 v7 v8 v9 v10 v11 v12 v13 v14 v15 v16 v17 ++ PL cI v18)) (hS : va_S (fun q : Nat => s.heap.size ≤ q) s.heap H locs) (hl : lv_has ls 4 [(0, .ref b), (1, .ref (q 0)), (2, .ref (q 67)), (3, .int (nI i))]) : W p l e room_1 s m #[Value.ref b] below meth c H locs (120 + k) (25000 + 300 * k) (lw_Z below #[Value.ref b] s) (F0 m 205 ls []) := by
  obtain ⟨hx, hb, hr, hml, hown, hts, hX, hbl, hlocks, hgv⟩ := C0
  have htb : ∀ w ∈ TB, w.before #[Value.ref b] s = true := fun w h => hts w (tb_tbl h)
  have hA : ∀ q : Nat, s.heap.size ≤ q → (fun q : Nat => s.heap.size ≤ q) q := fun _ h => h
  have hbA : ¬ (fun q : Nat => s.heap.size ≤ q) b := Nat.not_le.mpr hbl
  refine lv_aload_n hx hb dL_law_205 rfl (lv_at hl 1 rfl) ?_
  refine lv_aload_n hx hb dL_law_206 rfl (lv_at hl 0 rfl) ?_
  refine lv_iload_n hx hb dL_law_207 rfl (lv_at hl 3 rfl) ?_
  refine lv_iconst (v := 1) hx hb dL_law_208 (by decide) ?_
  refine lv_iadd hx hb dL_law_209 ?_
  refine va_sld hx hb hX hbl hbA hS (scr_in (j := 1) (by omega) hL rfl) dL_law_210 ?_
  refine lv_aload_n hx hb dL_law_211 rfl (lv_at hl 0 rfl) ?_
  refine lv_iload_n hx hb dL_law_212 rfl (lv_at hl 3 rfl) ?_
  refine lv_iconst (v := 2) hx hb dL_law_213 (by decide) ?_
  refine lv_iadd hx hb dL_law_214 ?_
  refine va_sld hx hb hX hbl hbA hS (scr_in (j := 2) (by omega) hL rfl) dL_law_215 ?_
  refine lv_aload_n hx hb dL_law_216 rfl (lv_at hl 0 rfl) ?_
  refine lv_iload_n hx hb dL_law_217 rfl (lv_at hl 3 rfl) ?_
  refine lv_iconst (v := 3) hx hb dL_law_218 (by decide) ?_
  refine lv_iadd hx hb dL_law_219 ?_
  refine va_sld hx hb hX hbl hbA hS (scr_in (j := 3) (by omega) hL rfl) dL_law_220 ?_
  refine lv_aload_n hx hb dL_law_221 rfl (lv_at hl 0 rfl) ?_
  refine lv_iload_n hx hb dL_law_222 rfl (lv_at hl 3 rfl) ?_
  refine lv_iconst (v := 4) hx hb dL_law_223 (by decide) ?_
  refine lv_iadd hx hb dL_law_224 ?_
  refine va_sld hx hb hX hbl hbA hS (scr_in (j := 4) (by omega) hL rfl) dL_law_225 ?_
  obtain ⟨r, x, y, hfx, hfm, hR2⟩ := o_body v0 v1 v2 v3 v4 v5 v6 v7 v8 v9 v10 v11 v12 v13 v14 v15 v16 v17 v18 hR (xs (nI i + 1).toNatClampNeg) (xs (nI i + 2).toNatClampNeg) (xs (nI i + 3).toNatClampNeg) (xs (nI i + 4).toNatClampNeg)
  refine cc_iQ (va_runV (C := RX11) (As := [.int (xs (nI i + 1).toNatClampNeg), .int (xs (nI i + 2).toNatClampNeg), .int (xs (nI i + 3).toNatClampNeg), .int (xs (nI i + 4).toNatClampNeg)]) (rest := []) ⟨hx, hb, hml, hown, htb⟩ (k_X11_body (q 0) (q 1) (q 2) (q 8) (q 10) (q 3) (q 6) (q 4) (q 5) (q 19) (q 28) (q 25) (q 34) (q 35) (q 36) (q 37) (q 38) (q 39) (q 40) v0 v2 v11 (xs (nI i + 1).toNatClampNeg) (xs (nI i + 2).toNatClampNeg) (xs (nI i + 3).toNatClampNeg) (xs (nI i + 4).toNatClampNeg) (r, x) hfx) (cw_V 4 htb tg_455 tg_1 tg_452 tg_453 tg_454 rfl rfl (by decide +kernel) ⟨Nat.le_of_ble_eq_true rfl, Nat.le_of_ble_eq_true rfl⟩) ⟨PC.blind, va_recv hK.1 hP (ci := 10) (q0 := 0) rfl rfl, PC.pre hK hT hP hD hS hA [0, 4, 5, 34, 35, 36, 37, 38, 39, 40] rfl (by decide)⟩ rfl rfl hl.1 rfl (lv_room (Nat.le_of_ble_eq_true rfl)) dL_law_226 ⟨by show _ ≤ 600000; omega, by show _ ≤ 7302250; omega⟩) hP hD hS hA [0, 4, 5, 34, 35, 36, 37, 38, 39, 40] [1, 2, 3, 6, 7, 8, 9, 10, 11, 12, 13, 14, 15, 16, 17, 18, 19, 20, 21, 22, 23, 24, 25, 26, 27, 28, 29, 30, 31, 32, 33, 41, 42, 43, 44, 45, 46, 47, 48, 49, 50, 51, 52, 53, 54, 55, 56, 57, 58, 59, 60, 61, 62, 63, 64, 65, 66, 67, 68, 69, 70, 71, 72, 73, 74, 75, 76, 77, 78, 79, 80, 81] rfl rfl (by decide) (by decide) rfl (fun r8 u8 H locs hw hP hD hS => ?_)
  obtain ⟨hw, hw2⟩ := hw
  have hw : r8 = r := hw
  have hw2 : u8 = x := hw2
  subst hw
  subst hw2
  have hP : va_P D vwCl (WSL cI cJ cZ cY q v0 v1 v2 v3 v4 v5 v6 v7 v8 v9 v10 u8 v12 v13 v14 v15 v16 v17 ++ PL cI v18) H := hP.by _ (va_part (cx := WSL cI cJ cZ cY q v0 v1 v2 v3 v4 v5 v6 v7 v8 v9 v10 u8 v12 v13 v14 v15 v16 v17) [72, 0, 1, 2, 73, 74, 3, 4, 5, 6, 7, 8, 9, 10, 11, 12, 13, 14, 15, 16, 17, 18, 19, 20, 21, 22, 23, 24, 25, 26, 27, 28, 29, 30, 75, 76, 77, 78, 79, 80, 81, 31, 32, 33, 34, 35, 36, 37, 38, 39, 40, 41, 42, 43, 44, 45, 46, 47, 48, 49, 50, 51, 52, 53, 54, 55, 56, 57, 58, 59, 60, 61, 62, 63, 64, 65, 66, 67, 68, 69, 70, 71] rfl)
  have hD : va_D (fun q : Nat => s.heap.size ≤ q) (WSL cI cJ cZ cY q v0 v1 v2 v3 v4 v5 v6 v7 v8 v9 v10 u8 v12 v13 v14 v15 v16 v17 ++ PL cI v18) := hD.part (cx := WSL cI cJ cZ cY q v0 v1 v2 v3 v4 v5 v6 v7 v8 v9 v10 u8 v12 v13 v14 v15 v16 v17) [72, 0, 1, 2, 73, 74, 3, 4, 5, 6, 7, 8, 9, 10, 11, 12, 13, 14, 15, 16, 17, 18, 19, 20, 21, 22, 23, 24, 25, 26, 27, 28, 29, 30, 75, 76, 77, 78, 79, 80, 81, 31, 32, 33, 34, 35, 36, 37, 38, 39, 40, 41, 42, 43, 44, 45, 46, 47, 48, 49, 50, 51, 52, 53, 54, 55, 56, 57, 58, 59, 60, 61, 62, 63, 64, 65, 66, 67, 68, 69, 70, 71] (by decide) rfl
  refine lv_aload_n hx hb dL_law_229 rfl (lv_at hl 2 rfl) ?_
  refine lv_aload_n hx hb dL_law_230 rfl (lv_at hl 0 rfl) ?_
  refine lv_iload_n hx hb dL_law_231 rfl (lv_at hl 3 rfl) ?_
  refine lv_iconst (v := 1) hx hb dL_law_232 (by decide) ?_
  refine lv_iadd hx hb dL_law_233 ?_
  refine va_sld hx hb hX hbl hbA hS (scr_in (j := 1) (by omega) hL rfl) dL_law_234 ?_
  refine lv_aload_n hx hb dL_law_235 rfl (lv_at hl 0 rfl) ?_
  refine lv_iload_n hx hb dL_law_236 rfl (lv_at hl 3 rfl) ?_
  refine lv_iconst (v := 2) hx hb dL_law_237 (by decide) ?_
  refine lv_iadd hx hb dL_law_238 ?_
  refine va_sld hx hb hX hbl hbA hS (scr_in (j := 2) (by omega) hL rfl) dL_law_239 ?_
  refine lv_aload_n hx hb dL_law_240 rfl (lv_at hl 0 rfl) ?_
  refine lv_iload_n hx hb dL_law_241 rfl (lv_at hl 3 rfl) ?_
  refine lv_iconst (v := 3) hx hb dL_law_242 (by decide) ?_
  refine lv_iadd hx hb dL_law_243 ?_
  refine va_sld hx hb hX hbl hbA hS (scr_in (j := 3) (by omega) hL rfl) dL_law_244 ?_
  refine lv_aload_n hx hb dL_law_245 rfl (lv_at hl 0 rfl) ?_
  refine lv_iload_n hx hb dL_law_246 rfl (lv_at hl 3 rfl) ?_
  refine lv_iconst (v := 4) hx hb dL_law_247 (by decide) ?_
  refine lv_iadd hx hb dL_law_248 ?_
  refine va_sld hx hb hX hbl hbA hS (scr_in (j := 4) (by omega) hL rfl) dL_law_249 ?_
  refine cc_iQ (va_runV (C := RX12) (As := [.int (xs (nI i + 1).toNatClampNeg), .int (xs (nI i + 2).toNatClampNeg), .int (xs (nI i + 3).toNatClampNeg), .int (xs (nI i + 4).toNatClampNeg)]) (rest := [.int r8]) ⟨hx, hb, hml, hown, htb⟩ (k_X12_body (q 67) (q 68) (q 69) (q 70) (q 71) (q 72) (q 73) (q 74) (q 75) (q 76) (q 77) (q 78) (q 79) (q 80) (q 81) v17 (xs (nI i + 1).toNatClampNeg) (xs (nI i + 2).toNatClampNeg) (xs (nI i + 3).toNatClampNeg) (xs (nI i + 4).toNatClampNeg) (r8, y) hfm) (cw_V 4 htb tg_1082 tg_13 tg_1079 tg_1080 tg_1081 rfl rfl (by decide +kernel) ⟨Nat.le_of_ble_eq_true rfl, Nat.le_of_ble_eq_true rfl⟩) ⟨PC.blind, va_recv hK.1 hP (ci := 11) (q0 := 67) rfl rfl, PC.pre hK hT hP hD hS hA [67, 68, 69, 70, 71, 72, 73, 74, 75, 76, 77, 78, 79, 80, 81] rfl (by decide)⟩ rfl rfl hl.1 rfl (lv_room (Nat.le_of_ble_eq_true rfl)) dL_law_250 ⟨by show _ ≤ 600000; omega, by show _ ≤ 7302250; omega⟩) hP hD hS hA [67, 68, 69, 70, 71, 72, 73, 74, 75, 76, 77, 78, 79, 80, 81] [0, 1, 2, 3, 4, 5, 6, 7, 8, 9, 10, 11, 12, 13, 14, 15, 16, 17, 18, 19, 20, 21, 22, 23, 24, 25, 26, 27, 28, 29, 30, 31, 32, 33, 34, 35, 36, 37, 38, 39, 40, 41, 42, 43, 44, 45, 46, 47, 48, 49, 50, 51, 52, 53, 54, 55, 56, 57, 58, 59, 60, 61, 62, 63, 64, 65, 66] rfl rfl (by decide) (by decide) rfl (fun r9 u9 H locs hw hP hD hS => ?_)
  obtain ⟨hw, hw2⟩ := hw
  try dsimp only at hw hw2
  rw [hw2] at hP hD
  have hP : va_P D vwCl (WSL cI cJ cZ cY q v0 v1 v2 v3 v4 v5 v6 v7 v8 v9 v10 u8 v12 v13 v14 v15 v16 y ++ PL cI v18) H := hP.by _ (va_part (cx := WSL cI cJ cZ cY q v0 v1 v2 v3 v4 v5 v6 v7 v8 v9 v10 u8 v12 v13 v14 v15 v16 y) [0, 1, 2, 3, 4, 5, 6, 7, 8, 9, 10, 11, 12, 13, 14, 15, 16, 17, 18, 19, 20, 21, 22, 23, 24, 25, 26, 27, 28, 29, 30, 31, 32, 33, 34, 35, 36, 37, 38, 39, 40, 41, 42, 43, 44, 45, 46, 47, 48, 49, 50, 51, 52, 53, 54, 55, 56, 57, 58, 59, 60, 61, 62, 63, 64, 65, 66, 67, 68, 69, 70, 71, 72, 73, 74, 75, 76, 77, 78, 79, 80, 81] rfl)
  have hD : va_D (fun q : Nat => s.heap.size ≤ q) (WSL cI cJ cZ cY q v0 v1 v2 v3 v4 v5 v6 v7 v8 v9 v10 u8 v12 v13 v14 v15 v16 y ++ PL cI v18) := hD.part (cx := WSL cI cJ cZ cY q v0 v1 v2 v3 v4 v5 v6 v7 v8 v9 v10 u8 v12 v13 v14 v15 v16 y) [0, 1, 2, 3, 4, 5, 6, 7, 8, 9, 10, 11, 12, 13, 14, 15, 16, 17, 18, 19, 20, 21, 22, 23, 24, 25, 26, 27, 28, 29, 30, 31, 32, 33, 34, 35, 36, 37, 38, 39, 40, 41, 42, 43, 44, 45, 46, 47, 48, 49, 50, 51, 52, 53, 54, 55, 56, 57, 58, 59, 60, 61, 62, 63, 64, 65, 66, 67, 68, 69, 70, 71, 72, 73, 74, 75, 76, 77, 78, 79, 80, 81] (by decide) rfl
  refine lv_icmp_eq (tgt := 1282) hx hb dL_law_253 (by decide) (fun _ => ?_) (fun c_2 => absurd hw.symm c_2)
  exact hnext v0 v1 v2 v3 v4 v5 v6 v7 v8 v9 v10 u8 v12 v13 v14 v15 v16 y v18 H locs ls _ _ (by omega) (by omega) hR2 hP hD hS (lv_sub hl [0, 1, 2, 3] rfl)
set_option maxHeartbeats 8000000 in
set_option maxRecDepth 100000 in
theorem lc_markOf {p : Program} {l : Launch} {e : Env} {s : State} {m : MethodId} {below : List Frame} {meth : Method} {c : Code} {D : va_G} {cI cJ cZ cY : ClassId} {tX tY : Nat} {b L : Nat} {xs : Nat → Int32} (hL : L ≤ 4610) (C0 : lw_At p s m meth c b L xs) (hK : KU D cI cJ cZ cY s) (hT : ST tX tY (fun q : Nat => s.heap.size ≤ q) s s.heap) (q : Nat → Nat) (Rel : RelT) (o_markOf : Op_markOf Rel) {i k : Nat} (hiL : i + 9 ≤ L) (hk1 : k + 1 ≤ 512)
    (hnext : ∀ (v0 : BX11) (v1 : BX3) (v2 : BX8) (v3 : BX4) (v4 : BX8) (v5 : BX7) (v6 : BX6) (v7 : BX2) (v8 : BX1) (v9 : BX2) (v10 : BX5) (v11 : BX10) (v12 : BX9) (v13 : BX1) (v14 : BX2) (v15 : BX5) (v16 : BX10) (v17 : BX12) (v18 : PB) (H : Heap) (locs : List Loc) (ls : Array Slot) (cs ss : Nat), cs ≤ 120 + (k + 1) → ss ≤ 25000 + 300 * (k + 1) → Rel v0 v1 v2 v3 v4 v5 v6 v7 v8 v9 v10 v11 v12 v13 v14 v15 v16 v17 v18 → va_P D vwCl (WSL cI cJ cZ cY q v0 v1 v2 v3 v4 v5 v6 v7 v8 v9 v10 v11 v12 v13 v14 v15 v16 v17 ++ PL cI v18) H → va_D (fun q : Nat => s.heap.size ≤ q) (WSL cI cJ cZ cY q v0 v1 v2 v3 v4 v5 v6 v7 v8 v9 v10 v11 v12 v13 v14 v15 v16 v17 ++ PL cI v18) → va_S (fun q : Nat => s.heap.size ≤ q) s.heap H locs → lv_has ls 4 [(0, .ref b), (1, .ref (q 0)), (2, .ref (q 67)), (3, .int (nI i))] → W p l e room_1 s m #[Value.ref b] below meth c H locs cs ss (lw_Z below #[Value.ref b] s) (F0 m 1282 ls []))
    (v0 : BX11) (v1 : BX3) (v2 : BX8) (v3 : BX4) (v4 : BX8) (v5 : BX7) (v6 : BX6) (v7 : BX2) (v8 : BX1) (v9 : BX2) (v10 : BX5) (v11 : BX10) (v12 : BX9) (v13 : BX1) (v14 : BX2) (v15 : BX5) (v16 : BX10) (v17 : BX12) (v18 : PB) (H : Heap) (locs : List Loc) (ls : Array Slot) (hR : Rel v0 v1 v2 v3 v4 v5 v6 v7 v8 v9 v10 v11 v12 v13 v14 v15 v16 v17 v18) (hP : va_P D vwCl (WSL cI cJ cZ cY q v0 v1 v2 v3 v4 v5 v6 v7 v8 v9 v10 v11 v12 v13 v14 v15 v16 v17 ++ PL cI v18) H) (hD : va_D (fun q : Nat => s.heap.size ≤ q) (WSL cI cJ cZ cY q v0 v1 v2 v3 v4 v5 v6 v7 v8 v9 v10 v11 v12 v13 v14 v15 v16 v17 ++ PL cI v18)) (hS : va_S (fun q : Nat => s.heap.size ≤ q) s.heap H locs) (hl : lv_has ls 4 [(0, .ref b), (1, .ref (q 0)), (2, .ref (q 67)), (3, .int (nI i))]) : W p l e room_1 s m #[Value.ref b] below meth c H locs (120 + k) (25000 + 300 * k) (lw_Z below #[Value.ref b] s) (F0 m 258 ls []) := by
  obtain ⟨hx, hb, hr, hml, hown, hts, hX, hbl, hlocks, hgv⟩ := C0
  have htb : ∀ w ∈ TB, w.before #[Value.ref b] s = true := fun w h => hts w (tb_tbl h)
  have hA : ∀ q : Nat, s.heap.size ≤ q → (fun q : Nat => s.heap.size ≤ q) q := fun _ h => h
  have hbA : ¬ (fun q : Nat => s.heap.size ≤ q) b := Nat.not_le.mpr hbl
  refine lv_aload_n hx hb dL_law_258 rfl (lv_at hl 1 rfl) ?_
  refine lv_aload_n hx hb dL_law_259 rfl (lv_at hl 0 rfl) ?_
  refine lv_iload_n hx hb dL_law_260 rfl (lv_at hl 3 rfl) ?_
  refine lv_iconst (v := 1) hx hb dL_law_261 (by decide) ?_
  refine lv_iadd hx hb dL_law_262 ?_
  refine va_sld hx hb hX hbl hbA hS (scr_in (j := 1) (by omega) hL rfl) dL_law_263 ?_
  refine lv_aload_n hx hb dL_law_264 rfl (lv_at hl 0 rfl) ?_
  refine lv_iload_n hx hb dL_law_265 rfl (lv_at hl 3 rfl) ?_
  refine lv_iconst (v := 2) hx hb dL_law_266 (by decide) ?_
  refine lv_iadd hx hb dL_law_267 ?_
  refine va_sld hx hb hX hbl hbA hS (scr_in (j := 2) (by omega) hL rfl) dL_law_268 ?_
  obtain ⟨r, hfx, hfm, hR2⟩ := o_markOf v0 v1 v2 v3 v4 v5 v6 v7 v8 v9 v10 v11 v12 v13 v14 v15 v16 v17 v18 hR (xs (nI i + 1).toNatClampNeg) (xs (nI i + 2).toNatClampNeg)
  refine cc_iQ (va_runV (C := RX11) (As := [.int (xs (nI i + 1).toNatClampNeg), .int (xs (nI i + 2).toNatClampNeg)]) (rest := []) ⟨hx, hb, hml, hown, htb⟩ (k_X11_markOf (q 0) (q 1) (q 2) (q 8) (q 10) (q 3) (q 6) (q 4) (q 5) (q 19) (q 28) (q 25) (q 34) (q 35) (q 36) (q 37) (q 38) (q 39) (q 40) v0 v2 v11 (xs (nI i + 1).toNatClampNeg) (xs (nI i + 2).toNatClampNeg) r hfx) (cw_V 2 htb tg_463 tg_1 tg_460 tg_461 tg_462 rfl rfl (by decide +kernel) ⟨Nat.le_of_ble_eq_true rfl, Nat.le_of_ble_eq_true rfl⟩) ⟨PC.blind, va_recv hK.1 hP (ci := 10) (q0 := 0) rfl rfl, PC.pre hK hT hP hD hS hA [0, 4, 5, 34, 35, 36, 37, 38, 39, 40] rfl (by decide)⟩ rfl rfl hl.1 rfl (lv_room (Nat.le_of_ble_eq_true rfl)) dL_law_269 ⟨by show _ ≤ 600000; omega, by show _ ≤ 7302250; omega⟩) hP hD hS hA [0, 4, 5, 34, 35, 36, 37, 38, 39, 40] [1, 2, 3, 6, 7, 8, 9, 10, 11, 12, 13, 14, 15, 16, 17, 18, 19, 20, 21, 22, 23, 24, 25, 26, 27, 28, 29, 30, 31, 32, 33, 41, 42, 43, 44, 45, 46, 47, 48, 49, 50, 51, 52, 53, 54, 55, 56, 57, 58, 59, 60, 61, 62, 63, 64, 65, 66, 67, 68, 69, 70, 71, 72, 73, 74, 75, 76, 77, 78, 79, 80, 81] rfl rfl (by decide) (by decide) rfl (fun r8 u8 H locs hw hP hD hS => ?_)
  have hw : r8 = r := hw
  subst hw
  have hP : va_P D vwCl (WSL cI cJ cZ cY q v0 v1 v2 v3 v4 v5 v6 v7 v8 v9 v10 v11 v12 v13 v14 v15 v16 v17 ++ PL cI v18) H := hP.by _ (va_part (cx := WSL cI cJ cZ cY q v0 v1 v2 v3 v4 v5 v6 v7 v8 v9 v10 v11 v12 v13 v14 v15 v16 v17) [72, 0, 1, 2, 73, 74, 3, 4, 5, 6, 7, 8, 9, 10, 11, 12, 13, 14, 15, 16, 17, 18, 19, 20, 21, 22, 23, 24, 25, 26, 27, 28, 29, 30, 75, 76, 77, 78, 79, 80, 81, 31, 32, 33, 34, 35, 36, 37, 38, 39, 40, 41, 42, 43, 44, 45, 46, 47, 48, 49, 50, 51, 52, 53, 54, 55, 56, 57, 58, 59, 60, 61, 62, 63, 64, 65, 66, 67, 68, 69, 70, 71] rfl)
  have hD : va_D (fun q : Nat => s.heap.size ≤ q) (WSL cI cJ cZ cY q v0 v1 v2 v3 v4 v5 v6 v7 v8 v9 v10 v11 v12 v13 v14 v15 v16 v17 ++ PL cI v18) := hD.part (cx := WSL cI cJ cZ cY q v0 v1 v2 v3 v4 v5 v6 v7 v8 v9 v10 v11 v12 v13 v14 v15 v16 v17) [72, 0, 1, 2, 73, 74, 3, 4, 5, 6, 7, 8, 9, 10, 11, 12, 13, 14, 15, 16, 17, 18, 19, 20, 21, 22, 23, 24, 25, 26, 27, 28, 29, 30, 75, 76, 77, 78, 79, 80, 81, 31, 32, 33, 34, 35, 36, 37, 38, 39, 40, 41, 42, 43, 44, 45, 46, 47, 48, 49, 50, 51, 52, 53, 54, 55, 56, 57, 58, 59, 60, 61, 62, 63, 64, 65, 66, 67, 68, 69, 70, 71] (by decide) rfl
  refine lv_aload_n hx hb dL_law_272 rfl (lv_at hl 2 rfl) ?_
  refine lv_aload_n hx hb dL_law_273 rfl (lv_at hl 0 rfl) ?_
  refine lv_iload_n hx hb dL_law_274 rfl (lv_at hl 3 rfl) ?_
  refine lv_iconst (v := 1) hx hb dL_law_275 (by decide) ?_
  refine lv_iadd hx hb dL_law_276 ?_
  refine va_sld hx hb hX hbl hbA hS (scr_in (j := 1) (by omega) hL rfl) dL_law_277 ?_
  refine lv_aload_n hx hb dL_law_278 rfl (lv_at hl 0 rfl) ?_
  refine lv_iload_n hx hb dL_law_279 rfl (lv_at hl 3 rfl) ?_
  refine lv_iconst (v := 2) hx hb dL_law_280 (by decide) ?_
  refine lv_iadd hx hb dL_law_281 ?_
  refine va_sld hx hb hX hbl hbA hS (scr_in (j := 2) (by omega) hL rfl) dL_law_282 ?_
  refine cc_iQ (va_runV (C := RX12) (As := [.int (xs (nI i + 1).toNatClampNeg), .int (xs (nI i + 2).toNatClampNeg)]) (rest := [.int r8]) ⟨hx, hb, hml, hown, htb⟩ (k_X12_markOf (q 67) (q 68) (q 69) (q 70) (q 71) (q 72) (q 73) (q 74) (q 75) (q 76) (q 77) (q 78) (q 79) (q 80) (q 81) v17 (xs (nI i + 1).toNatClampNeg) (xs (nI i + 2).toNatClampNeg) r8 hfm) (cw_V 2 htb tg_1086 tg_13 tg_1083 tg_1084 tg_1085 rfl rfl (by decide +kernel) ⟨Nat.le_of_ble_eq_true rfl, Nat.le_of_ble_eq_true rfl⟩) ⟨PC.blind, va_recv hK.1 hP (ci := 11) (q0 := 67) rfl rfl, PC.pre hK hT hP hD hS hA [67, 68, 69, 70, 71, 72, 73, 74, 75, 76, 77, 78, 79, 80, 81] rfl (by decide)⟩ rfl rfl hl.1 rfl (lv_room (Nat.le_of_ble_eq_true rfl)) dL_law_283 ⟨by show _ ≤ 600000; omega, by show _ ≤ 7302250; omega⟩) hP hD hS hA [67, 68, 69, 70, 71, 72, 73, 74, 75, 76, 77, 78, 79, 80, 81] [0, 1, 2, 3, 4, 5, 6, 7, 8, 9, 10, 11, 12, 13, 14, 15, 16, 17, 18, 19, 20, 21, 22, 23, 24, 25, 26, 27, 28, 29, 30, 31, 32, 33, 34, 35, 36, 37, 38, 39, 40, 41, 42, 43, 44, 45, 46, 47, 48, 49, 50, 51, 52, 53, 54, 55, 56, 57, 58, 59, 60, 61, 62, 63, 64, 65, 66] rfl rfl (by decide) (by decide) rfl (fun r9 u9 H locs hw hP hD hS => ?_)
  have hP : va_P D vwCl (WSL cI cJ cZ cY q v0 v1 v2 v3 v4 v5 v6 v7 v8 v9 v10 v11 v12 v13 v14 v15 v16 v17 ++ PL cI v18) H := hP.by _ (va_part (cx := WSL cI cJ cZ cY q v0 v1 v2 v3 v4 v5 v6 v7 v8 v9 v10 v11 v12 v13 v14 v15 v16 v17) [0, 1, 2, 3, 4, 5, 6, 7, 8, 9, 10, 11, 12, 13, 14, 15, 16, 17, 18, 19, 20, 21, 22, 23, 24, 25, 26, 27, 28, 29, 30, 31, 32, 33, 34, 35, 36, 37, 38, 39, 40, 41, 42, 43, 44, 45, 46, 47, 48, 49, 50, 51, 52, 53, 54, 55, 56, 57, 58, 59, 60, 61, 62, 63, 64, 65, 66, 67, 68, 69, 70, 71, 72, 73, 74, 75, 76, 77, 78, 79, 80, 81] rfl)
  have hD : va_D (fun q : Nat => s.heap.size ≤ q) (WSL cI cJ cZ cY q v0 v1 v2 v3 v4 v5 v6 v7 v8 v9 v10 v11 v12 v13 v14 v15 v16 v17 ++ PL cI v18) := hD.part (cx := WSL cI cJ cZ cY q v0 v1 v2 v3 v4 v5 v6 v7 v8 v9 v10 v11 v12 v13 v14 v15 v16 v17) [0, 1, 2, 3, 4, 5, 6, 7, 8, 9, 10, 11, 12, 13, 14, 15, 16, 17, 18, 19, 20, 21, 22, 23, 24, 25, 26, 27, 28, 29, 30, 31, 32, 33, 34, 35, 36, 37, 38, 39, 40, 41, 42, 43, 44, 45, 46, 47, 48, 49, 50, 51, 52, 53, 54, 55, 56, 57, 58, 59, 60, 61, 62, 63, 64, 65, 66, 67, 68, 69, 70, 71, 72, 73, 74, 75, 76, 77, 78, 79, 80, 81] (by decide) rfl
  refine lv_icmp_eq (tgt := 1282) hx hb dL_law_286 (by decide) (fun _ => ?_) (fun c_2 => absurd hw.symm c_2)
  exact hnext v0 v1 v2 v3 v4 v5 v6 v7 v8 v9 v10 v11 v12 v13 v14 v15 v16 v17 v18 H locs ls _ _ (by omega) (by omega) hR2 hP hD hS (lv_sub hl [0, 1, 2, 3] rfl)
set_option maxHeartbeats 8000000 in
set_option maxRecDepth 100000 in
theorem lc_lens {p : Program} {l : Launch} {e : Env} {s : State} {m : MethodId} {below : List Frame} {meth : Method} {c : Code} {D : va_G} {cI cJ cZ cY : ClassId} {tX tY : Nat} {b L : Nat} {xs : Nat → Int32} (hL : L ≤ 4610) (C0 : lw_At p s m meth c b L xs) (hK : KU D cI cJ cZ cY s) (hT : ST tX tY (fun q : Nat => s.heap.size ≤ q) s s.heap) (q : Nat → Nat) (Rel : RelT) (o_lens : Op_lens Rel) {i k : Nat} (hiL : i + 9 ≤ L) (hk1 : k + 1 ≤ 512)
    (hnext : ∀ (v0 : BX11) (v1 : BX3) (v2 : BX8) (v3 : BX4) (v4 : BX8) (v5 : BX7) (v6 : BX6) (v7 : BX2) (v8 : BX1) (v9 : BX2) (v10 : BX5) (v11 : BX10) (v12 : BX9) (v13 : BX1) (v14 : BX2) (v15 : BX5) (v16 : BX10) (v17 : BX12) (v18 : PB) (H : Heap) (locs : List Loc) (ls : Array Slot) (cs ss : Nat), cs ≤ 120 + (k + 1) → ss ≤ 25000 + 300 * (k + 1) → Rel v0 v1 v2 v3 v4 v5 v6 v7 v8 v9 v10 v11 v12 v13 v14 v15 v16 v17 v18 → va_P D vwCl (WSL cI cJ cZ cY q v0 v1 v2 v3 v4 v5 v6 v7 v8 v9 v10 v11 v12 v13 v14 v15 v16 v17 ++ PL cI v18) H → va_D (fun q : Nat => s.heap.size ≤ q) (WSL cI cJ cZ cY q v0 v1 v2 v3 v4 v5 v6 v7 v8 v9 v10 v11 v12 v13 v14 v15 v16 v17 ++ PL cI v18) → va_S (fun q : Nat => s.heap.size ≤ q) s.heap H locs → lv_has ls 4 [(0, .ref b), (1, .ref (q 0)), (2, .ref (q 67)), (3, .int (nI i))] → W p l e room_1 s m #[Value.ref b] below meth c H locs cs ss (lw_Z below #[Value.ref b] s) (F0 m 1282 ls []))
    (v0 : BX11) (v1 : BX3) (v2 : BX8) (v3 : BX4) (v4 : BX8) (v5 : BX7) (v6 : BX6) (v7 : BX2) (v8 : BX1) (v9 : BX2) (v10 : BX5) (v11 : BX10) (v12 : BX9) (v13 : BX1) (v14 : BX2) (v15 : BX5) (v16 : BX10) (v17 : BX12) (v18 : PB) (H : Heap) (locs : List Loc) (ls : Array Slot) (hR : Rel v0 v1 v2 v3 v4 v5 v6 v7 v8 v9 v10 v11 v12 v13 v14 v15 v16 v17 v18) (hP : va_P D vwCl (WSL cI cJ cZ cY q v0 v1 v2 v3 v4 v5 v6 v7 v8 v9 v10 v11 v12 v13 v14 v15 v16 v17 ++ PL cI v18) H) (hD : va_D (fun q : Nat => s.heap.size ≤ q) (WSL cI cJ cZ cY q v0 v1 v2 v3 v4 v5 v6 v7 v8 v9 v10 v11 v12 v13 v14 v15 v16 v17 ++ PL cI v18)) (hS : va_S (fun q : Nat => s.heap.size ≤ q) s.heap H locs) (hl : lv_has ls 4 [(0, .ref b), (1, .ref (q 0)), (2, .ref (q 67)), (3, .int (nI i))]) : W p l e room_1 s m #[Value.ref b] below meth c H locs (120 + k) (25000 + 300 * k) (lw_Z below #[Value.ref b] s) (F0 m 291 ls []) := by
  obtain ⟨hx, hb, hr, hml, hown, hts, hX, hbl, hlocks, hgv⟩ := C0
  have htb : ∀ w ∈ TB, w.before #[Value.ref b] s = true := fun w h => hts w (tb_tbl h)
  have hA : ∀ q : Nat, s.heap.size ≤ q → (fun q : Nat => s.heap.size ≤ q) q := fun _ h => h
  have hbA : ¬ (fun q : Nat => s.heap.size ≤ q) b := Nat.not_le.mpr hbl
  refine lv_aload_n hx hb dL_law_291 rfl (lv_at hl 1 rfl) ?_
  refine lv_aload_n hx hb dL_law_292 rfl (lv_at hl 0 rfl) ?_
  refine lv_iload_n hx hb dL_law_293 rfl (lv_at hl 3 rfl) ?_
  refine lv_iconst (v := 1) hx hb dL_law_294 (by decide) ?_
  refine lv_iadd hx hb dL_law_295 ?_
  refine va_sld hx hb hX hbl hbA hS (scr_in (j := 1) (by omega) hL rfl) dL_law_296 ?_
  refine lv_aload_n hx hb dL_law_297 rfl (lv_at hl 0 rfl) ?_
  refine lv_iload_n hx hb dL_law_298 rfl (lv_at hl 3 rfl) ?_
  refine lv_iconst (v := 2) hx hb dL_law_299 (by decide) ?_
  refine lv_iadd hx hb dL_law_300 ?_
  refine va_sld hx hb hX hbl hbA hS (scr_in (j := 2) (by omega) hL rfl) dL_law_301 ?_
  obtain ⟨r, x, y, hfx, hfm, hR2⟩ := o_lens v0 v1 v2 v3 v4 v5 v6 v7 v8 v9 v10 v11 v12 v13 v14 v15 v16 v17 v18 hR (xs (nI i + 1).toNatClampNeg) (xs (nI i + 2).toNatClampNeg)
  refine cc_iQ (va_runV (C := RX11) (As := [.int (xs (nI i + 1).toNatClampNeg), .int (xs (nI i + 2).toNatClampNeg)]) (rest := []) ⟨hx, hb, hml, hown, htb⟩ (k_X11_lens (q 0) (q 1) (q 2) (q 8) (q 10) (q 3) (q 6) (q 4) (q 5) (q 34) (q 28) (q 25) (q 19) (q 20) (q 21) (q 22) (q 23) (q 24) v0 v2 v8 (xs (nI i + 1).toNatClampNeg) (xs (nI i + 2).toNatClampNeg) (r, x) hfx) (cw_V 2 htb tg_479 tg_1 tg_476 tg_477 tg_478 rfl rfl (by decide +kernel) ⟨Nat.le_of_ble_eq_true rfl, Nat.le_of_ble_eq_true rfl⟩) ⟨PC.blind, va_recv hK.1 hP (ci := 10) (q0 := 0) rfl rfl, PC.pre hK hT hP hD hS hA [0, 4, 5, 19, 20, 21, 22, 23, 24] rfl (by decide)⟩ rfl rfl hl.1 rfl (lv_room (Nat.le_of_ble_eq_true rfl)) dL_law_302 ⟨by show _ ≤ 600000; omega, by show _ ≤ 7302250; omega⟩) hP hD hS hA [0, 4, 5, 19, 20, 21, 22, 23, 24] [1, 2, 3, 6, 7, 8, 9, 10, 11, 12, 13, 14, 15, 16, 17, 18, 25, 26, 27, 28, 29, 30, 31, 32, 33, 34, 35, 36, 37, 38, 39, 40, 41, 42, 43, 44, 45, 46, 47, 48, 49, 50, 51, 52, 53, 54, 55, 56, 57, 58, 59, 60, 61, 62, 63, 64, 65, 66, 67, 68, 69, 70, 71, 72, 73, 74, 75, 76, 77, 78, 79, 80, 81] rfl rfl (by decide) (by decide) rfl (fun r8 u8 H locs hw hP hD hS => ?_)
  obtain ⟨hw, hw2⟩ := hw
  have hw : r8 = r := hw
  have hw2 : u8 = x := hw2
  subst hw
  subst hw2
  have hP : va_P D vwCl (WSL cI cJ cZ cY q v0 v1 v2 v3 v4 v5 v6 v7 u8 v9 v10 v11 v12 v13 v14 v15 v16 v17 ++ PL cI v18) H := hP.by _ (va_part (cx := WSL cI cJ cZ cY q v0 v1 v2 v3 v4 v5 v6 v7 u8 v9 v10 v11 v12 v13 v14 v15 v16 v17) [73, 0, 1, 2, 74, 75, 3, 4, 5, 6, 7, 8, 9, 10, 11, 12, 13, 14, 15, 76, 77, 78, 79, 80, 81, 16, 17, 18, 19, 20, 21, 22, 23, 24, 25, 26, 27, 28, 29, 30, 31, 32, 33, 34, 35, 36, 37, 38, 39, 40, 41, 42, 43, 44, 45, 46, 47, 48, 49, 50, 51, 52, 53, 54, 55, 56, 57, 58, 59, 60, 61, 62, 63, 64, 65, 66, 67, 68, 69, 70, 71, 72] rfl)
  have hD : va_D (fun q : Nat => s.heap.size ≤ q) (WSL cI cJ cZ cY q v0 v1 v2 v3 v4 v5 v6 v7 u8 v9 v10 v11 v12 v13 v14 v15 v16 v17 ++ PL cI v18) := hD.part (cx := WSL cI cJ cZ cY q v0 v1 v2 v3 v4 v5 v6 v7 u8 v9 v10 v11 v12 v13 v14 v15 v16 v17) [73, 0, 1, 2, 74, 75, 3, 4, 5, 6, 7, 8, 9, 10, 11, 12, 13, 14, 15, 76, 77, 78, 79, 80, 81, 16, 17, 18, 19, 20, 21, 22, 23, 24, 25, 26, 27, 28, 29, 30, 31, 32, 33, 34, 35, 36, 37, 38, 39, 40, 41, 42, 43, 44, 45, 46, 47, 48, 49, 50, 51, 52, 53, 54, 55, 56, 57, 58, 59, 60, 61, 62, 63, 64, 65, 66, 67, 68, 69, 70, 71, 72] (by decide) rfl
  refine lv_aload_n hx hb dL_law_305 rfl (lv_at hl 2 rfl) ?_
  refine lv_aload_n hx hb dL_law_306 rfl (lv_at hl 0 rfl) ?_
  refine lv_iload_n hx hb dL_law_307 rfl (lv_at hl 3 rfl) ?_
  refine lv_iconst (v := 1) hx hb dL_law_308 (by decide) ?_
  refine lv_iadd hx hb dL_law_309 ?_
  refine va_sld hx hb hX hbl hbA hS (scr_in (j := 1) (by omega) hL rfl) dL_law_310 ?_
  refine lv_aload_n hx hb dL_law_311 rfl (lv_at hl 0 rfl) ?_
  refine lv_iload_n hx hb dL_law_312 rfl (lv_at hl 3 rfl) ?_
  refine lv_iconst (v := 2) hx hb dL_law_313 (by decide) ?_
  refine lv_iadd hx hb dL_law_314 ?_
  refine va_sld hx hb hX hbl hbA hS (scr_in (j := 2) (by omega) hL rfl) dL_law_315 ?_
  refine cc_iQ (va_runV (C := RX12) (As := [.int (xs (nI i + 1).toNatClampNeg), .int (xs (nI i + 2).toNatClampNeg)]) (rest := [.int r8]) ⟨hx, hb, hml, hown, htb⟩ (k_X12_lens (q 67) (q 68) (q 69) (q 70) (q 71) (q 72) (q 73) (q 74) (q 75) (q 76) (q 77) (q 78) (q 79) (q 80) (q 81) v17 (xs (nI i + 1).toNatClampNeg) (xs (nI i + 2).toNatClampNeg) (r8, y) hfm) (cw_V 2 htb tg_1129 tg_13 tg_1126 tg_1127 tg_1128 rfl rfl (by decide +kernel) ⟨Nat.le_of_ble_eq_true rfl, Nat.le_of_ble_eq_true rfl⟩) ⟨PC.blind, va_recv hK.1 hP (ci := 11) (q0 := 67) rfl rfl, PC.pre hK hT hP hD hS hA [67, 68, 69, 70, 71, 72, 73, 74, 75, 76, 77, 78, 79, 80, 81] rfl (by decide)⟩ rfl rfl hl.1 rfl (lv_room (Nat.le_of_ble_eq_true rfl)) dL_law_316 ⟨by show _ ≤ 600000; omega, by show _ ≤ 7302250; omega⟩) hP hD hS hA [67, 68, 69, 70, 71, 72, 73, 74, 75, 76, 77, 78, 79, 80, 81] [0, 1, 2, 3, 4, 5, 6, 7, 8, 9, 10, 11, 12, 13, 14, 15, 16, 17, 18, 19, 20, 21, 22, 23, 24, 25, 26, 27, 28, 29, 30, 31, 32, 33, 34, 35, 36, 37, 38, 39, 40, 41, 42, 43, 44, 45, 46, 47, 48, 49, 50, 51, 52, 53, 54, 55, 56, 57, 58, 59, 60, 61, 62, 63, 64, 65, 66] rfl rfl (by decide) (by decide) rfl (fun r9 u9 H locs hw hP hD hS => ?_)
  obtain ⟨hw, hw2⟩ := hw
  try dsimp only at hw hw2
  rw [hw2] at hP hD
  have hP : va_P D vwCl (WSL cI cJ cZ cY q v0 v1 v2 v3 v4 v5 v6 v7 u8 v9 v10 v11 v12 v13 v14 v15 v16 y ++ PL cI v18) H := hP.by _ (va_part (cx := WSL cI cJ cZ cY q v0 v1 v2 v3 v4 v5 v6 v7 u8 v9 v10 v11 v12 v13 v14 v15 v16 y) [0, 1, 2, 3, 4, 5, 6, 7, 8, 9, 10, 11, 12, 13, 14, 15, 16, 17, 18, 19, 20, 21, 22, 23, 24, 25, 26, 27, 28, 29, 30, 31, 32, 33, 34, 35, 36, 37, 38, 39, 40, 41, 42, 43, 44, 45, 46, 47, 48, 49, 50, 51, 52, 53, 54, 55, 56, 57, 58, 59, 60, 61, 62, 63, 64, 65, 66, 67, 68, 69, 70, 71, 72, 73, 74, 75, 76, 77, 78, 79, 80, 81] rfl)
  have hD : va_D (fun q : Nat => s.heap.size ≤ q) (WSL cI cJ cZ cY q v0 v1 v2 v3 v4 v5 v6 v7 u8 v9 v10 v11 v12 v13 v14 v15 v16 y ++ PL cI v18) := hD.part (cx := WSL cI cJ cZ cY q v0 v1 v2 v3 v4 v5 v6 v7 u8 v9 v10 v11 v12 v13 v14 v15 v16 y) [0, 1, 2, 3, 4, 5, 6, 7, 8, 9, 10, 11, 12, 13, 14, 15, 16, 17, 18, 19, 20, 21, 22, 23, 24, 25, 26, 27, 28, 29, 30, 31, 32, 33, 34, 35, 36, 37, 38, 39, 40, 41, 42, 43, 44, 45, 46, 47, 48, 49, 50, 51, 52, 53, 54, 55, 56, 57, 58, 59, 60, 61, 62, 63, 64, 65, 66, 67, 68, 69, 70, 71, 72, 73, 74, 75, 76, 77, 78, 79, 80, 81] (by decide) rfl
  refine lv_icmp_eq (tgt := 1282) hx hb dL_law_319 (by decide) (fun _ => ?_) (fun c_2 => absurd hw.symm c_2)
  exact hnext v0 v1 v2 v3 v4 v5 v6 v7 u8 v9 v10 v11 v12 v13 v14 v15 v16 y v18 H locs ls _ _ (by omega) (by omega) hR2 hP hD hS (lv_sub hl [0, 1, 2, 3] rfl)
set_option maxHeartbeats 8000000 in
set_option maxRecDepth 100000 in
theorem lc_pair {p : Program} {l : Launch} {e : Env} {s : State} {m : MethodId} {below : List Frame} {meth : Method} {c : Code} {D : va_G} {cI cJ cZ cY : ClassId} {tX tY : Nat} {b L : Nat} {xs : Nat → Int32} (hL : L ≤ 4610) (C0 : lw_At p s m meth c b L xs) (hK : KU D cI cJ cZ cY s) (hT : ST tX tY (fun q : Nat => s.heap.size ≤ q) s s.heap) (q : Nat → Nat) (Rel : RelT) (o_pair : Op_pair Rel) {i k : Nat} (hiL : i + 9 ≤ L) (hk1 : k + 1 ≤ 512)
    (hnext : ∀ (v0 : BX11) (v1 : BX3) (v2 : BX8) (v3 : BX4) (v4 : BX8) (v5 : BX7) (v6 : BX6) (v7 : BX2) (v8 : BX1) (v9 : BX2) (v10 : BX5) (v11 : BX10) (v12 : BX9) (v13 : BX1) (v14 : BX2) (v15 : BX5) (v16 : BX10) (v17 : BX12) (v18 : PB) (H : Heap) (locs : List Loc) (ls : Array Slot) (cs ss : Nat), cs ≤ 120 + (k + 1) → ss ≤ 25000 + 300 * (k + 1) → Rel v0 v1 v2 v3 v4 v5 v6 v7 v8 v9 v10 v11 v12 v13 v14 v15 v16 v17 v18 → va_P D vwCl (WSL cI cJ cZ cY q v0 v1 v2 v3 v4 v5 v6 v7 v8 v9 v10 v11 v12 v13 v14 v15 v16 v17 ++ PL cI v18) H → va_D (fun q : Nat => s.heap.size ≤ q) (WSL cI cJ cZ cY q v0 v1 v2 v3 v4 v5 v6 v7 v8 v9 v10 v11 v12 v13 v14 v15 v16 v17 ++ PL cI v18) → va_S (fun q : Nat => s.heap.size ≤ q) s.heap H locs → lv_has ls 4 [(0, .ref b), (1, .ref (q 0)), (2, .ref (q 67)), (3, .int (nI i))] → W p l e room_1 s m #[Value.ref b] below meth c H locs cs ss (lw_Z below #[Value.ref b] s) (F0 m 1282 ls []))
    (v0 : BX11) (v1 : BX3) (v2 : BX8) (v3 : BX4) (v4 : BX8) (v5 : BX7) (v6 : BX6) (v7 : BX2) (v8 : BX1) (v9 : BX2) (v10 : BX5) (v11 : BX10) (v12 : BX9) (v13 : BX1) (v14 : BX2) (v15 : BX5) (v16 : BX10) (v17 : BX12) (v18 : PB) (H : Heap) (locs : List Loc) (ls : Array Slot) (hR : Rel v0 v1 v2 v3 v4 v5 v6 v7 v8 v9 v10 v11 v12 v13 v14 v15 v16 v17 v18) (hP : va_P D vwCl (WSL cI cJ cZ cY q v0 v1 v2 v3 v4 v5 v6 v7 v8 v9 v10 v11 v12 v13 v14 v15 v16 v17 ++ PL cI v18) H) (hD : va_D (fun q : Nat => s.heap.size ≤ q) (WSL cI cJ cZ cY q v0 v1 v2 v3 v4 v5 v6 v7 v8 v9 v10 v11 v12 v13 v14 v15 v16 v17 ++ PL cI v18)) (hS : va_S (fun q : Nat => s.heap.size ≤ q) s.heap H locs) (hl : lv_has ls 4 [(0, .ref b), (1, .ref (q 0)), (2, .ref (q 67)), (3, .int (nI i))]) : W p l e room_1 s m #[Value.ref b] below meth c H locs (120 + k) (25000 + 300 * k) (lw_Z below #[Value.ref b] s) (F0 m 324 ls []) := by
  obtain ⟨hx, hb, hr, hml, hown, hts, hX, hbl, hlocks, hgv⟩ := C0
  have htb : ∀ w ∈ TB, w.before #[Value.ref b] s = true := fun w h => hts w (tb_tbl h)
  have hA : ∀ q : Nat, s.heap.size ≤ q → (fun q : Nat => s.heap.size ≤ q) q := fun _ h => h
  have hbA : ¬ (fun q : Nat => s.heap.size ≤ q) b := Nat.not_le.mpr hbl
  refine lv_aload_n hx hb dL_law_324 rfl (lv_at hl 1 rfl) ?_
  refine lv_aload_n hx hb dL_law_325 rfl (lv_at hl 0 rfl) ?_
  refine lv_iload_n hx hb dL_law_326 rfl (lv_at hl 3 rfl) ?_
  refine lv_iconst (v := 1) hx hb dL_law_327 (by decide) ?_
  refine lv_iadd hx hb dL_law_328 ?_
  refine va_sld hx hb hX hbl hbA hS (scr_in (j := 1) (by omega) hL rfl) dL_law_329 ?_
  refine lv_aload_n hx hb dL_law_330 rfl (lv_at hl 0 rfl) ?_
  refine lv_iload_n hx hb dL_law_331 rfl (lv_at hl 3 rfl) ?_
  refine lv_iconst (v := 2) hx hb dL_law_332 (by decide) ?_
  refine lv_iadd hx hb dL_law_333 ?_
  refine va_sld hx hb hX hbl hbA hS (scr_in (j := 2) (by omega) hL rfl) dL_law_334 ?_
  refine lv_aload_n hx hb dL_law_335 rfl (lv_at hl 0 rfl) ?_
  refine lv_iload_n hx hb dL_law_336 rfl (lv_at hl 3 rfl) ?_
  refine lv_iconst (v := 3) hx hb dL_law_337 (by decide) ?_
  refine lv_iadd hx hb dL_law_338 ?_
  refine va_sld hx hb hX hbl hbA hS (scr_in (j := 3) (by omega) hL rfl) dL_law_339 ?_
  obtain ⟨r, x, y, hfx, hfm, hR2⟩ := o_pair v0 v1 v2 v3 v4 v5 v6 v7 v8 v9 v10 v11 v12 v13 v14 v15 v16 v17 v18 hR (xs (nI i + 1).toNatClampNeg) (xs (nI i + 2).toNatClampNeg) (xs (nI i + 3).toNatClampNeg)
  refine cc_iQ (va_runV (C := RX11) (As := [.int (xs (nI i + 1).toNatClampNeg), .int (xs (nI i + 2).toNatClampNeg), .int (xs (nI i + 3).toNatClampNeg)]) (rest := []) ⟨hx, hb, hml, hown, htb⟩ (k_X11_pair (q 0) (q 1) (q 2) (q 8) (q 10) (q 3) (q 6) (q 4) (q 5) (q 34) (q 28) (q 25) (q 19) (q 20) (q 21) (q 22) (q 23) (q 24) v0 v2 v8 (xs (nI i + 1).toNatClampNeg) (xs (nI i + 2).toNatClampNeg) (xs (nI i + 3).toNatClampNeg) (r, x) hfx) (cw_V 3 htb tg_486 tg_1 tg_483 tg_484 tg_485 rfl rfl (by decide +kernel) ⟨Nat.le_of_ble_eq_true rfl, Nat.le_of_ble_eq_true rfl⟩) ⟨PC.blind, va_recv hK.1 hP (ci := 10) (q0 := 0) rfl rfl, PC.pre hK hT hP hD hS hA [0, 4, 5, 19, 20, 21, 22, 23, 24] rfl (by decide)⟩ rfl rfl hl.1 rfl (lv_room (Nat.le_of_ble_eq_true rfl)) dL_law_340 ⟨by show _ ≤ 600000; omega, by show _ ≤ 7302250; omega⟩) hP hD hS hA [0, 4, 5, 19, 20, 21, 22, 23, 24] [1, 2, 3, 6, 7, 8, 9, 10, 11, 12, 13, 14, 15, 16, 17, 18, 25, 26, 27, 28, 29, 30, 31, 32, 33, 34, 35, 36, 37, 38, 39, 40, 41, 42, 43, 44, 45, 46, 47, 48, 49, 50, 51, 52, 53, 54, 55, 56, 57, 58, 59, 60, 61, 62, 63, 64, 65, 66, 67, 68, 69, 70, 71, 72, 73, 74, 75, 76, 77, 78, 79, 80, 81] rfl rfl (by decide) (by decide) rfl (fun r8 u8 H locs hw hP hD hS => ?_)
  obtain ⟨hw, hw2⟩ := hw
  have hw : r8 = r := hw
  have hw2 : u8 = x := hw2
  subst hw
  subst hw2
  have hP : va_P D vwCl (WSL cI cJ cZ cY q v0 v1 v2 v3 v4 v5 v6 v7 u8 v9 v10 v11 v12 v13 v14 v15 v16 v17 ++ PL cI v18) H := hP.by _ (va_part (cx := WSL cI cJ cZ cY q v0 v1 v2 v3 v4 v5 v6 v7 u8 v9 v10 v11 v12 v13 v14 v15 v16 v17) [73, 0, 1, 2, 74, 75, 3, 4, 5, 6, 7, 8, 9, 10, 11, 12, 13, 14, 15, 76, 77, 78, 79, 80, 81, 16, 17, 18, 19, 20, 21, 22, 23, 24, 25, 26, 27, 28, 29, 30, 31, 32, 33, 34, 35, 36, 37, 38, 39, 40, 41, 42, 43, 44, 45, 46, 47, 48, 49, 50, 51, 52, 53, 54, 55, 56, 57, 58, 59, 60, 61, 62, 63, 64, 65, 66, 67, 68, 69, 70, 71, 72] rfl)
  have hD : va_D (fun q : Nat => s.heap.size ≤ q) (WSL cI cJ cZ cY q v0 v1 v2 v3 v4 v5 v6 v7 u8 v9 v10 v11 v12 v13 v14 v15 v16 v17 ++ PL cI v18) := hD.part (cx := WSL cI cJ cZ cY q v0 v1 v2 v3 v4 v5 v6 v7 u8 v9 v10 v11 v12 v13 v14 v15 v16 v17) [73, 0, 1, 2, 74, 75, 3, 4, 5, 6, 7, 8, 9, 10, 11, 12, 13, 14, 15, 76, 77, 78, 79, 80, 81, 16, 17, 18, 19, 20, 21, 22, 23, 24, 25, 26, 27, 28, 29, 30, 31, 32, 33, 34, 35, 36, 37, 38, 39, 40, 41, 42, 43, 44, 45, 46, 47, 48, 49, 50, 51, 52, 53, 54, 55, 56, 57, 58, 59, 60, 61, 62, 63, 64, 65, 66, 67, 68, 69, 70, 71, 72] (by decide) rfl
  refine lv_aload_n hx hb dL_law_343 rfl (lv_at hl 2 rfl) ?_
  refine lv_aload_n hx hb dL_law_344 rfl (lv_at hl 0 rfl) ?_
  refine lv_iload_n hx hb dL_law_345 rfl (lv_at hl 3 rfl) ?_
  refine lv_iconst (v := 1) hx hb dL_law_346 (by decide) ?_
  refine lv_iadd hx hb dL_law_347 ?_
  refine va_sld hx hb hX hbl hbA hS (scr_in (j := 1) (by omega) hL rfl) dL_law_348 ?_
  refine lv_aload_n hx hb dL_law_349 rfl (lv_at hl 0 rfl) ?_
  refine lv_iload_n hx hb dL_law_350 rfl (lv_at hl 3 rfl) ?_
  refine lv_iconst (v := 2) hx hb dL_law_351 (by decide) ?_
  refine lv_iadd hx hb dL_law_352 ?_
  refine va_sld hx hb hX hbl hbA hS (scr_in (j := 2) (by omega) hL rfl) dL_law_353 ?_
  refine lv_aload_n hx hb dL_law_354 rfl (lv_at hl 0 rfl) ?_
  refine lv_iload_n hx hb dL_law_355 rfl (lv_at hl 3 rfl) ?_
  refine lv_iconst (v := 3) hx hb dL_law_356 (by decide) ?_
  refine lv_iadd hx hb dL_law_357 ?_
  refine va_sld hx hb hX hbl hbA hS (scr_in (j := 3) (by omega) hL rfl) dL_law_358 ?_
  refine cc_iQ (va_runV (C := RX12) (As := [.int (xs (nI i + 1).toNatClampNeg), .int (xs (nI i + 2).toNatClampNeg), .int (xs (nI i + 3).toNatClampNeg)]) (rest := [.int r8]) ⟨hx, hb, hml, hown, htb⟩ (k_X12_pair (q 67) (q 68) (q 69) (q 70) (q 71) (q 72) (q 73) (q 74) (q 75) (q 76) (q 77) (q 78) (q 79) (q 80) (q 81) v17 (xs (nI i + 1).toNatClampNeg) (xs (nI i + 2).toNatClampNeg) (xs (nI i + 3).toNatClampNeg) (r8, y) hfm) (cw_V 3 htb tg_1133 tg_13 tg_1130 tg_1131 tg_1132 rfl rfl (by decide +kernel) ⟨Nat.le_of_ble_eq_true rfl, Nat.le_of_ble_eq_true rfl⟩) ⟨PC.blind, va_recv hK.1 hP (ci := 11) (q0 := 67) rfl rfl, PC.pre hK hT hP hD hS hA [67, 68, 69, 70, 71, 72, 73, 74, 75, 76, 77, 78, 79, 80, 81] rfl (by decide)⟩ rfl rfl hl.1 rfl (lv_room (Nat.le_of_ble_eq_true rfl)) dL_law_359 ⟨by show _ ≤ 600000; omega, by show _ ≤ 7302250; omega⟩) hP hD hS hA [67, 68, 69, 70, 71, 72, 73, 74, 75, 76, 77, 78, 79, 80, 81] [0, 1, 2, 3, 4, 5, 6, 7, 8, 9, 10, 11, 12, 13, 14, 15, 16, 17, 18, 19, 20, 21, 22, 23, 24, 25, 26, 27, 28, 29, 30, 31, 32, 33, 34, 35, 36, 37, 38, 39, 40, 41, 42, 43, 44, 45, 46, 47, 48, 49, 50, 51, 52, 53, 54, 55, 56, 57, 58, 59, 60, 61, 62, 63, 64, 65, 66] rfl rfl (by decide) (by decide) rfl (fun r9 u9 H locs hw hP hD hS => ?_)
  obtain ⟨hw, hw2⟩ := hw
  try dsimp only at hw hw2
  rw [hw2] at hP hD
  have hP : va_P D vwCl (WSL cI cJ cZ cY q v0 v1 v2 v3 v4 v5 v6 v7 u8 v9 v10 v11 v12 v13 v14 v15 v16 y ++ PL cI v18) H := hP.by _ (va_part (cx := WSL cI cJ cZ cY q v0 v1 v2 v3 v4 v5 v6 v7 u8 v9 v10 v11 v12 v13 v14 v15 v16 y) [0, 1, 2, 3, 4, 5, 6, 7, 8, 9, 10, 11, 12, 13, 14, 15, 16, 17, 18, 19, 20, 21, 22, 23, 24, 25, 26, 27, 28, 29, 30, 31, 32, 33, 34, 35, 36, 37, 38, 39, 40, 41, 42, 43, 44, 45, 46, 47, 48, 49, 50, 51, 52, 53, 54, 55, 56, 57, 58, 59, 60, 61, 62, 63, 64, 65, 66, 67, 68, 69, 70, 71, 72, 73, 74, 75, 76, 77, 78, 79, 80, 81] rfl)
  have hD : va_D (fun q : Nat => s.heap.size ≤ q) (WSL cI cJ cZ cY q v0 v1 v2 v3 v4 v5 v6 v7 u8 v9 v10 v11 v12 v13 v14 v15 v16 y ++ PL cI v18) := hD.part (cx := WSL cI cJ cZ cY q v0 v1 v2 v3 v4 v5 v6 v7 u8 v9 v10 v11 v12 v13 v14 v15 v16 y) [0, 1, 2, 3, 4, 5, 6, 7, 8, 9, 10, 11, 12, 13, 14, 15, 16, 17, 18, 19, 20, 21, 22, 23, 24, 25, 26, 27, 28, 29, 30, 31, 32, 33, 34, 35, 36, 37, 38, 39, 40, 41, 42, 43, 44, 45, 46, 47, 48, 49, 50, 51, 52, 53, 54, 55, 56, 57, 58, 59, 60, 61, 62, 63, 64, 65, 66, 67, 68, 69, 70, 71, 72, 73, 74, 75, 76, 77, 78, 79, 80, 81] (by decide) rfl
  refine lv_icmp_eq (tgt := 1282) hx hb dL_law_362 (by decide) (fun _ => ?_) (fun c_2 => absurd hw.symm c_2)
  exact hnext v0 v1 v2 v3 v4 v5 v6 v7 u8 v9 v10 v11 v12 v13 v14 v15 v16 y v18 H locs ls _ _ (by omega) (by omega) hR2 hP hD hS (lv_sub hl [0, 1, 2, 3] rfl)
set_option maxHeartbeats 8000000 in
set_option maxRecDepth 100000 in
theorem lc_ray {p : Program} {l : Launch} {e : Env} {s : State} {m : MethodId} {below : List Frame} {meth : Method} {c : Code} {D : va_G} {cI cJ cZ cY : ClassId} {tX tY : Nat} {b L : Nat} {xs : Nat → Int32} (hL : L ≤ 4610) (C0 : lw_At p s m meth c b L xs) (hK : KU D cI cJ cZ cY s) (hT : ST tX tY (fun q : Nat => s.heap.size ≤ q) s s.heap) (q : Nat → Nat) (Rel : RelT) (o_ray : Op_ray Rel) {i k : Nat} (hiL : i + 9 ≤ L) (hk1 : k + 1 ≤ 512)
    (hnext : ∀ (v0 : BX11) (v1 : BX3) (v2 : BX8) (v3 : BX4) (v4 : BX8) (v5 : BX7) (v6 : BX6) (v7 : BX2) (v8 : BX1) (v9 : BX2) (v10 : BX5) (v11 : BX10) (v12 : BX9) (v13 : BX1) (v14 : BX2) (v15 : BX5) (v16 : BX10) (v17 : BX12) (v18 : PB) (H : Heap) (locs : List Loc) (ls : Array Slot) (cs ss : Nat), cs ≤ 120 + (k + 1) → ss ≤ 25000 + 300 * (k + 1) → Rel v0 v1 v2 v3 v4 v5 v6 v7 v8 v9 v10 v11 v12 v13 v14 v15 v16 v17 v18 → va_P D vwCl (WSL cI cJ cZ cY q v0 v1 v2 v3 v4 v5 v6 v7 v8 v9 v10 v11 v12 v13 v14 v15 v16 v17 ++ PL cI v18) H → va_D (fun q : Nat => s.heap.size ≤ q) (WSL cI cJ cZ cY q v0 v1 v2 v3 v4 v5 v6 v7 v8 v9 v10 v11 v12 v13 v14 v15 v16 v17 ++ PL cI v18) → va_S (fun q : Nat => s.heap.size ≤ q) s.heap H locs → lv_has ls 4 [(0, .ref b), (1, .ref (q 0)), (2, .ref (q 67)), (3, .int (nI i))] → W p l e room_1 s m #[Value.ref b] below meth c H locs cs ss (lw_Z below #[Value.ref b] s) (F0 m 1282 ls []))
    (v0 : BX11) (v1 : BX3) (v2 : BX8) (v3 : BX4) (v4 : BX8) (v5 : BX7) (v6 : BX6) (v7 : BX2) (v8 : BX1) (v9 : BX2) (v10 : BX5) (v11 : BX10) (v12 : BX9) (v13 : BX1) (v14 : BX2) (v15 : BX5) (v16 : BX10) (v17 : BX12) (v18 : PB) (H : Heap) (locs : List Loc) (ls : Array Slot) (hR : Rel v0 v1 v2 v3 v4 v5 v6 v7 v8 v9 v10 v11 v12 v13 v14 v15 v16 v17 v18) (hP : va_P D vwCl (WSL cI cJ cZ cY q v0 v1 v2 v3 v4 v5 v6 v7 v8 v9 v10 v11 v12 v13 v14 v15 v16 v17 ++ PL cI v18) H) (hD : va_D (fun q : Nat => s.heap.size ≤ q) (WSL cI cJ cZ cY q v0 v1 v2 v3 v4 v5 v6 v7 v8 v9 v10 v11 v12 v13 v14 v15 v16 v17 ++ PL cI v18)) (hS : va_S (fun q : Nat => s.heap.size ≤ q) s.heap H locs) (hl : lv_has ls 4 [(0, .ref b), (1, .ref (q 0)), (2, .ref (q 67)), (3, .int (nI i))]) : W p l e room_1 s m #[Value.ref b] below meth c H locs (120 + k) (25000 + 300 * k) (lw_Z below #[Value.ref b] s) (F0 m 367 ls []) := by
  obtain ⟨hx, hb, hr, hml, hown, hts, hX, hbl, hlocks, hgv⟩ := C0
  have htb : ∀ w ∈ TB, w.before #[Value.ref b] s = true := fun w h => hts w (tb_tbl h)
  have hA : ∀ q : Nat, s.heap.size ≤ q → (fun q : Nat => s.heap.size ≤ q) q := fun _ h => h
  have hbA : ¬ (fun q : Nat => s.heap.size ≤ q) b := Nat.not_le.mpr hbl
  refine lv_aload_n hx hb dL_law_367 rfl (lv_at hl 1 rfl) ?_
  refine lv_aload_n hx hb dL_law_368 rfl (lv_at hl 0 rfl) ?_
  refine lv_iload_n hx hb dL_law_369 rfl (lv_at hl 3 rfl) ?_
  refine lv_iconst (v := 1) hx hb dL_law_370 (by decide) ?_
  refine lv_iadd hx hb dL_law_371 ?_
  refine va_sld hx hb hX hbl hbA hS (scr_in (j := 1) (by omega) hL rfl) dL_law_372 ?_
  refine lv_aload_n hx hb dL_law_373 rfl (lv_at hl 0 rfl) ?_
  refine lv_iload_n hx hb dL_law_374 rfl (lv_at hl 3 rfl) ?_
  refine lv_iconst (v := 2) hx hb dL_law_375 (by decide) ?_
  refine lv_iadd hx hb dL_law_376 ?_
  refine va_sld hx hb hX hbl hbA hS (scr_in (j := 2) (by omega) hL rfl) dL_law_377 ?_
  refine lv_aload_n hx hb dL_law_378 rfl (lv_at hl 0 rfl) ?_
  refine lv_iload_n hx hb dL_law_379 rfl (lv_at hl 3 rfl) ?_
  refine lv_iconst (v := 3) hx hb dL_law_380 (by decide) ?_
  refine lv_iadd hx hb dL_law_381 ?_
  refine va_sld hx hb hX hbl hbA hS (scr_in (j := 3) (by omega) hL rfl) dL_law_382 ?_
  refine lv_aload_n hx hb dL_law_383 rfl (lv_at hl 0 rfl) ?_
  refine lv_iload_n hx hb dL_law_384 rfl (lv_at hl 3 rfl) ?_
  refine lv_iconst (v := 4) hx hb dL_law_385 (by decide) ?_
  refine lv_iadd hx hb dL_law_386 ?_
  refine va_sld hx hb hX hbl hbA hS (scr_in (j := 4) (by omega) hL rfl) dL_law_387 ?_
  refine lv_aload_n hx hb dL_law_388 rfl (lv_at hl 0 rfl) ?_
  refine lv_iload_n hx hb dL_law_389 rfl (lv_at hl 3 rfl) ?_
  refine lv_iconst (v := 5) hx hb dL_law_390 (by decide) ?_
  refine lv_iadd hx hb dL_law_391 ?_
  refine va_sld hx hb hX hbl hbA hS (scr_in (j := 5) (by omega) hL rfl) dL_law_392 ?_
  refine lv_if_eq (tgt := 400) hx hb dL_law_393 (by decide) (fun cb393 => ?_) (fun cb393 => ?_)
  · refine lv_iconst (v := 0) hx hb dL_law_400 (by decide) ?_
    obtain ⟨r, x, y, hfx, hfm, hR2⟩ := o_ray v0 v1 v2 v3 v4 v5 v6 v7 v8 v9 v10 v11 v12 v13 v14 v15 v16 v17 v18 hR (xs (nI i + 1).toNatClampNeg) (xs (nI i + 2).toNatClampNeg) (xs (nI i + 3).toNatClampNeg) (xs (nI i + 4).toNatClampNeg) 0
    refine cc_iQ (va_runV (C := RX11) (As := [.int (xs (nI i + 1).toNatClampNeg), .int (xs (nI i + 2).toNatClampNeg), .int (xs (nI i + 3).toNatClampNeg), .int (xs (nI i + 4).toNatClampNeg), .int 0]) (rest := []) ⟨hx, hb, hml, hown, htb⟩ (k_X11_ray (q 0) (q 1) (q 2) (q 8) (q 3) (q 6) (q 4) (q 5) (q 19) (q 28) (q 25) (q 10) (q 11) (q 12) (q 34) (q 35) (q 36) (q 37) (q 38) (q 39) (q 40) v0 v2 v5 v11 (xs (nI i + 1).toNatClampNeg) (xs (nI i + 2).toNatClampNeg) (xs (nI i + 3).toNatClampNeg) (xs (nI i + 4).toNatClampNeg) 0 (r, x) hfx) (cw_V 5 htb tg_495 tg_1 tg_492 tg_493 tg_494 rfl rfl (by decide +kernel) ⟨Nat.le_of_ble_eq_true rfl, Nat.le_of_ble_eq_true rfl⟩) ⟨PC.blind, va_recv hK.1 hP (ci := 10) (q0 := 0) rfl rfl, PC.pre hK hT hP hD hS hA [0, 4, 5, 10, 11, 12, 34, 35, 36, 37, 38, 39, 40] rfl (by decide)⟩ rfl rfl hl.1 rfl (lv_room (Nat.le_of_ble_eq_true rfl)) dL_law_401 ⟨by show _ ≤ 600000; omega, by show _ ≤ 7302250; omega⟩) hP hD hS hA [0, 4, 5, 10, 11, 12, 34, 35, 36, 37, 38, 39, 40] [1, 2, 3, 6, 7, 8, 9, 13, 14, 15, 16, 17, 18, 19, 20, 21, 22, 23, 24, 25, 26, 27, 28, 29, 30, 31, 32, 33, 41, 42, 43, 44, 45, 46, 47, 48, 49, 50, 51, 52, 53, 54, 55, 56, 57, 58, 59, 60, 61, 62, 63, 64, 65, 66, 67, 68, 69, 70, 71, 72, 73, 74, 75, 76, 77, 78, 79, 80, 81] rfl rfl (by decide) (by decide) rfl (fun r8 u8 H locs hw hP hD hS => ?_)
    obtain ⟨hw, hw2⟩ := hw
    have hw : r8 = r := hw
    have hw2 : u8 = x := hw2
    subst hw
    subst hw2
    have hP : va_P D vwCl (WSL cI cJ cZ cY q v0 v1 v2 v3 v4 u8 v6 v7 v8 v9 v10 v11 v12 v13 v14 v15 v16 v17 ++ PL cI v18) H := hP.by _ (va_part (cx := WSL cI cJ cZ cY q v0 v1 v2 v3 v4 u8 v6 v7 v8 v9 v10 v11 v12 v13 v14 v15 v16 v17) [69, 0, 1, 2, 70, 71, 3, 4, 5, 6, 72, 73, 74, 7, 8, 9, 10, 11, 12, 13, 14, 15, 16, 17, 18, 19, 20, 21, 22, 23, 24, 25, 26, 27, 75, 76, 77, 78, 79, 80, 81, 28, 29, 30, 31, 32, 33, 34, 35, 36, 37, 38, 39, 40, 41, 42, 43, 44, 45, 46, 47, 48, 49, 50, 51, 52, 53, 54, 55, 56, 57, 58, 59, 60, 61, 62, 63, 64, 65, 66, 67, 68] rfl)
    have hD : va_D (fun q : Nat => s.heap.size ≤ q) (WSL cI cJ cZ cY q v0 v1 v2 v3 v4 u8 v6 v7 v8 v9 v10 v11 v12 v13 v14 v15 v16 v17 ++ PL cI v18) := hD.part (cx := WSL cI cJ cZ cY q v0 v1 v2 v3 v4 u8 v6 v7 v8 v9 v10 v11 v12 v13 v14 v15 v16 v17) [69, 0, 1, 2, 70, 71, 3, 4, 5, 6, 72, 73, 74, 7, 8, 9, 10, 11, 12, 13, 14, 15, 16, 17, 18, 19, 20, 21, 22, 23, 24, 25, 26, 27, 75, 76, 77, 78, 79, 80, 81, 28, 29, 30, 31, 32, 33, 34, 35, 36, 37, 38, 39, 40, 41, 42, 43, 44, 45, 46, 47, 48, 49, 50, 51, 52, 53, 54, 55, 56, 57, 58, 59, 60, 61, 62, 63, 64, 65, 66, 67, 68] (by decide) rfl
    refine lv_aload_n hx hb dL_law_404 rfl (lv_at hl 2 rfl) ?_
    refine lv_aload_n hx hb dL_law_405 rfl (lv_at hl 0 rfl) ?_
    refine lv_iload_n hx hb dL_law_406 rfl (lv_at hl 3 rfl) ?_
    refine lv_iconst (v := 1) hx hb dL_law_407 (by decide) ?_
    refine lv_iadd hx hb dL_law_408 ?_
    refine va_sld hx hb hX hbl hbA hS (scr_in (j := 1) (by omega) hL rfl) dL_law_409 ?_
    refine lv_aload_n hx hb dL_law_410 rfl (lv_at hl 0 rfl) ?_
    refine lv_iload_n hx hb dL_law_411 rfl (lv_at hl 3 rfl) ?_
    refine lv_iconst (v := 2) hx hb dL_law_412 (by decide) ?_
    refine lv_iadd hx hb dL_law_413 ?_
    refine va_sld hx hb hX hbl hbA hS (scr_in (j := 2) (by omega) hL rfl) dL_law_414 ?_
    refine lv_aload_n hx hb dL_law_415 rfl (lv_at hl 0 rfl) ?_
    refine lv_iload_n hx hb dL_law_416 rfl (lv_at hl 3 rfl) ?_
    refine lv_iconst (v := 3) hx hb dL_law_417 (by decide) ?_
    refine lv_iadd hx hb dL_law_418 ?_
    refine va_sld hx hb hX hbl hbA hS (scr_in (j := 3) (by omega) hL rfl) dL_law_419 ?_
    refine lv_aload_n hx hb dL_law_420 rfl (lv_at hl 0 rfl) ?_
    refine lv_iload_n hx hb dL_law_421 rfl (lv_at hl 3 rfl) ?_
    refine lv_iconst (v := 4) hx hb dL_law_422 (by decide) ?_
    refine lv_iadd hx hb dL_law_423 ?_
    refine va_sld hx hb hX hbl hbA hS (scr_in (j := 4) (by omega) hL rfl) dL_law_424 ?_
    refine lv_aload_n hx hb dL_law_425 rfl (lv_at hl 0 rfl) ?_
    refine lv_iload_n hx hb dL_law_426 rfl (lv_at hl 3 rfl) ?_
    refine lv_iconst (v := 5) hx hb dL_law_427 (by decide) ?_
    refine lv_iadd hx hb dL_law_428 ?_
    refine va_sld hx hb hX hbl hbA hS (scr_in (j := 5) (by omega) hL rfl) dL_law_429 ?_
    refine lv_if_eq (tgt := 437) hx hb dL_law_430 (by decide) (fun cb430 => ?_) (fun cb430 => ?_)
    · refine lv_iconst (v := 0) hx hb dL_law_437 (by decide) ?_
      refine cc_iQ (va_runV (C := RX12) (As := [.int (xs (nI i + 1).toNatClampNeg), .int (xs (nI i + 2).toNatClampNeg), .int (xs (nI i + 3).toNatClampNeg), .int (xs (nI i + 4).toNatClampNeg), .int 0]) (rest := [.int r8]) ⟨hx, hb, hml, hown, htb⟩ (k_X12_ray (q 67) (q 68) (q 69) (q 70) (q 71) (q 72) (q 73) (q 74) (q 75) (q 76) (q 77) (q 78) (q 79) (q 80) (q 81) v17 (xs (nI i + 1).toNatClampNeg) (xs (nI i + 2).toNatClampNeg) (xs (nI i + 3).toNatClampNeg) (xs (nI i + 4).toNatClampNeg) 0 (r8, y) hfm) (cw_V 5 htb tg_1101 tg_13 tg_1098 tg_1099 tg_1100 rfl rfl (by decide +kernel) ⟨Nat.le_of_ble_eq_true rfl, Nat.le_of_ble_eq_true rfl⟩) ⟨PC.blind, va_recv hK.1 hP (ci := 11) (q0 := 67) rfl rfl, PC.pre hK hT hP hD hS hA [67, 68, 69, 70, 71, 72, 73, 74, 75, 76, 77, 78, 79, 80, 81] rfl (by decide)⟩ rfl rfl hl.1 rfl (lv_room (Nat.le_of_ble_eq_true rfl)) dL_law_438 ⟨by show _ ≤ 600000; omega, by show _ ≤ 7302250; omega⟩) hP hD hS hA [67, 68, 69, 70, 71, 72, 73, 74, 75, 76, 77, 78, 79, 80, 81] [0, 1, 2, 3, 4, 5, 6, 7, 8, 9, 10, 11, 12, 13, 14, 15, 16, 17, 18, 19, 20, 21, 22, 23, 24, 25, 26, 27, 28, 29, 30, 31, 32, 33, 34, 35, 36, 37, 38, 39, 40, 41, 42, 43, 44, 45, 46, 47, 48, 49, 50, 51, 52, 53, 54, 55, 56, 57, 58, 59, 60, 61, 62, 63, 64, 65, 66] rfl rfl (by decide) (by decide) rfl (fun r9 u9 H locs hw hP hD hS => ?_)
      obtain ⟨hw, hw2⟩ := hw
      try dsimp only at hw hw2
      rw [hw2] at hP hD
      have hP : va_P D vwCl (WSL cI cJ cZ cY q v0 v1 v2 v3 v4 u8 v6 v7 v8 v9 v10 v11 v12 v13 v14 v15 v16 y ++ PL cI v18) H := hP.by _ (va_part (cx := WSL cI cJ cZ cY q v0 v1 v2 v3 v4 u8 v6 v7 v8 v9 v10 v11 v12 v13 v14 v15 v16 y) [0, 1, 2, 3, 4, 5, 6, 7, 8, 9, 10, 11, 12, 13, 14, 15, 16, 17, 18, 19, 20, 21, 22, 23, 24, 25, 26, 27, 28, 29, 30, 31, 32, 33, 34, 35, 36, 37, 38, 39, 40, 41, 42, 43, 44, 45, 46, 47, 48, 49, 50, 51, 52, 53, 54, 55, 56, 57, 58, 59, 60, 61, 62, 63, 64, 65, 66, 67, 68, 69, 70, 71, 72, 73, 74, 75, 76, 77, 78, 79, 80, 81] rfl)
      have hD : va_D (fun q : Nat => s.heap.size ≤ q) (WSL cI cJ cZ cY q v0 v1 v2 v3 v4 u8 v6 v7 v8 v9 v10 v11 v12 v13 v14 v15 v16 y ++ PL cI v18) := hD.part (cx := WSL cI cJ cZ cY q v0 v1 v2 v3 v4 u8 v6 v7 v8 v9 v10 v11 v12 v13 v14 v15 v16 y) [0, 1, 2, 3, 4, 5, 6, 7, 8, 9, 10, 11, 12, 13, 14, 15, 16, 17, 18, 19, 20, 21, 22, 23, 24, 25, 26, 27, 28, 29, 30, 31, 32, 33, 34, 35, 36, 37, 38, 39, 40, 41, 42, 43, 44, 45, 46, 47, 48, 49, 50, 51, 52, 53, 54, 55, 56, 57, 58, 59, 60, 61, 62, 63, 64, 65, 66, 67, 68, 69, 70, 71, 72, 73, 74, 75, 76, 77, 78, 79, 80, 81] (by decide) rfl
      refine lv_icmp_eq (tgt := 1282) hx hb dL_law_441 (by decide) (fun _ => ?_) (fun c_2 => absurd hw.symm c_2)
      exact hnext v0 v1 v2 v3 v4 u8 v6 v7 v8 v9 v10 v11 v12 v13 v14 v15 v16 y v18 H locs ls _ _ (by omega) (by omega) hR2 hP hD hS (lv_sub hl [0, 1, 2, 3] rfl)
    · refine lv_iconst (v := 1) hx hb dL_law_433 (by decide) ?_
      refine lv_goto (tgt := 438) hx hb dL_law_434 (by decide) ?_
      exact absurd cb393 cb430
  · refine lv_iconst (v := 1) hx hb dL_law_396 (by decide) ?_
    refine lv_goto (tgt := 401) hx hb dL_law_397 (by decide) ?_
    obtain ⟨r, x, y, hfx, hfm, hR2⟩ := o_ray v0 v1 v2 v3 v4 v5 v6 v7 v8 v9 v10 v11 v12 v13 v14 v15 v16 v17 v18 hR (xs (nI i + 1).toNatClampNeg) (xs (nI i + 2).toNatClampNeg) (xs (nI i + 3).toNatClampNeg) (xs (nI i + 4).toNatClampNeg) 1
    refine cc_iQ (va_runV (C := RX11) (As := [.int (xs (nI i + 1).toNatClampNeg), .int (xs (nI i + 2).toNatClampNeg), .int (xs (nI i + 3).toNatClampNeg), .int (xs (nI i + 4).toNatClampNeg), .int 1]) (rest := []) ⟨hx, hb, hml, hown, htb⟩ (k_X11_ray (q 0) (q 1) (q 2) (q 8) (q 3) (q 6) (q 4) (q 5) (q 19) (q 28) (q 25) (q 10) (q 11) (q 12) (q 34) (q 35) (q 36) (q 37) (q 38) (q 39) (q 40) v0 v2 v5 v11 (xs (nI i + 1).toNatClampNeg) (xs (nI i + 2).toNatClampNeg) (xs (nI i + 3).toNatClampNeg) (xs (nI i + 4).toNatClampNeg) 1 (r, x) hfx) (cw_V 5 htb tg_495 tg_1 tg_492 tg_493 tg_494 rfl rfl (by decide +kernel) ⟨Nat.le_of_ble_eq_true rfl, Nat.le_of_ble_eq_true rfl⟩) ⟨PC.blind, va_recv hK.1 hP (ci := 10) (q0 := 0) rfl rfl, PC.pre hK hT hP hD hS hA [0, 4, 5, 10, 11, 12, 34, 35, 36, 37, 38, 39, 40] rfl (by decide)⟩ rfl rfl hl.1 rfl (lv_room (Nat.le_of_ble_eq_true rfl)) dL_law_401 ⟨by show _ ≤ 600000; omega, by show _ ≤ 7302250; omega⟩) hP hD hS hA [0, 4, 5, 10, 11, 12, 34, 35, 36, 37, 38, 39, 40] [1, 2, 3, 6, 7, 8, 9, 13, 14, 15, 16, 17, 18, 19, 20, 21, 22, 23, 24, 25, 26, 27, 28, 29, 30, 31, 32, 33, 41, 42, 43, 44, 45, 46, 47, 48, 49, 50, 51, 52, 53, 54, 55, 56, 57, 58, 59, 60, 61, 62, 63, 64, 65, 66, 67, 68, 69, 70, 71, 72, 73, 74, 75, 76, 77, 78, 79, 80, 81] rfl rfl (by decide) (by decide) rfl (fun r8 u8 H locs hw hP hD hS => ?_)
    obtain ⟨hw, hw2⟩ := hw
    have hw : r8 = r := hw
    have hw2 : u8 = x := hw2
    subst hw
    subst hw2
    have hP : va_P D vwCl (WSL cI cJ cZ cY q v0 v1 v2 v3 v4 u8 v6 v7 v8 v9 v10 v11 v12 v13 v14 v15 v16 v17 ++ PL cI v18) H := hP.by _ (va_part (cx := WSL cI cJ cZ cY q v0 v1 v2 v3 v4 u8 v6 v7 v8 v9 v10 v11 v12 v13 v14 v15 v16 v17) [69, 0, 1, 2, 70, 71, 3, 4, 5, 6, 72, 73, 74, 7, 8, 9, 10, 11, 12, 13, 14, 15, 16, 17, 18, 19, 20, 21, 22, 23, 24, 25, 26, 27, 75, 76, 77, 78, 79, 80, 81, 28, 29, 30, 31, 32, 33, 34, 35, 36, 37, 38, 39, 40, 41, 42, 43, 44, 45, 46, 47, 48, 49, 50, 51, 52, 53, 54, 55, 56, 57, 58, 59, 60, 61, 62, 63, 64, 65, 66, 67, 68] rfl)
    have hD : va_D (fun q : Nat => s.heap.size ≤ q) (WSL cI cJ cZ cY q v0 v1 v2 v3 v4 u8 v6 v7 v8 v9 v10 v11 v12 v13 v14 v15 v16 v17 ++ PL cI v18) := hD.part (cx := WSL cI cJ cZ cY q v0 v1 v2 v3 v4 u8 v6 v7 v8 v9 v10 v11 v12 v13 v14 v15 v16 v17) [69, 0, 1, 2, 70, 71, 3, 4, 5, 6, 72, 73, 74, 7, 8, 9, 10, 11, 12, 13, 14, 15, 16, 17, 18, 19, 20, 21, 22, 23, 24, 25, 26, 27, 75, 76, 77, 78, 79, 80, 81, 28, 29, 30, 31, 32, 33, 34, 35, 36, 37, 38, 39, 40, 41, 42, 43, 44, 45, 46, 47, 48, 49, 50, 51, 52, 53, 54, 55, 56, 57, 58, 59, 60, 61, 62, 63, 64, 65, 66, 67, 68] (by decide) rfl
    refine lv_aload_n hx hb dL_law_404 rfl (lv_at hl 2 rfl) ?_
    refine lv_aload_n hx hb dL_law_405 rfl (lv_at hl 0 rfl) ?_
    refine lv_iload_n hx hb dL_law_406 rfl (lv_at hl 3 rfl) ?_
    refine lv_iconst (v := 1) hx hb dL_law_407 (by decide) ?_
    refine lv_iadd hx hb dL_law_408 ?_
    refine va_sld hx hb hX hbl hbA hS (scr_in (j := 1) (by omega) hL rfl) dL_law_409 ?_
    refine lv_aload_n hx hb dL_law_410 rfl (lv_at hl 0 rfl) ?_
    refine lv_iload_n hx hb dL_law_411 rfl (lv_at hl 3 rfl) ?_
    refine lv_iconst (v := 2) hx hb dL_law_412 (by decide) ?_
    refine lv_iadd hx hb dL_law_413 ?_
    refine va_sld hx hb hX hbl hbA hS (scr_in (j := 2) (by omega) hL rfl) dL_law_414 ?_
    refine lv_aload_n hx hb dL_law_415 rfl (lv_at hl 0 rfl) ?_
    refine lv_iload_n hx hb dL_law_416 rfl (lv_at hl 3 rfl) ?_
    refine lv_iconst (v := 3) hx hb dL_law_417 (by decide) ?_
    refine lv_iadd hx hb dL_law_418 ?_
    refine va_sld hx hb hX hbl hbA hS (scr_in (j := 3) (by omega) hL rfl) dL_law_419 ?_
    refine lv_aload_n hx hb dL_law_420 rfl (lv_at hl 0 rfl) ?_
    refine lv_iload_n hx hb dL_law_421 rfl (lv_at hl 3 rfl) ?_
    refine lv_iconst (v := 4) hx hb dL_law_422 (by decide) ?_
    refine lv_iadd hx hb dL_law_423 ?_
    refine va_sld hx hb hX hbl hbA hS (scr_in (j := 4) (by omega) hL rfl) dL_law_424 ?_
    refine lv_aload_n hx hb dL_law_425 rfl (lv_at hl 0 rfl) ?_
    refine lv_iload_n hx hb dL_law_426 rfl (lv_at hl 3 rfl) ?_
    refine lv_iconst (v := 5) hx hb dL_law_427 (by decide) ?_
    refine lv_iadd hx hb dL_law_428 ?_
    refine va_sld hx hb hX hbl hbA hS (scr_in (j := 5) (by omega) hL rfl) dL_law_429 ?_
    refine lv_if_eq (tgt := 437) hx hb dL_law_430 (by decide) (fun cb430 => ?_) (fun cb430 => ?_)
    · refine lv_iconst (v := 0) hx hb dL_law_437 (by decide) ?_
      exact absurd cb430 cb393
    · refine lv_iconst (v := 1) hx hb dL_law_433 (by decide) ?_
      refine lv_goto (tgt := 438) hx hb dL_law_434 (by decide) ?_
      refine cc_iQ (va_runV (C := RX12) (As := [.int (xs (nI i + 1).toNatClampNeg), .int (xs (nI i + 2).toNatClampNeg), .int (xs (nI i + 3).toNatClampNeg), .int (xs (nI i + 4).toNatClampNeg), .int 1]) (rest := [.int r8]) ⟨hx, hb, hml, hown, htb⟩ (k_X12_ray (q 67) (q 68) (q 69) (q 70) (q 71) (q 72) (q 73) (q 74) (q 75) (q 76) (q 77) (q 78) (q 79) (q 80) (q 81) v17 (xs (nI i + 1).toNatClampNeg) (xs (nI i + 2).toNatClampNeg) (xs (nI i + 3).toNatClampNeg) (xs (nI i + 4).toNatClampNeg) 1 (r8, y) hfm) (cw_V 5 htb tg_1101 tg_13 tg_1098 tg_1099 tg_1100 rfl rfl (by decide +kernel) ⟨Nat.le_of_ble_eq_true rfl, Nat.le_of_ble_eq_true rfl⟩) ⟨PC.blind, va_recv hK.1 hP (ci := 11) (q0 := 67) rfl rfl, PC.pre hK hT hP hD hS hA [67, 68, 69, 70, 71, 72, 73, 74, 75, 76, 77, 78, 79, 80, 81] rfl (by decide)⟩ rfl rfl hl.1 rfl (lv_room (Nat.le_of_ble_eq_true rfl)) dL_law_438 ⟨by show _ ≤ 600000; omega, by show _ ≤ 7302250; omega⟩) hP hD hS hA [67, 68, 69, 70, 71, 72, 73, 74, 75, 76, 77, 78, 79, 80, 81] [0, 1, 2, 3, 4, 5, 6, 7, 8, 9, 10, 11, 12, 13, 14, 15, 16, 17, 18, 19, 20, 21, 22, 23, 24, 25, 26, 27, 28, 29, 30, 31, 32, 33, 34, 35, 36, 37, 38, 39, 40, 41, 42, 43, 44, 45, 46, 47, 48, 49, 50, 51, 52, 53, 54, 55, 56, 57, 58, 59, 60, 61, 62, 63, 64, 65, 66] rfl rfl (by decide) (by decide) rfl (fun r9 u9 H locs hw hP hD hS => ?_)
      obtain ⟨hw, hw2⟩ := hw
      try dsimp only at hw hw2
      rw [hw2] at hP hD
      have hP : va_P D vwCl (WSL cI cJ cZ cY q v0 v1 v2 v3 v4 u8 v6 v7 v8 v9 v10 v11 v12 v13 v14 v15 v16 y ++ PL cI v18) H := hP.by _ (va_part (cx := WSL cI cJ cZ cY q v0 v1 v2 v3 v4 u8 v6 v7 v8 v9 v10 v11 v12 v13 v14 v15 v16 y) [0, 1, 2, 3, 4, 5, 6, 7, 8, 9, 10, 11, 12, 13, 14, 15, 16, 17, 18, 19, 20, 21, 22, 23, 24, 25, 26, 27, 28, 29, 30, 31, 32, 33, 34, 35, 36, 37, 38, 39, 40, 41, 42, 43, 44, 45, 46, 47, 48, 49, 50, 51, 52, 53, 54, 55, 56, 57, 58, 59, 60, 61, 62, 63, 64, 65, 66, 67, 68, 69, 70, 71, 72, 73, 74, 75, 76, 77, 78, 79, 80, 81] rfl)
      have hD : va_D (fun q : Nat => s.heap.size ≤ q) (WSL cI cJ cZ cY q v0 v1 v2 v3 v4 u8 v6 v7 v8 v9 v10 v11 v12 v13 v14 v15 v16 y ++ PL cI v18) := hD.part (cx := WSL cI cJ cZ cY q v0 v1 v2 v3 v4 u8 v6 v7 v8 v9 v10 v11 v12 v13 v14 v15 v16 y) [0, 1, 2, 3, 4, 5, 6, 7, 8, 9, 10, 11, 12, 13, 14, 15, 16, 17, 18, 19, 20, 21, 22, 23, 24, 25, 26, 27, 28, 29, 30, 31, 32, 33, 34, 35, 36, 37, 38, 39, 40, 41, 42, 43, 44, 45, 46, 47, 48, 49, 50, 51, 52, 53, 54, 55, 56, 57, 58, 59, 60, 61, 62, 63, 64, 65, 66, 67, 68, 69, 70, 71, 72, 73, 74, 75, 76, 77, 78, 79, 80, 81] (by decide) rfl
      refine lv_icmp_eq (tgt := 1282) hx hb dL_law_441 (by decide) (fun _ => ?_) (fun c_2 => absurd hw.symm c_2)
      exact hnext v0 v1 v2 v3 v4 u8 v6 v7 v8 v9 v10 v11 v12 v13 v14 v15 v16 y v18 H locs ls _ _ (by omega) (by omega) hR2 hP hD hS (lv_sub hl [0, 1, 2, 3] rfl)
set_option maxHeartbeats 8000000 in
set_option maxRecDepth 100000 in
theorem lc_take {p : Program} {l : Launch} {e : Env} {s : State} {m : MethodId} {below : List Frame} {meth : Method} {c : Code} {D : va_G} {cI cJ cZ cY : ClassId} {tX tY : Nat} {b L : Nat} {xs : Nat → Int32} (hL : L ≤ 4610) (C0 : lw_At p s m meth c b L xs) (hK : KU D cI cJ cZ cY s) (hT : ST tX tY (fun q : Nat => s.heap.size ≤ q) s s.heap) (q : Nat → Nat) (Rel : RelT) (o_take : Op_take Rel) {i k : Nat} (hiL : i + 9 ≤ L) (hk1 : k + 1 ≤ 512)
    (hnext : ∀ (v0 : BX11) (v1 : BX3) (v2 : BX8) (v3 : BX4) (v4 : BX8) (v5 : BX7) (v6 : BX6) (v7 : BX2) (v8 : BX1) (v9 : BX2) (v10 : BX5) (v11 : BX10) (v12 : BX9) (v13 : BX1) (v14 : BX2) (v15 : BX5) (v16 : BX10) (v17 : BX12) (v18 : PB) (H : Heap) (locs : List Loc) (ls : Array Slot) (cs ss : Nat), cs ≤ 120 + (k + 1) → ss ≤ 25000 + 300 * (k + 1) → Rel v0 v1 v2 v3 v4 v5 v6 v7 v8 v9 v10 v11 v12 v13 v14 v15 v16 v17 v18 → va_P D vwCl (WSL cI cJ cZ cY q v0 v1 v2 v3 v4 v5 v6 v7 v8 v9 v10 v11 v12 v13 v14 v15 v16 v17 ++ PL cI v18) H → va_D (fun q : Nat => s.heap.size ≤ q) (WSL cI cJ cZ cY q v0 v1 v2 v3 v4 v5 v6 v7 v8 v9 v10 v11 v12 v13 v14 v15 v16 v17 ++ PL cI v18) → va_S (fun q : Nat => s.heap.size ≤ q) s.heap H locs → lv_has ls 4 [(0, .ref b), (1, .ref (q 0)), (2, .ref (q 67)), (3, .int (nI i))] → W p l e room_1 s m #[Value.ref b] below meth c H locs cs ss (lw_Z below #[Value.ref b] s) (F0 m 1282 ls []))
    (v0 : BX11) (v1 : BX3) (v2 : BX8) (v3 : BX4) (v4 : BX8) (v5 : BX7) (v6 : BX6) (v7 : BX2) (v8 : BX1) (v9 : BX2) (v10 : BX5) (v11 : BX10) (v12 : BX9) (v13 : BX1) (v14 : BX2) (v15 : BX5) (v16 : BX10) (v17 : BX12) (v18 : PB) (H : Heap) (locs : List Loc) (ls : Array Slot) (hR : Rel v0 v1 v2 v3 v4 v5 v6 v7 v8 v9 v10 v11 v12 v13 v14 v15 v16 v17 v18) (hP : va_P D vwCl (WSL cI cJ cZ cY q v0 v1 v2 v3 v4 v5 v6 v7 v8 v9 v10 v11 v12 v13 v14 v15 v16 v17 ++ PL cI v18) H) (hD : va_D (fun q : Nat => s.heap.size ≤ q) (WSL cI cJ cZ cY q v0 v1 v2 v3 v4 v5 v6 v7 v8 v9 v10 v11 v12 v13 v14 v15 v16 v17 ++ PL cI v18)) (hS : va_S (fun q : Nat => s.heap.size ≤ q) s.heap H locs) (hl : lv_has ls 4 [(0, .ref b), (1, .ref (q 0)), (2, .ref (q 67)), (3, .int (nI i))]) : W p l e room_1 s m #[Value.ref b] below meth c H locs (120 + k) (25000 + 300 * k) (lw_Z below #[Value.ref b] s) (F0 m 446 ls []) := by
  obtain ⟨hx, hb, hr, hml, hown, hts, hX, hbl, hlocks, hgv⟩ := C0
  have htb : ∀ w ∈ TB, w.before #[Value.ref b] s = true := fun w h => hts w (tb_tbl h)
  have hA : ∀ q : Nat, s.heap.size ≤ q → (fun q : Nat => s.heap.size ≤ q) q := fun _ h => h
  have hbA : ¬ (fun q : Nat => s.heap.size ≤ q) b := Nat.not_le.mpr hbl
  refine lv_aload_n hx hb dL_law_446 rfl (lv_at hl 1 rfl) ?_
  refine lv_aload_n hx hb dL_law_447 rfl (lv_at hl 0 rfl) ?_
  refine lv_iload_n hx hb dL_law_448 rfl (lv_at hl 3 rfl) ?_
  refine lv_iconst (v := 1) hx hb dL_law_449 (by decide) ?_
  refine lv_iadd hx hb dL_law_450 ?_
  refine va_sld hx hb hX hbl hbA hS (scr_in (j := 1) (by omega) hL rfl) dL_law_451 ?_
  refine lv_aload_n hx hb dL_law_452 rfl (lv_at hl 0 rfl) ?_
  refine lv_iload_n hx hb dL_law_453 rfl (lv_at hl 3 rfl) ?_
  refine lv_iconst (v := 2) hx hb dL_law_454 (by decide) ?_
  refine lv_iadd hx hb dL_law_455 ?_
  refine va_sld hx hb hX hbl hbA hS (scr_in (j := 2) (by omega) hL rfl) dL_law_456 ?_
  refine lv_aload_n hx hb dL_law_457 rfl (lv_at hl 0 rfl) ?_
  refine lv_iload_n hx hb dL_law_458 rfl (lv_at hl 3 rfl) ?_
  refine lv_iconst (v := 3) hx hb dL_law_459 (by decide) ?_
  refine lv_iadd hx hb dL_law_460 ?_
  refine va_sld hx hb hX hbl hbA hS (scr_in (j := 3) (by omega) hL rfl) dL_law_461 ?_
  refine lv_aload_n hx hb dL_law_462 rfl (lv_at hl 0 rfl) ?_
  refine lv_iload_n hx hb dL_law_463 rfl (lv_at hl 3 rfl) ?_
  refine lv_iconst (v := 4) hx hb dL_law_464 (by decide) ?_
  refine lv_iadd hx hb dL_law_465 ?_
  refine va_sld hx hb hX hbl hbA hS (scr_in (j := 4) (by omega) hL rfl) dL_law_466 ?_
  refine lv_aload_n hx hb dL_law_467 rfl (lv_at hl 0 rfl) ?_
  refine lv_iload_n hx hb dL_law_468 rfl (lv_at hl 3 rfl) ?_
  refine lv_iconst (v := 5) hx hb dL_law_469 (by decide) ?_
  refine lv_iadd hx hb dL_law_470 ?_
  refine va_sld hx hb hX hbl hbA hS (scr_in (j := 5) (by omega) hL rfl) dL_law_471 ?_
  obtain ⟨r, x, y, hfx, hfm, hR2⟩ := o_take v0 v1 v2 v3 v4 v5 v6 v7 v8 v9 v10 v11 v12 v13 v14 v15 v16 v17 v18 hR (xs (nI i + 1).toNatClampNeg) (xs (nI i + 2).toNatClampNeg) (xs (nI i + 3).toNatClampNeg) (xs (nI i + 4).toNatClampNeg) (xs (nI i + 5).toNatClampNeg)
  refine cc_iQ (va_runV (C := RX11) (As := [.int (xs (nI i + 1).toNatClampNeg), .int (xs (nI i + 2).toNatClampNeg), .int (xs (nI i + 3).toNatClampNeg), .int (xs (nI i + 4).toNatClampNeg), .int (xs (nI i + 5).toNatClampNeg)]) (rest := []) ⟨hx, hb, hml, hown, htb⟩ (k_X11_take (q 0) (q 1) (q 2) (q 8) (q 3) (q 6) (q 4) (q 5) (q 28) (q 25) (q 10) (q 11) (q 12) (q 19) (q 20) (q 21) (q 22) (q 23) (q 24) (q 34) (q 35) (q 36) (q 37) (q 38) (q 39) (q 40) v0 v2 v5 v8 v11 (xs (nI i + 1).toNatClampNeg) (xs (nI i + 2).toNatClampNeg) (xs (nI i + 3).toNatClampNeg) (xs (nI i + 4).toNatClampNeg) (xs (nI i + 5).toNatClampNeg) (r, x) hfx) (cw_V 5 htb tg_522 tg_1 tg_519 tg_520 tg_521 rfl rfl (by decide +kernel) ⟨Nat.le_of_ble_eq_true rfl, Nat.le_of_ble_eq_true rfl⟩) ⟨PC.blind, va_recv hK.1 hP (ci := 10) (q0 := 0) rfl rfl, PC.pre hK hT hP hD hS hA [0, 4, 5, 10, 11, 12, 19, 20, 21, 22, 23, 24, 34, 35, 36, 37, 38, 39, 40] rfl (by decide)⟩ rfl rfl hl.1 rfl (lv_room (Nat.le_of_ble_eq_true rfl)) dL_law_472 ⟨by show _ ≤ 600000; omega, by show _ ≤ 7302250; omega⟩) hP hD hS hA [0, 4, 5, 10, 11, 12, 19, 20, 21, 22, 23, 24, 34, 35, 36, 37, 38, 39, 40] [1, 2, 3, 6, 7, 8, 9, 13, 14, 15, 16, 17, 18, 25, 26, 27, 28, 29, 30, 31, 32, 33, 41, 42, 43, 44, 45, 46, 47, 48, 49, 50, 51, 52, 53, 54, 55, 56, 57, 58, 59, 60, 61, 62, 63, 64, 65, 66, 67, 68, 69, 70, 71, 72, 73, 74, 75, 76, 77, 78, 79, 80, 81] rfl rfl (by decide) (by decide) rfl (fun r8 u8 H locs hw hP hD hS => ?_)
  obtain ⟨hw, hw2⟩ := hw
  have hw : r8 = r := hw
  have hw2 : u8 = x := hw2
  subst hw
  subst hw2
  have hP : va_P D vwCl (WSL cI cJ cZ cY q v0 v1 v2 v3 v4 u8 v6 v7 v8 v9 v10 v11 v12 v13 v14 v15 v16 v17 ++ PL cI v18) H := hP.by _ (va_part (cx := WSL cI cJ cZ cY q v0 v1 v2 v3 v4 u8 v6 v7 v8 v9 v10 v11 v12 v13 v14 v15 v16 v17) [63, 0, 1, 2, 64, 65, 3, 4, 5, 6, 66, 67, 68, 7, 8, 9, 10, 11, 12, 69, 70, 71, 72, 73, 74, 13, 14, 15, 16, 17, 18, 19, 20, 21, 75, 76, 77, 78, 79, 80, 81, 22, 23, 24, 25, 26, 27, 28, 29, 30, 31, 32, 33, 34, 35, 36, 37, 38, 39, 40, 41, 42, 43, 44, 45, 46, 47, 48, 49, 50, 51, 52, 53, 54, 55, 56, 57, 58, 59, 60, 61, 62] rfl)
  have hD : va_D (fun q : Nat => s.heap.size ≤ q) (WSL cI cJ cZ cY q v0 v1 v2 v3 v4 u8 v6 v7 v8 v9 v10 v11 v12 v13 v14 v15 v16 v17 ++ PL cI v18) := hD.part (cx := WSL cI cJ cZ cY q v0 v1 v2 v3 v4 u8 v6 v7 v8 v9 v10 v11 v12 v13 v14 v15 v16 v17) [63, 0, 1, 2, 64, 65, 3, 4, 5, 6, 66, 67, 68, 7, 8, 9, 10, 11, 12, 69, 70, 71, 72, 73, 74, 13, 14, 15, 16, 17, 18, 19, 20, 21, 75, 76, 77, 78, 79, 80, 81, 22, 23, 24, 25, 26, 27, 28, 29, 30, 31, 32, 33, 34, 35, 36, 37, 38, 39, 40, 41, 42, 43, 44, 45, 46, 47, 48, 49, 50, 51, 52, 53, 54, 55, 56, 57, 58, 59, 60, 61, 62] (by decide) rfl
  refine lv_aload_n hx hb dL_law_475 rfl (lv_at hl 2 rfl) ?_
  refine lv_aload_n hx hb dL_law_476 rfl (lv_at hl 0 rfl) ?_
  refine lv_iload_n hx hb dL_law_477 rfl (lv_at hl 3 rfl) ?_
  refine lv_iconst (v := 1) hx hb dL_law_478 (by decide) ?_
  refine lv_iadd hx hb dL_law_479 ?_
  refine va_sld hx hb hX hbl hbA hS (scr_in (j := 1) (by omega) hL rfl) dL_law_480 ?_
  refine lv_aload_n hx hb dL_law_481 rfl (lv_at hl 0 rfl) ?_
  refine lv_iload_n hx hb dL_law_482 rfl (lv_at hl 3 rfl) ?_
  refine lv_iconst (v := 2) hx hb dL_law_483 (by decide) ?_
  refine lv_iadd hx hb dL_law_484 ?_
  refine va_sld hx hb hX hbl hbA hS (scr_in (j := 2) (by omega) hL rfl) dL_law_485 ?_
  refine lv_aload_n hx hb dL_law_486 rfl (lv_at hl 0 rfl) ?_
  refine lv_iload_n hx hb dL_law_487 rfl (lv_at hl 3 rfl) ?_
  refine lv_iconst (v := 3) hx hb dL_law_488 (by decide) ?_
  refine lv_iadd hx hb dL_law_489 ?_
  refine va_sld hx hb hX hbl hbA hS (scr_in (j := 3) (by omega) hL rfl) dL_law_490 ?_
  refine lv_aload_n hx hb dL_law_491 rfl (lv_at hl 0 rfl) ?_
  refine lv_iload_n hx hb dL_law_492 rfl (lv_at hl 3 rfl) ?_
  refine lv_iconst (v := 4) hx hb dL_law_493 (by decide) ?_
  refine lv_iadd hx hb dL_law_494 ?_
  refine va_sld hx hb hX hbl hbA hS (scr_in (j := 4) (by omega) hL rfl) dL_law_495 ?_
  refine lv_aload_n hx hb dL_law_496 rfl (lv_at hl 0 rfl) ?_
  refine lv_iload_n hx hb dL_law_497 rfl (lv_at hl 3 rfl) ?_
  refine lv_iconst (v := 5) hx hb dL_law_498 (by decide) ?_
  refine lv_iadd hx hb dL_law_499 ?_
  refine va_sld hx hb hX hbl hbA hS (scr_in (j := 5) (by omega) hL rfl) dL_law_500 ?_
  refine cc_iQ (va_runV (C := RX12) (As := [.int (xs (nI i + 1).toNatClampNeg), .int (xs (nI i + 2).toNatClampNeg), .int (xs (nI i + 3).toNatClampNeg), .int (xs (nI i + 4).toNatClampNeg), .int (xs (nI i + 5).toNatClampNeg)]) (rest := [.int r8]) ⟨hx, hb, hml, hown, htb⟩ (k_X12_take (q 67) (q 68) (q 69) (q 70) (q 71) (q 72) (q 73) (q 74) (q 75) (q 76) (q 77) (q 78) (q 79) (q 80) (q 81) v17 (xs (nI i + 1).toNatClampNeg) (xs (nI i + 2).toNatClampNeg) (xs (nI i + 3).toNatClampNeg) (xs (nI i + 4).toNatClampNeg) (xs (nI i + 5).toNatClampNeg) (r8, y) hfm) (cw_V 5 htb tg_1141 tg_13 tg_1138 tg_1139 tg_1140 rfl rfl (by decide +kernel) ⟨Nat.le_of_ble_eq_true rfl, Nat.le_of_ble_eq_true rfl⟩) ⟨PC.blind, va_recv hK.1 hP (ci := 11) (q0 := 67) rfl rfl, PC.pre hK hT hP hD hS hA [67, 68, 69, 70, 71, 72, 73, 74, 75, 76, 77, 78, 79, 80, 81] rfl (by decide)⟩ rfl rfl hl.1 rfl (lv_room (Nat.le_of_ble_eq_true rfl)) dL_law_501 ⟨by show _ ≤ 600000; omega, by show _ ≤ 7302250; omega⟩) hP hD hS hA [67, 68, 69, 70, 71, 72, 73, 74, 75, 76, 77, 78, 79, 80, 81] [0, 1, 2, 3, 4, 5, 6, 7, 8, 9, 10, 11, 12, 13, 14, 15, 16, 17, 18, 19, 20, 21, 22, 23, 24, 25, 26, 27, 28, 29, 30, 31, 32, 33, 34, 35, 36, 37, 38, 39, 40, 41, 42, 43, 44, 45, 46, 47, 48, 49, 50, 51, 52, 53, 54, 55, 56, 57, 58, 59, 60, 61, 62, 63, 64, 65, 66] rfl rfl (by decide) (by decide) rfl (fun r9 u9 H locs hw hP hD hS => ?_)
  obtain ⟨hw, hw2⟩ := hw
  try dsimp only at hw hw2
  rw [hw2] at hP hD
  have hP : va_P D vwCl (WSL cI cJ cZ cY q v0 v1 v2 v3 v4 u8 v6 v7 v8 v9 v10 v11 v12 v13 v14 v15 v16 y ++ PL cI v18) H := hP.by _ (va_part (cx := WSL cI cJ cZ cY q v0 v1 v2 v3 v4 u8 v6 v7 v8 v9 v10 v11 v12 v13 v14 v15 v16 y) [0, 1, 2, 3, 4, 5, 6, 7, 8, 9, 10, 11, 12, 13, 14, 15, 16, 17, 18, 19, 20, 21, 22, 23, 24, 25, 26, 27, 28, 29, 30, 31, 32, 33, 34, 35, 36, 37, 38, 39, 40, 41, 42, 43, 44, 45, 46, 47, 48, 49, 50, 51, 52, 53, 54, 55, 56, 57, 58, 59, 60, 61, 62, 63, 64, 65, 66, 67, 68, 69, 70, 71, 72, 73, 74, 75, 76, 77, 78, 79, 80, 81] rfl)
  have hD : va_D (fun q : Nat => s.heap.size ≤ q) (WSL cI cJ cZ cY q v0 v1 v2 v3 v4 u8 v6 v7 v8 v9 v10 v11 v12 v13 v14 v15 v16 y ++ PL cI v18) := hD.part (cx := WSL cI cJ cZ cY q v0 v1 v2 v3 v4 u8 v6 v7 v8 v9 v10 v11 v12 v13 v14 v15 v16 y) [0, 1, 2, 3, 4, 5, 6, 7, 8, 9, 10, 11, 12, 13, 14, 15, 16, 17, 18, 19, 20, 21, 22, 23, 24, 25, 26, 27, 28, 29, 30, 31, 32, 33, 34, 35, 36, 37, 38, 39, 40, 41, 42, 43, 44, 45, 46, 47, 48, 49, 50, 51, 52, 53, 54, 55, 56, 57, 58, 59, 60, 61, 62, 63, 64, 65, 66, 67, 68, 69, 70, 71, 72, 73, 74, 75, 76, 77, 78, 79, 80, 81] (by decide) rfl
  refine lv_icmp_eq (tgt := 1282) hx hb dL_law_504 (by decide) (fun _ => ?_) (fun c_2 => absurd hw.symm c_2)
  exact hnext v0 v1 v2 v3 v4 u8 v6 v7 v8 v9 v10 v11 v12 v13 v14 v15 v16 y v18 H locs ls _ _ (by omega) (by omega) hR2 hP hD hS (lv_sub hl [0, 1, 2, 3] rfl)
