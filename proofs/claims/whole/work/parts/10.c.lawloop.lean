set_option maxHeartbeats 40000000 in
set_option maxRecDepth 100000 in
theorem law_loop {p : Program} {l : Launch} {e : Env} {s : State} {m : MethodId} {below : List Frame} {meth : Method} {c : Code} {D : va_G} {cI cJ cZ cY : ClassId} {tX tY : Nat} {b L : Nat} {xs : Nat → Int32} (hL : L ≤ 4610) (C0 : lw_At p s m meth c b L xs) (hK : KU D cI cJ cZ cY s) (hT : ST tX tY (fun q : Nat => s.heap.size ≤ q) s s.heap) (q : Nat → Nat) (Rel : RelT) (o_mark : Op_mark Rel) (o_body : Op_body Rel) (o_markOf : Op_markOf Rel) (o_lens : Op_lens Rel) (o_pair : Op_pair Rel) (o_ray : Op_ray Rel) (o_take : Op_take Rel) (o_covered : Op_covered Rel) (o_ends : Op_ends Rel) (o_width : Op_width Rel) (o_same : Op_same Rel) (o_feed : Op_feed Rel) (o_end : Op_end Rel) (o_rule : Op_rule Rel) (o_fault : Op_fault Rel) (o_fly : Op_fly Rel) (o_flown : Op_flown Rel) (o_tick : Op_tick Rel) (o_safe : Op_safe Rel) (o_read : Op_read Rel) (o_turned : Op_turned Rel) (o_kept : Op_kept Rel) (o_parts : Op_parts Rel) (o_image : Op_image Rel) (o_back : Op_back Rel) (o_about : Op_about Rel) :
    ∀ (n i k : Nat), i = 2 + 9 * k → k ≤ 512 → 513 ≤ k + n → ∀ (v0 : BX11) (v1 : BX3) (v2 : BX8) (v3 : BX4) (v4 : BX8) (v5 : BX7) (v6 : BX6) (v7 : BX2) (v8 : BX1) (v9 : BX2) (v10 : BX5) (v11 : BX10) (v12 : BX9) (v13 : BX1) (v14 : BX2) (v15 : BX5) (v16 : BX10) (v17 : BX12) (v18 : PB) (H : Heap) (locs : List Loc) (ls : Array Slot), Rel v0 v1 v2 v3 v4 v5 v6 v7 v8 v9 v10 v11 v12 v13 v14 v15 v16 v17 v18 → va_P D vwCl (WSL cI cJ cZ cY q v0 v1 v2 v3 v4 v5 v6 v7 v8 v9 v10 v11 v12 v13 v14 v15 v16 v17 ++ PL cI v18) H → va_D (fun q : Nat => s.heap.size ≤ q) (WSL cI cJ cZ cY q v0 v1 v2 v3 v4 v5 v6 v7 v8 v9 v10 v11 v12 v13 v14 v15 v16 v17 ++ PL cI v18) → va_S (fun q : Nat => s.heap.size ≤ q) s.heap H locs → lv_has ls 4 [(0, .ref b), (1, .ref (q 0)), (2, .ref (q 67)), (3, .int (nI i))] → W p l e room_1 s m #[Value.ref b] below meth c H locs (120 + k) (25000 + 300 * k) (lw_Z below #[Value.ref b] s) (F0 m 38 ls []) := by
  obtain ⟨hx, hb, hr, hml, hown, hts, hX, hbl, hlocks, hgv⟩ := id C0
  have htb : ∀ w ∈ TB, w.before #[Value.ref b] s = true := fun w h => hts w (tb_tbl h)
  have hA : ∀ q : Nat, s.heap.size ≤ q → (fun q : Nat => s.heap.size ≤ q) q := fun _ h => h
  have hbA : ¬ (fun q : Nat => s.heap.size ≤ q) b := Nat.not_le.mpr hbl
  intro n
  induction n with
  | zero =>
    intro i k hi hk hn
    exact absurd hn (by omega)
  | succ n ih =>
    intro i k hi hk hn v0 v1 v2 v3 v4 v5 v6 v7 v8 v9 v10 v11 v12 v13 v14 v15 v16 v17 v18 H locs ls hR hP hD hS hl
    refine lv_iload_n hx hb dL_law_38 rfl (lv_at hl 3 rfl) ?_
    refine lv_aload_n hx hb dL_law_39 rfl (lv_at hl 0 rfl) ?_
    refine va_slen hx hb hX hbl hbA hS dL_law_40 ?_
    refine lv_bipush (v := 9) hx hb dL_law_41 (by decide) ?_
    refine lv_isub hx hb dL_law_43 ?_
    have hcmp : ∀ z : Int32, z = nI L - 9 → (z < nI i ↔ L < i + 9) := by
      intro z hz
      have h1 : z.toInt = (L : Int) - 9 := by rw [hz]; exact pk_sub_toInt (a := L) (b := 9) (by omega) (by omega)
      rw [Int32.lt_iff_toInt_lt, h1, nI_toInt (by omega)]
      omega
    refine lv_icmp_gt (tgt := 1288) hx hb dL_law_44 (by decide) (fun c_1 => ?_) (fun c_1 => ?_)
    · refine lv_iconst (v := 1) hx hb dL_law_1288 (by decide) ?_
      refine va_forget (fun q hq => hS.2.2 q hq) ?_
      refine W.widen (k := 600000) (n := 7302250) (by omega) (by omega) ?_
      exact lw_ret hx hb hr hlocks dL_law_1289
    have hiL : i + 9 ≤ L := by
      rcases Nat.lt_or_ge L (i + 9) with h | h
      · exact absurd ((hcmp _ rfl).mpr h) c_1
      · exact h
    have hk1 : k + 1 ≤ 512 := by omega
    have hnext : ∀ (v0 : BX11) (v1 : BX3) (v2 : BX8) (v3 : BX4) (v4 : BX8) (v5 : BX7) (v6 : BX6) (v7 : BX2) (v8 : BX1) (v9 : BX2) (v10 : BX5) (v11 : BX10) (v12 : BX9) (v13 : BX1) (v14 : BX2) (v15 : BX5) (v16 : BX10) (v17 : BX12) (v18 : PB) (H : Heap) (locs : List Loc) (ls : Array Slot) (cs ss : Nat), cs ≤ 120 + (k + 1) → ss ≤ 25000 + 300 * (k + 1) → Rel v0 v1 v2 v3 v4 v5 v6 v7 v8 v9 v10 v11 v12 v13 v14 v15 v16 v17 v18 → va_P D vwCl (WSL cI cJ cZ cY q v0 v1 v2 v3 v4 v5 v6 v7 v8 v9 v10 v11 v12 v13 v14 v15 v16 v17 ++ PL cI v18) H → va_D (fun q : Nat => s.heap.size ≤ q) (WSL cI cJ cZ cY q v0 v1 v2 v3 v4 v5 v6 v7 v8 v9 v10 v11 v12 v13 v14 v15 v16 v17 ++ PL cI v18) → va_S (fun q : Nat => s.heap.size ≤ q) s.heap H locs → lv_has ls 4 [(0, .ref b), (1, .ref (q 0)), (2, .ref (q 67)), (3, .int (nI i))] → W p l e room_1 s m #[Value.ref b] below meth c H locs cs ss (lw_Z below #[Value.ref b] s) (F0 m 1282 ls []) := by
      intro v0 v1 v2 v3 v4 v5 v6 v7 v8 v9 v10 v11 v12 v13 v14 v15 v16 v17 v18 H locs ls cs ss h1 h2 hR hP hD hS hl
      refine W.widen (k := 120 + (k + 1)) (n := 25000 + 300 * (k + 1)) h1 h2 ?_
      refine lv_iinc (v := nI (i + 9)) (lv' := [(3, .int (nI (i + 9))), (0, .ref b), (1, .ref (q 0)), (2, .ref (q 67))]) hx hb dL_law_1282 hl (k := 3) rfl (by rw [← nI_add]; rfl) (by decide) rfl (fun ls hl => ?_)
      refine lv_goto (tgt := 38) hx hb dL_law_1285 (by decide) ?_
      exact ih (i + 9) (k + 1) (by omega) (by omega) (by omega) v0 v1 v2 v3 v4 v5 v6 v7 v8 v9 v10 v11 v12 v13 v14 v15 v16 v17 v18 H locs ls hR hP hD hS (lv_sub hl [1, 2, 3, 0] rfl)
    refine lv_aload_n hx hb dL_law_47 rfl (lv_at hl 0 rfl) ?_
    refine lv_iload_n hx hb dL_law_48 rfl (lv_at hl 3 rfl) ?_
    refine va_sld hx hb hX hbl hbA hS (vp_in_nI (by omega) (by omega)) dL_law_49 ?_
    refine lv_bipush (v := 31) hx hb dL_law_50 (by decide) ?_
    refine lv_iand hx hb dL_law_52 ?_
    refine lv_topi (fun kz ekz => ?_)
    by_cases c_k0 : kz = 0
    · refine lv_tableIn (tgt := 172) (off := 119) hx hb dL_law_53 (by rw [c_k0]; decide) (by rw [c_k0]; decide) (by rw [c_k0]; decide +kernel) (by decide) ?_
      exact lc_mark hL C0 hK hT q Rel o_mark hiL hk1 hnext v0 v1 v2 v3 v4 v5 v6 v7 v8 v9 v10 v11 v12 v13 v14 v15 v16 v17 v18 H locs ls hR hP hD hS hl
    by_cases c_k1 : kz = 1
    · refine lv_tableIn (tgt := 205) (off := 152) hx hb dL_law_53 (by rw [c_k1]; decide) (by rw [c_k1]; decide) (by rw [c_k1]; decide +kernel) (by decide) ?_
      exact lc_body hL C0 hK hT q Rel o_body hiL hk1 hnext v0 v1 v2 v3 v4 v5 v6 v7 v8 v9 v10 v11 v12 v13 v14 v15 v16 v17 v18 H locs ls hR hP hD hS hl
    by_cases c_k2 : kz = 2
    · refine lv_tableIn (tgt := 258) (off := 205) hx hb dL_law_53 (by rw [c_k2]; decide) (by rw [c_k2]; decide) (by rw [c_k2]; decide +kernel) (by decide) ?_
      exact lc_markOf hL C0 hK hT q Rel o_markOf hiL hk1 hnext v0 v1 v2 v3 v4 v5 v6 v7 v8 v9 v10 v11 v12 v13 v14 v15 v16 v17 v18 H locs ls hR hP hD hS hl
    by_cases c_k3 : kz = 3
    · refine lv_tableIn (tgt := 291) (off := 238) hx hb dL_law_53 (by rw [c_k3]; decide) (by rw [c_k3]; decide) (by rw [c_k3]; decide +kernel) (by decide) ?_
      exact lc_lens hL C0 hK hT q Rel o_lens hiL hk1 hnext v0 v1 v2 v3 v4 v5 v6 v7 v8 v9 v10 v11 v12 v13 v14 v15 v16 v17 v18 H locs ls hR hP hD hS hl
    by_cases c_k4 : kz = 4
    · refine lv_tableIn (tgt := 324) (off := 271) hx hb dL_law_53 (by rw [c_k4]; decide) (by rw [c_k4]; decide) (by rw [c_k4]; decide +kernel) (by decide) ?_
      exact lc_pair hL C0 hK hT q Rel o_pair hiL hk1 hnext v0 v1 v2 v3 v4 v5 v6 v7 v8 v9 v10 v11 v12 v13 v14 v15 v16 v17 v18 H locs ls hR hP hD hS hl
    by_cases c_k5 : kz = 5
    · refine lv_tableIn (tgt := 367) (off := 314) hx hb dL_law_53 (by rw [c_k5]; decide) (by rw [c_k5]; decide) (by rw [c_k5]; decide +kernel) (by decide) ?_
      exact lc_ray hL C0 hK hT q Rel o_ray hiL hk1 hnext v0 v1 v2 v3 v4 v5 v6 v7 v8 v9 v10 v11 v12 v13 v14 v15 v16 v17 v18 H locs ls hR hP hD hS hl
    by_cases c_k6 : kz = 6
    · refine lv_tableIn (tgt := 446) (off := 393) hx hb dL_law_53 (by rw [c_k6]; decide) (by rw [c_k6]; decide) (by rw [c_k6]; decide +kernel) (by decide) ?_
      exact lc_take hL C0 hK hT q Rel o_take hiL hk1 hnext v0 v1 v2 v3 v4 v5 v6 v7 v8 v9 v10 v11 v12 v13 v14 v15 v16 v17 v18 H locs ls hR hP hD hS hl
    by_cases c_k7 : kz = 7
    · refine lv_tableIn (tgt := 509) (off := 456) hx hb dL_law_53 (by rw [c_k7]; decide) (by rw [c_k7]; decide) (by rw [c_k7]; decide +kernel) (by decide) ?_
      exact lc_covered hL C0 hK hT q Rel o_covered hiL hk1 hnext v0 v1 v2 v3 v4 v5 v6 v7 v8 v9 v10 v11 v12 v13 v14 v15 v16 v17 v18 H locs ls hR hP hD hS hl
    by_cases c_k8 : kz = 8
    · refine lv_tableIn (tgt := 532) (off := 479) hx hb dL_law_53 (by rw [c_k8]; decide) (by rw [c_k8]; decide) (by rw [c_k8]; decide +kernel) (by decide) ?_
      exact lc_ends hL C0 hK hT q Rel o_ends hiL hk1 hnext v0 v1 v2 v3 v4 v5 v6 v7 v8 v9 v10 v11 v12 v13 v14 v15 v16 v17 v18 H locs ls hR hP hD hS hl
    by_cases c_k9 : kz = 9
    · refine lv_tableIn (tgt := 611) (off := 558) hx hb dL_law_53 (by rw [c_k9]; decide) (by rw [c_k9]; decide) (by rw [c_k9]; decide +kernel) (by decide) ?_
      exact lc_width hL C0 hK hT q Rel o_width hiL hk1 hnext v0 v1 v2 v3 v4 v5 v6 v7 v8 v9 v10 v11 v12 v13 v14 v15 v16 v17 v18 H locs ls hR hP hD hS hl
    by_cases c_k10 : kz = 10
    · refine lv_tableIn (tgt := 674) (off := 621) hx hb dL_law_53 (by rw [c_k10]; decide) (by rw [c_k10]; decide) (by rw [c_k10]; decide +kernel) (by decide) ?_
      exact lc_same hL C0 hK hT q Rel o_same hiL hk1 hnext v0 v1 v2 v3 v4 v5 v6 v7 v8 v9 v10 v11 v12 v13 v14 v15 v16 v17 v18 H locs ls hR hP hD hS hl
    by_cases c_k11 : kz = 11
    · refine lv_tableIn (tgt := 749) (off := 696) hx hb dL_law_53 (by rw [c_k11]; decide) (by rw [c_k11]; decide) (by rw [c_k11]; decide +kernel) (by decide) ?_
      exact lc_feed hL C0 hK hT q Rel o_feed hiL hk1 hnext v0 v1 v2 v3 v4 v5 v6 v7 v8 v9 v10 v11 v12 v13 v14 v15 v16 v17 v18 H locs ls hR hP hD hS hl
    by_cases c_k12 : kz = 12
    · refine lv_tableIn (tgt := 812) (off := 759) hx hb dL_law_53 (by rw [c_k12]; decide) (by rw [c_k12]; decide) (by rw [c_k12]; decide +kernel) (by decide) ?_
      exact lc_end hL C0 hK hT q Rel o_end hiL hk1 hnext v0 v1 v2 v3 v4 v5 v6 v7 v8 v9 v10 v11 v12 v13 v14 v15 v16 v17 v18 H locs ls hR hP hD hS hl
    by_cases c_k13 : kz = 13
    · refine lv_tableIn (tgt := 835) (off := 782) hx hb dL_law_53 (by rw [c_k13]; decide) (by rw [c_k13]; decide) (by rw [c_k13]; decide +kernel) (by decide) ?_
      exact lc_rule hL C0 hK hT q Rel o_rule hiL hk1 hnext v0 v1 v2 v3 v4 v5 v6 v7 v8 v9 v10 v11 v12 v13 v14 v15 v16 v17 v18 H locs ls hR hP hD hS hl
    by_cases c_k14 : kz = 14
    · refine lv_tableIn (tgt := 848) (off := 795) hx hb dL_law_53 (by rw [c_k14]; decide) (by rw [c_k14]; decide) (by rw [c_k14]; decide +kernel) (by decide) ?_
      exact lc_fault hL C0 hK hT q Rel o_fault hiL hk1 hnext v0 v1 v2 v3 v4 v5 v6 v7 v8 v9 v10 v11 v12 v13 v14 v15 v16 v17 v18 H locs ls hR hP hD hS hl
    by_cases c_k15 : kz = 15
    · refine lv_tableIn (tgt := 871) (off := 818) hx hb dL_law_53 (by rw [c_k15]; decide) (by rw [c_k15]; decide) (by rw [c_k15]; decide +kernel) (by decide) ?_
      exact lc_fly hL C0 hK hT q Rel o_fly hiL hk1 hnext v0 v1 v2 v3 v4 v5 v6 v7 v8 v9 v10 v11 v12 v13 v14 v15 v16 v17 v18 H locs ls hR hP hD hS hl
    by_cases c_k16 : kz = 16
    · refine lv_tableIn (tgt := 946) (off := 893) hx hb dL_law_53 (by rw [c_k16]; decide) (by rw [c_k16]; decide) (by rw [c_k16]; decide +kernel) (by decide) ?_
      exact lc_flown hL C0 hK hT q Rel o_flown hiL hk1 hnext v0 v1 v2 v3 v4 v5 v6 v7 v8 v9 v10 v11 v12 v13 v14 v15 v16 v17 v18 H locs ls hR hP hD hS hl
    by_cases c_k17 : kz = 17
    · refine lv_tableIn (tgt := 969) (off := 916) hx hb dL_law_53 (by rw [c_k17]; decide) (by rw [c_k17]; decide) (by rw [c_k17]; decide +kernel) (by decide) ?_
      exact lc_tick hL C0 hK hT q Rel o_tick hiL hk1 hnext v0 v1 v2 v3 v4 v5 v6 v7 v8 v9 v10 v11 v12 v13 v14 v15 v16 v17 v18 H locs ls hR hP hD hS hl
    by_cases c_k18 : kz = 18
    · refine lv_tableIn (tgt := 1002) (off := 949) hx hb dL_law_53 (by rw [c_k18]; decide) (by rw [c_k18]; decide) (by rw [c_k18]; decide +kernel) (by decide) ?_
      exact lc_safe hL C0 hK hT q Rel o_safe hiL hk1 hnext v0 v1 v2 v3 v4 v5 v6 v7 v8 v9 v10 v11 v12 v13 v14 v15 v16 v17 v18 H locs ls hR hP hD hS hl
    by_cases c_k19 : kz = 19
    · refine lv_tableIn (tgt := 1101) (off := 1048) hx hb dL_law_53 (by rw [c_k19]; decide) (by rw [c_k19]; decide) (by rw [c_k19]; decide +kernel) (by decide) ?_
      exact lc_read hL C0 hK hT q Rel o_read hiL hk1 hnext v0 v1 v2 v3 v4 v5 v6 v7 v8 v9 v10 v11 v12 v13 v14 v15 v16 v17 v18 H locs ls hR hP hD hS hl
    by_cases c_k20 : kz = 20
    · refine lv_tableIn (tgt := 1144) (off := 1091) hx hb dL_law_53 (by rw [c_k20]; decide) (by rw [c_k20]; decide) (by rw [c_k20]; decide +kernel) (by decide) ?_
      exact lc_turned hL C0 hK hT q Rel o_turned hiL hk1 hnext v0 v1 v2 v3 v4 v5 v6 v7 v8 v9 v10 v11 v12 v13 v14 v15 v16 v17 v18 H locs ls hR hP hD hS hl
    by_cases c_k21 : kz = 21
    · refine lv_tableIn (tgt := 1177) (off := 1124) hx hb dL_law_53 (by rw [c_k21]; decide) (by rw [c_k21]; decide) (by rw [c_k21]; decide +kernel) (by decide) ?_
      exact lc_kept hL C0 hK hT q Rel o_kept hiL hk1 hnext v0 v1 v2 v3 v4 v5 v6 v7 v8 v9 v10 v11 v12 v13 v14 v15 v16 v17 v18 H locs ls hR hP hD hS hl
    by_cases c_k22 : kz = 22
    · refine lv_tableIn (tgt := 1200) (off := 1147) hx hb dL_law_53 (by rw [c_k22]; decide) (by rw [c_k22]; decide) (by rw [c_k22]; decide +kernel) (by decide) ?_
      exact lc_parts hL C0 hK hT q Rel o_parts hiL hk1 hnext v0 v1 v2 v3 v4 v5 v6 v7 v8 v9 v10 v11 v12 v13 v14 v15 v16 v17 v18 H locs ls hR hP hD hS hl
    by_cases c_k23 : kz = 23
    · refine lv_tableIn (tgt := 1233) (off := 1180) hx hb dL_law_53 (by rw [c_k23]; decide) (by rw [c_k23]; decide) (by rw [c_k23]; decide +kernel) (by decide) ?_
      exact lc_image hL C0 hK hT q Rel o_image hiL hk1 hnext v0 v1 v2 v3 v4 v5 v6 v7 v8 v9 v10 v11 v12 v13 v14 v15 v16 v17 v18 H locs ls hR hP hD hS hl
    by_cases c_k24 : kz = 24
    · refine lv_tableIn (tgt := 1246) (off := 1193) hx hb dL_law_53 (by rw [c_k24]; decide) (by rw [c_k24]; decide) (by rw [c_k24]; decide +kernel) (by decide) ?_
      exact lc_back hL C0 hK hT q Rel o_back hiL hk1 hnext v0 v1 v2 v3 v4 v5 v6 v7 v8 v9 v10 v11 v12 v13 v14 v15 v16 v17 v18 H locs ls hR hP hD hS hl
    by_cases c_k25 : kz = 25
    · refine lv_tableIn (tgt := 1259) (off := 1206) hx hb dL_law_53 (by rw [c_k25]; decide) (by rw [c_k25]; decide) (by rw [c_k25]; decide +kernel) (by decide) ?_
      exact lc_about hL C0 hK hT q Rel o_about hiL hk1 hnext v0 v1 v2 v3 v4 v5 v6 v7 v8 v9 v10 v11 v12 v13 v14 v15 v16 v17 v18 H locs ls hR hP hD hS hl
    have z0 := lv_neT (a := 0) c_k0 (by decide)
    have z1 := lv_neT (a := 1) c_k1 (by decide)
    have z2 := lv_neT (a := 2) c_k2 (by decide)
    have z3 := lv_neT (a := 3) c_k3 (by decide)
    have z4 := lv_neT (a := 4) c_k4 (by decide)
    have z5 := lv_neT (a := 5) c_k5 (by decide)
    have z6 := lv_neT (a := 6) c_k6 (by decide)
    have z7 := lv_neT (a := 7) c_k7 (by decide)
    have z8 := lv_neT (a := 8) c_k8 (by decide)
    have z9 := lv_neT (a := 9) c_k9 (by decide)
    have z10 := lv_neT (a := 10) c_k10 (by decide)
    have z11 := lv_neT (a := 11) c_k11 (by decide)
    have z12 := lv_neT (a := 12) c_k12 (by decide)
    have z13 := lv_neT (a := 13) c_k13 (by decide)
    have z14 := lv_neT (a := 14) c_k14 (by decide)
    have z15 := lv_neT (a := 15) c_k15 (by decide)
    have z16 := lv_neT (a := 16) c_k16 (by decide)
    have z17 := lv_neT (a := 17) c_k17 (by decide)
    have z18 := lv_neT (a := 18) c_k18 (by decide)
    have z19 := lv_neT (a := 19) c_k19 (by decide)
    have z20 := lv_neT (a := 20) c_k20 (by decide)
    have z21 := lv_neT (a := 21) c_k21 (by decide)
    have z22 := lv_neT (a := 22) c_k22 (by decide)
    have z23 := lv_neT (a := 23) c_k23 (by decide)
    have z24 := lv_neT (a := 24) c_k24 (by decide)
    have z25 := lv_neT (a := 25) c_k25 (by decide)
    refine lv_tableOut (tgt := 1282) hx hb dL_law_53 (by omega) (by decide) ?_
    exact hnext v0 v1 v2 v3 v4 v5 v6 v7 v8 v9 v10 v11 v12 v13 v14 v15 v16 v17 v18 H locs ls _ _ (by omega) (by omega) hR hP hD hS (lv_sub hl [0, 1, 2, 3] rfl)
