-- layer 2: one operation, both sides
theorem c_dec {n : Nat} {code : Nat → Int32} {fl : BX2} {ey : BX1} {c : BX6} {j x v : Int} (hn : (n : Int) ≤ 400) (j1 : 0 ≤ j) (j2 : j < n) (hx : 0 ≤ x) (hx2 : x < 32) (hv : 0 ≤ v) (hv2 : v < 100000) (hc : code j.toNat = iI (v * 32 + x)) (J : Int32 × BX6 → Option BX6) : f_X6_run_b27B n code fl ey J (iI j) c =
    if 4 < x then (if 6 < x then (if 20 < x then (f_X6_pop c).bind (fun r => (f_X6_finish r.2 (iI x) (iI v) r.1).bind (fun q => J (iI (j + 1), q)))
      else (f_X6_pop c).bind (fun r => (f_X6_pop r.2).bind (fun r2 => (f_X6_joined (iI x) r2.1 r.1).bind (fun z => (f_X6_push r2.2 z).bind (fun q => J (iI (j + 1), q))))))
      else (f_X6_pop c).bind (fun r => if x = 5 then (f_X6_push r.2 (-(r.1.toInt64))).bind (fun q => J (iI (j + 1), q)) else (f_X6_push r.2 ((iI 1 - r.1).toInt64)).bind (fun q => J (iI (j + 1), q))))
    else (f_X6_brought fl c ey (iI x) (iI v)).bind (fun r => (f_X6_push c r.toInt64).bind (fun q => J (iI (j + 1), q))) := by
  have e1 : (v * 32 + x) % 32 = x := by omega
  have e2 : (v * 32 + x) / 32 = v := by omega
  have hn1 : Int32.ofNat n = iI (n : Int) := iI_ofNat n
  have e3 : iI (v * 32 + x) >>> iI (5 % 32) = iI v := by rw [← iI_and31, iI_shr5 (by omega) (by omega), e2]
  unfold f_X6_run_b27B f_X6_run_b103 f_X6_run_b152
  simp (disch := omega) only [iLit, hn1, iI_le, iI_inB, gd_t, iI_cl, hc, iI_and31, e3, e1, lt_e, iI_lt, iI_add, iI_eq]
  rw [if_neg (by omega)]
theorem m_dec {m : BX12} {d to nv nb i o v : Int} (d1 : 0 ≤ d) (d2 : d + 2 * i + 1 < 6400) (i1 : 0 ≤ i) (i2 : i < to) (to2 : to < 100000) (ho : 0 ≤ o) (ho2 : o < 100) (h1 : pX12_texts m (d + 2 * i).toNat = iI o) (h2 : pX12_texts m (d + 2 * i + 1).toNat = iI v) (n1 : 0 ≤ nv) (n2 : nv < 300) (b1 : 0 ≤ nb) (b2 : nb < 300) (J : Int32 × Int32 × Int32 × Int32 × Int32 × BX12 → Option BX12) :
    ((o ≤ 1 ∨ 30 ≤ o) → f_X12_work_b9B J (iI d) (iI to) (iI nv) (iI nb) (iI i) m = f_X12_work_b56 J (iI d) (iI to) (iI nv) (iI nb) (iI i) (iI o) (iI v) m) ∧
    (o = 2 → 1 ≤ nv → f_X12_work_b9B J (iI d) (iI to) (iI nv) (iI nb) (iI i) m = J (iI d, iI to, iI nv, iI nb, iI (i + 1), sX12_values m (vp_updL (pX12_values m) (nv - 1).toNat (-(pX12_values m (nv - 1).toNat))))) ∧
    (3 ≤ o → o ≤ 8 → 2 ≤ nv → f_X12_work_b9B J (iI d) (iI to) (iI nv) (iI nb) (iI i) m = (f_X12_two m (iI o) (pX12_values m (nv - 2).toNat) (pX12_values m (nv - 1).toNat)).bind (fun r => J (iI d, iI to, iI (nv - 1), iI nb, iI (i + 1), sX12_values r.2 (vp_updL (pX12_values r.2) (nv - 2).toNat r.1)))) ∧
    (10 ≤ o → o ≤ 15 → 2 ≤ nv → f_X12_work_b9B J (iI d) (iI to) (iI nv) (iI nb) (iI i) m = (f_X12_isAsked (iI o) (pX12_values m (nv - 2).toNat) (pX12_values m (nv - 1).toNat)).bind (fun r => J (iI d, iI to, iI (nv - 2), iI (nb + 1), iI (i + 1), sX12_truth m (upd (pX12_truth m) nb.toNat (vp_nar .boolean r))))) ∧
    (o = 20 → 1 ≤ nb → f_X12_work_b9B J (iI d) (iI to) (iI nv) (iI nb) (iI i) m = J (iI d, iI to, iI nv, iI nb, iI (i + 1), sX12_truth m (upd (pX12_truth m) (nb - 1).toNat (if pX12_truth m (nb - 1).toNat = iI 0 then iI 1 else iI 0)))) ∧
    (21 ≤ o → o < 30 → 2 ≤ nb → f_X12_work_b9B J (iI d) (iI to) (iI nv) (iI nb) (iI i) m = J (iI d, iI to, iI nv, iI (nb - 1), iI (i + 1), sX12_truth m (upd (pX12_truth m) (nb - 2).toNat (if o = 21 then (if pX12_truth m (nb - 2).toNat = iI 0 then iI 0 else if pX12_truth m (nb - 1).toNat = iI 0 then iI 0 else iI 1) else (if pX12_truth m (nb - 2).toNat = iI 0 then (if pX12_truth m (nb - 1).toNat = iI 0 then iI 0 else iI 1) else iI 1))))) := by
  have vn1 : vp_nar .boolean (iI 1) = iI 1 := rfl
  have vn0 : vp_nar .boolean (iI 0) = iI 0 := rfl
  have ea : iI d + (2 : Int32) * iI i = iI (d + 2 * i) := by rw [show (2 : Int32) = iI 2 from rfl, iI_mul, iI_add]
  have eb : iI (d + 2 * i) + (1 : Int32) = iI (d + 2 * i + 1) := by rw [show (1 : Int32) = iI 1 from rfl, iI_add]
  have k1 : (iI o ≤ (1 : Int32)) ↔ o ≤ 1 := iI_le (b := 1) (by omega) (by omega) (by omega) (by omega)
  have k2 : (iI o < (30 : Int32)) ↔ o < 30 := iI_lt (b := 30) (by omega) (by omega) (by omega) (by omega)
  have k3 : (iI o = (2 : Int32)) ↔ o = 2 := iI_eq (b := 2) (by omega) (by omega) (by omega) (by omega)
  have k4 : ((10 : Int32) ≤ iI o) ↔ 10 ≤ o := iI_le (a := 10) (by omega) (by omega) (by omega) (by omega)
  have k5 : ((20 : Int32) ≤ iI o) ↔ 20 ≤ o := iI_le (a := 20) (by omega) (by omega) (by omega) (by omega)
  have k6 : (iI o = (20 : Int32)) ↔ o = 20 := iI_eq (b := 20) (by omega) (by omega) (by omega) (by omega)
  have k7 : (iI o = (21 : Int32)) ↔ o = 21 := iI_eq (b := 21) (by omega) (by omega) (by omega) (by omega)
  unfold f_X12_work_b9B
  rw [if_neg (show ¬ iI to ≤ iI i by rw [iI_le (by omega) (by omega) (by omega) (by omega)]; omega), ea, eb, gd_t (show inB (iI (d + 2 * i)) 6400 by rw [iI_inB (by omega) (by omega)]; omega), iI_cl (a := d + 2 * i) (by omega) (by omega), iI_cl (a := d + 2 * i + 1) (by omega) (by omega), h1, h2, lt_e]
  rw [gd_t (show inB (iI (d + 2 * i + 1)) 6400 by rw [iI_inB (by omega) (by omega)]; omega), lt_e]
  simp only [k1, k2, k3, k4, k5, k6, k7]
  refine ⟨fun c => ?_, fun c hv => ?_, fun c c' hv => ?_, fun c c' hv => ?_, fun c hv => ?_, fun c c' hv => ?_⟩
  · by_cases c1 : o ≤ 1
    · rw [if_pos c1]
    · rw [if_neg c1, if_neg (by omega)]
  · rw [if_neg (by omega), if_pos (by omega), if_pos c]
    unfold f_X12_work_b309
    simp (disch := omega) only [iLit, iI_sub, iI_inB, gd_t, iI_cl, lt_e, iI_add]
  · rw [if_neg (by omega), if_pos (by omega), if_neg (by omega), if_neg (by omega)]
    unfold f_X12_work_b309
    have e2 : nv + -1 - 1 = nv - 2 := by omega
    have e3 : nv + -1 = nv - 1 := by omega
    have e4 : nv - 1 - 1 = nv - 2 := by omega
    simp (disch := omega) only [iLit, iI_neg, iI_add, iI_sub, e2, e3, e4, iI_inB, gd_t, iI_cl, lt_e]
  · rw [if_neg (by omega), if_pos (by omega), if_neg (by omega), if_pos (by omega), if_neg (by omega)]
    unfold f_X12_work_b309
    have e2 : nv + -2 = nv - 2 := by omega
    have e3 : nv - 2 + 1 = nv - 1 := by omega
    simp (disch := omega) only [iLit, iI_neg, iI_add, iI_sub, e2, e3, iI_inB, gd_t, iI_cl, lt_e]
  · rw [if_neg (by omega), if_pos (by omega), if_neg (by omega), if_pos (by omega), if_pos (by omega), if_pos c]
    unfold f_X12_work_b229 f_X12_work_b309
    simp (disch := omega) only [iLit, iI_sub, iI_inB, gd_t, iI_cl, lt_e, iI_add, vn1, vn0]
    split <;> rfl
  · rw [if_neg (by omega), if_pos (by omega), if_neg (by omega), if_pos (by omega), if_pos (by omega), if_neg (by omega)]
    unfold f_X12_work_b277 f_X12_work_b303 f_X12_work_b308 f_X12_work_b309
    have e2 : nb + -1 - 1 = nb - 2 := by omega
    have e3 : nb + -1 = nb - 1 := by omega
    have e4 : nb - 1 - 1 = nb - 2 := by omega
    simp (disch := omega) only [iLit, iI_neg, iI_add, iI_sub, e2, e3, e4, iI_inB, gd_t, iI_cl, lt_e, vn1, vn0]
    split
    · split
      · rfl
      · split <;> rfl
    · split
      · split <;> rfl
      · rfl
