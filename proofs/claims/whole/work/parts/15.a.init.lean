-- layer 2: the start
def sCm (z : Int) : Int := if z < 4 then 4 else if 24 < z then 24 else z
theorem sCm_bd (z : Int) : 4 ≤ sCm z ∧ sCm z ≤ 24 := by
  unfold sCm
  split
  · omega
  · split <;> omega
theorem cm_c {z : Int} (h1 : -2147483648 ≤ z) (h2 : z < 2147483648) : (if (4 : Int32) < (if (iI z : Int32) < 24 then iI z else 24) then (if (iI z : Int32) < 24 then iI z else 24) else 4) = iI (sCm z) := by
  rw [show (4 : Int32) = iI 4 from rfl, show (24 : Int32) = iI 24 from rfl]
  have e : (if iI z < iI 24 then iI z else iI 24) = iI (if z < 24 then z else 24) := by
    by_cases hz : z < 24
    · rw [if_pos ((iI_lt (by omega) (by omega) (by omega) (by omega)).mpr hz), if_pos hz]
    · rw [if_neg (fun e => hz ((iI_lt (by omega) (by omega) (by omega) (by omega)).mp e)), if_neg hz]
  rw [e]
  unfold sCm
  have hb : (if z < 24 then z else 24) ≤ 24 ∧ -2147483648 ≤ (if z < 24 then z else 24) := by split <;> omega
  by_cases h4 : 4 < (if z < 24 then z else 24)
  · rw [if_pos ((iI_lt (by omega) (by omega) (by omega) (by omega)).mpr h4)]
    congr 1
    split <;> split <;> (try split) <;> omega
  · rw [if_neg (fun e => h4 ((iI_lt (by omega) (by omega) (by omega) (by omega)).mp e))]
    congr 1
    by_cases hz : z < 24
    · rw [if_pos hz] at h4
      split
      · rfl
      · split <;> omega
    · rw [if_neg hz] at h4
      omega
def A0 : Int → Int := fun j => if j = 880 then -1 else 0
theorem A0_n {j : Int} (h : j ≠ 880) : A0 j = 0 := if_neg h
theorem A0_in {w h : Int} (w1 : 4 ≤ w ∧ w ≤ 24) (h1 : 4 ≤ h ∧ h ≤ 24) : InA w h A0 := by
  have hwh := wh_bd w1.1 w1.2 h1.1 h1.2
  refine ⟨⟨⟨w1.1, w1.2, h1.1, h1.2⟩, fun k k1 k2 => by rw [A0_n (by omega)]; omega, by rw [A0_n (by omega)]; omega, fun b b1 b2 => ?_⟩, ⟨by rw [A0_n (by omega)]; omega, by rw [A0_n (by omega)]; omega, fun k k1 k2 => by rw [A0_n (by omega), A0_n (by omega)]; omega, fun k k1 k2 => by rw [A0_n (by omega)] at k2; omega⟩, ⟨by rw [A0_n (by omega)]; omega, fun k k1 k2 => ?_⟩, Or.inl rfl, by rw [A0_n (by omega)]; omega⟩
  · rw [A0_n (show 590 + 4 * b ≠ 880 by omega), A0_n (show 590 + 4 * b + 1 ≠ 880 by omega), A0_n (show 590 + 4 * b + 2 ≠ 880 by omega), A0_n (show 590 + 4 * b + 3 ≠ 880 by omega), A0_n (show (0 : Int) ≠ 880 by omega)]
    omega
  · rw [A0_n (show 720 + 24 * k ≠ 880 by omega), A0_n (show 720 + 24 * k + 1 ≠ 880 by omega), A0_n (show 720 + 24 * k + 2 ≠ 880 by omega), A0_n (show 720 + 24 * k + 3 ≠ 880 by omega)]
    exact ⟨by omega, by omega, by omega, by omega, fun j j1 j2 => by rw [A0_n (by omega)]; omega⟩
theorem r_init : ∀ p0 p1 : Int32, ∃ (zc : BX11 × BX1 × BX5 × BX2 × Int32 × BX10 × BX1 × BX5 × BX2 × BX7 × BX10 × BX3 × Int32 × BX6 × BX2 × BX4 × BX9) (zm : BX12), f_X11_init p0 p1 = some zc ∧ f_X12_init p0 p1 = some zm ∧ ∀ r1 r2 : Nat → Nat, Rel RO zc.1 zc.2.2.2.2.2.2.2.2.2.2.2.1 (zc.2.2.2.2.2.2.2.2.2.2.2.2.1, cdOf r1) zc.2.2.2.2.2.2.2.2.2.2.2.2.2.2.2.1 (zc.2.2.2.2.1, cdOf r2) zc.2.2.2.2.2.2.2.2.2.1 zc.2.2.2.2.2.2.2.2.2.2.2.2.2.1 zc.2.2.2.2.2.2.2.2.2.2.2.2.2.2.1 zc.2.1 zc.2.2.2.1 zc.2.2.1 zc.2.2.2.2.2.2.2.2.2.2.1 zc.2.2.2.2.2.2.2.2.2.2.2.2.2.2.2.2 zc.2.2.2.2.2.2.1 zc.2.2.2.2.2.2.2.2.1 zc.2.2.2.2.2.2.2.1 zc.2.2.2.2.2.1 zm (pb2 r1 r2) := by
  intro p0 p1
  obtain ⟨a, a1, a2, rfl⟩ := iI_of p0
  obtain ⟨b, b1, b2, rfl⟩ := iI_of p1
  have hw := sCm_bd a
  have hh := sCm_bd b
  have hwh := wh_bd hw.1 hw.2 hh.1 hh.2
  have hX10 : f_X10_init (iI a) (iI b) = some ((sCm a * sCm b).toNat, iI (sCm a), iI (sCm b), 0, (fun _ => 0), (fun _ => 0), (fun _ => 0), (fun _ => 0), (fun _ => 0), (fun _ => 0)) := by
    unfold f_X10_init
    rw [cm_c a1 a2, cm_c b1 b2]
    simp only [lt_e]
    rw [iI_mul, iI_cl (by omega) (by omega), gd_t ⟨fun e => absurd ((iI_lt (by omega) (by omega) (by omega) (by omega)).mp (show iI _ < iI 0 from e)) (by omega), by omega⟩]
  obtain ⟨im, ei, hi⟩ := z_copyM 3170 0 (upd (fun _ => 0) (880 : Int32).toNatClampNeg (-1)) (fun _ => 0) (by omega) (by omega) (fun k k1 k2 => by omega) fU (by rw [fU_v]; omega)
  have ei' : f_X12_copy 3170 3170 (upd (fun _ => 0) (880 : Int32).toNatClampNeg (-1)) (fun _ => 0) = some im := ei
  have hA0 : AI (upd (fun _ => 0) (880 : Int32).toNatClampNeg (-1)) A0 3170 := by
    intro k k1 k2
    rw [show (Int32.toNatClampNeg 880) = Int.toNat 880 from rfl, ai_upd (by omega) k1]
    unfold A0
    split
    · rfl
    · rfl
  have hm : ∃ zm, f_X12_init (iI a) (iI b) = some zm ∧ MW zm (sCm a) (sCm b) A0 ∧ AI (pX12_image zm) A0 3170 ∧ pX12_taped zm = iI 0 ∧ pX12_fault zm = iI (-1) ∧ pX12_faultPlace zm = iI (-1) := by
    have key : ∀ x y : Int, 4 ≤ x ∧ x ≤ 24 → ∃ zm, f_X12_init_b182 (iI x) (iI y) = some zm ∧ MW zm x y A0 ∧ AI (pX12_image zm) A0 3170 ∧ pX12_taped zm = iI 0 ∧ pX12_fault zm = iI (-1) ∧ pX12_faultPlace zm = iI (-1) := by
      intro x y _
      unfold f_X12_init_b182
      rw [ei', bind_s]
      exact ⟨_, rfl, ⟨rfl, rfl, hA0⟩, fun k k1 k2 => (hi k k1 k2).trans (hA0 k k1 k2), rfl, rfl, rfl⟩
    have key2 : ∀ x : Int, 4 ≤ x ∧ x ≤ 24 → ∃ zm, f_X12_init_b157 (iI b) (iI x) = some zm ∧ MW zm x (sCm b) A0 ∧ AI (pX12_image zm) A0 3170 ∧ pX12_taped zm = iI 0 ∧ pX12_fault zm = iI (-1) ∧ pX12_faultPlace zm = iI (-1) := by
      intro x hx
      unfold f_X12_init_b157 sCm
      rw [show (4 : Int32) = iI 4 from rfl, show (24 : Int32) = iI 24 from rfl]
      simp (disch := omega) only [iI_le]
      by_cases c1 : b < 4
      · rw [if_neg (by omega), if_pos c1]
        exact key x 4 hx
      · rw [if_pos (by omega), if_neg c1]
        by_cases c2 : 24 < b
        · rw [if_neg (by omega), if_pos c2]
          exact key x 24 hx
        · rw [if_pos (by omega), if_neg c2]
          exact key x b hx
    unfold f_X12_init
    rw [show (4 : Int32) = iI 4 from rfl, show (24 : Int32) = iI 24 from rfl]
    simp (disch := omega) only [iI_le]
    unfold sCm at hw ⊢
    by_cases c1 : a < 4
    · rw [if_neg (by omega), if_pos c1]
      exact key2 4 (by omega)
    · rw [if_pos (by omega), if_neg c1]
      by_cases c2 : 24 < a
      · rw [if_neg (by omega), if_pos c2]
        exact key2 24 (by omega)
      · rw [if_pos (by omega), if_neg c2]
        exact key2 a (by omega)
  obtain ⟨zm, m1, m2, m3, m4, m5, m6⟩ := hm
  have hX7 : f_X7_init ((sCm a * sCm b).toNat, iI (sCm a), iI (sCm b), 0, (fun _ => 0), (fun _ => 0), (fun _ => 0), (fun _ => 0), (fun _ => 0), (fun _ => 0)) = some ((sCm a * sCm b).toNat, 0, 0, (fun _ => 0), (fun _ => 0)) := by
    unfold f_X7_init
    show g_gd (¬ Int32.ofNat (sCm a * sCm b).toNat < 0 ∧ (Int32.ofNat (sCm a * sCm b).toNat).toNatClampNeg ≤ 576) (some ((Int32.ofNat (sCm a * sCm b).toNat).toNatClampNeg, 0, 0, (fun _ => 0), (fun _ => 0))) = _
    rw [ofNat_toNat (by omega), iI_cl (by omega) (by omega), gd_t ⟨fun e => absurd ((iI_lt (by omega) (by omega) (by omega) (by omega)).mp (show iI _ < iI 0 from e)) (by omega), by omega⟩]
  have hX8 : f_X8_init (iI a) (iI b) = some (0, ((sCm a * sCm b).toNat, iI (sCm a), iI (sCm b), 0, (fun _ => 0), (fun _ => 0), (fun _ => 0), (fun _ => 0), (fun _ => 0), (fun _ => 0)), (0, 0, (fun _ => 0), (fun _ => 0), (fun _ => 0), (fun _ => 0), (fun _ => 0)), (0, (fun _ => 0), (fun _ => 0), (fun _ => 0), (fun _ => 0), (fun _ => 0)), (0, 0, 0, 0, 0, 0, 0, 0, 0, 0, (fun _ => 0), (fun _ => 0))) := by
    unfold f_X8_init
    rw [hX10]
    rfl
  have hA := A0_in hw hh
  have hWo : RWo ((sCm a * sCm b).toNat, iI (sCm a), iI (sCm b), 0, (fun _ => 0), (fun _ => 0), (fun _ => 0), (fun _ => 0), (fun _ => 0), (fun _ => 0)) (sCm a) (sCm b) A0 := by
    refine ⟨rfl, rfl, rfl, rfl, fun k k1 k2 => by rw [A0_n (by omega)]; rfl, fun k k1 k2 => ?_⟩
    rw [A0_n (show 590 + 4 * k ≠ 880 by omega), A0_n (show 590 + 4 * k + 1 ≠ 880 by omega), A0_n (show 590 + 4 * k + 2 ≠ 880 by omega), A0_n (show 590 + 4 * k + 3 ≠ 880 by omega), Int.zero_ediv, Int.zero_mul]
    exact ⟨rfl, rfl, rfl, rfl, rfl⟩
  have hEy : REy (0, 0, (fun _ => 0), (fun _ => 0), (fun _ => 0), (fun _ => 0), (fun _ => 0)) A0 := by
    refine ⟨rfl, rfl, fun k k1 k2 => ?_, fun k k1 k2 => ?_⟩
    · rw [A0_n (by omega), A0_n (by omega)]
      exact ⟨rfl, rfl⟩
    · rw [A0_n (by omega), A0_n (by omega), A0_n (by omega)]
      exact ⟨rfl, rfl, rfl⟩
  have hRe : RRe (0, (fun _ => 0), (fun _ => 0), (fun _ => 0), (fun _ => 0), (fun _ => 0)) A0 := by
    refine ⟨rfl, fun k k1 k2 => ?_⟩
    rw [A0_n (show 720 + 24 * k ≠ 880 by omega), A0_n (show 720 + 24 * k + 1 ≠ 880 by omega), A0_n (show 720 + 24 * k + 2 ≠ 880 by omega), A0_n (show 720 + 24 * k + 3 ≠ 880 by omega)]
    exact ⟨rfl, rfl, rfl, rfl, fun j j1 j2 => by rw [A0_n (by omega)]; rfl⟩
  have hFl : RFl (0, 0, 0, 0, 0, 0, 0, 0, 0, 0, (fun _ => 0), (fun _ => 0)) A0 := ⟨⟨Or.inl rfl, Or.inl rfl, Or.inl rfl⟩, Or.inl ⟨rfl, rfl, rfl⟩⟩
  obtain ⟨r3, h3⟩ : ∃ r, f_X3_init = some r := ⟨_, rfl⟩
  obtain ⟨r4, h4⟩ : ∃ r, f_X4_init = some r := ⟨_, rfl⟩
  have hc : f_X11_init (iI a) (iI b) = some ((0, 0, (fun _ => 0), (fun _ => 0)), (0, 0, (fun _ => 0), (fun _ => 0), (fun _ => 0), (fun _ => 0), (fun _ => 0)), (0, (fun _ => 0), (fun _ => 0), (fun _ => 0), (fun _ => 0), (fun _ => 0)), (0, 0, 0, 0, 0, 0, 0, 0, 0, 0, (fun _ => 0), (fun _ => 0)), 0, ((sCm a * sCm b).toNat, iI (sCm a), iI (sCm b), 0, (fun _ => 0), (fun _ => 0), (fun _ => 0), (fun _ => 0), (fun _ => 0), (fun _ => 0)), (0, 0, (fun _ => 0), (fun _ => 0), (fun _ => 0), (fun _ => 0), (fun _ => 0)), (0, (fun _ => 0), (fun _ => 0), (fun _ => 0), (fun _ => 0), (fun _ => 0)), (0, 0, 0, 0, 0, 0, 0, 0, 0, 0, (fun _ => 0), (fun _ => 0)), ((sCm a * sCm b).toNat, 0, 0, (fun _ => 0), (fun _ => 0)), ((sCm a * sCm b).toNat, iI (sCm a), iI (sCm b), 0, (fun _ => 0), (fun _ => 0), (fun _ => 0), (fun _ => 0), (fun _ => 0), (fun _ => 0)), r3.1, 0, r3.2.1, r3.2.2, r4.1, r4.2) := by
    unfold f_X11_init
    rw [hX8, bind_s, bind_s]
    dsimp only
    rw [hX7, bind_s, h3, bind_s, h4, bind_s]
  refine ⟨_, zm, hc, m1, fun r1 r2 => ?_⟩
  · have hmem : ∀ (r : Nat → Nat) (i : Int), 0 ≤ i → i < 8 → cdOf r i.toNat = some (r i.toNat) ∧ r i.toNat ∈ (List.range 8).map r := by
      intro r i i1 i2
      refine ⟨if_pos (by omega), List.mem_map.mpr ⟨i.toNat, List.mem_range.mpr (by omega), rfl⟩⟩
    refine ⟨sCm a, sCm b, A0, A0, m2, m3, hA, hA, ⟨hWo, hEy, hRe, hFl⟩, ⟨hWo, hEy, hRe, hFl⟩, ⟨rfl, rfl, Int.le_refl _, ⟨fun i i1 i2 => ⟨r1 i.toNat, (hmem r1 i i1 i2).1, List.mem_append_left _ (hmem r1 i i1 i2).2⟩, fun i i1 i2 => by rw [A0_n (by omega)] at i2; omega⟩, ⟨fun i i1 i2 => ⟨r2 i.toNat, (hmem r2 i i1 i2).1, List.mem_append_right _ (hmem r2 i i1 i2).2⟩, fun i i1 i2 => by rw [A0_n (by omega)] at i2; omega⟩⟩, rfl, ⟨0, fun _ => 0, by omega, m4, rfl, fun k k1 k2 => by omega, fun k k1 k2 => by omega, fun k k1 k2 => by omega⟩, Or.inl ⟨rfl, m5, m6⟩⟩
