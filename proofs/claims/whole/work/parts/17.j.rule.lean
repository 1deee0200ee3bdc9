-- layer 2: rule
theorem RO_cg {n : Nat} {code texts texts' : Nat → Int32} {r : Int} (r0 : 0 ≤ r) (h : RO n code texts r) (e : ∀ k : Int, 0 ≤ k → k < 800 * (r + 1) → texts' k.toNat = texts k.toNat) : RO n code texts' r := by
  obtain ⟨p, p1, p2, p3, p4, p5, p6, p7⟩ := h
  have hpn := pOps_nn p
  refine ⟨p, p1, p2, p3, p4, ?_, LayT_cg (by omega) p 0 0 (by omega) (by omega) (fun k k1 k2 => e k k1 (by omega)) p6, p7⟩
  rw [e _ (by omega) (by omega)]
  exact p5
theorem z_copyCode {c : BX4} {s : Int} (h0 : 0 ≤ s) (h1 : s ≤ 300) (hs : pX4_size c = iI s) : ∃ w : Nat → Int32, f_X4_copyCode c = some (s.toNat, w) ∧ ∀ k : Int, 0 ≤ k → k < s → w k.toNat = pX4_code c k.toNat := by
  unfold f_X4_copyCode f_J7_copyOf
  rw [hs, show Int32.ofNat 300 = iI 300 from rfl]
  by_cases c3 : s = 300
  · rw [if_pos (by rw [c3]), gd_t (by omega), c3]
    exact ⟨pX4_code c, rfl, fun k _ _ => rfl⟩
  · rw [if_neg (iI_ne (by omega) (by omega) (by omega) (by omega) c3), if_pos ((iI_lt (by omega) (by omega) (by omega) (by omega)).mpr (by omega)), iI_cl (by omega) (by omega), gd_t ⟨fun x => absurd ((iI_lt (b := 0) (by omega) (by omega) (by omega) (by omega)).mp x) (by omega), by omega⟩, gd_t ⟨⟨by decide, by decide, fun x => absurd ((iI_lt (b := 0) (by omega) (by omega) (by omega) (by omega)).mp x) (by omega)⟩, by show 0 + s.toNat ≤ 300; omega, by show 0 + s.toNat ≤ s.toNat; omega⟩]
    exact ⟨_, rfl, fun k k1 k2 => cpy_at k1 k2⟩
