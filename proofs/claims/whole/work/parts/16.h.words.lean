-- layer 2: what a token is, on both sides
theorem SgK.bd {g : Int} (h : SgK g) : 35 ≤ g ∧ g ≤ 62 := by
  unfold SgK at h
  omega
theorem iff_ff {p q : Prop} (hp : ¬ p) (hq : ¬ q) : p ↔ q := ⟨fun h => absurd h hp, fun h => absurd h hq⟩
theorem iff_tt {p q : Prop} (hp : p) (hq : q) : p ↔ q := ⟨fun _ => hq, fun _ => hp⟩
theorem tk_ff {x : Int32} {a b : Int} (h : x = iI a) (a1 : 0 ≤ a) (a2 : a ≤ 255) (b1 : 0 ≤ b) (b2 : b ≤ 255) (hab : a ≠ b) : ¬ x = iI b := by
  rw [h]
  exact iI_ne (by omega) (by omega) (by omega) (by omega) hab
theorem TKM.sign {m : BX12} {k v g : Int} (h : TKM m k v) (hg : SgK g) : pX12_token m = iI g ↔ k = g := by
  have gb := hg.bd
  rcases h with ⟨h1, h2⟩ | ⟨h1, h2, _⟩ | ⟨h1, w, h2, h3, h4⟩ | ⟨h1, h2⟩ | ⟨h1, h2⟩ | ⟨h1, h2⟩ | ⟨h1, h2, h3, _⟩
  · exact iff_ff (tk_ff h2 (by omega) (by omega) (by omega) (by omega) (by omega)) (by omega)
  · exact iff_ff (tk_ff h2 (by omega) (by omega) (by omega) (by omega) (by omega)) (by omega)
  · refine iff_ff (tk_ff h1 (by omega) (by omega) (by omega) (by omega) (by omega)) ?_
    rcases h4 with ⟨_, _, _, h5⟩ | ⟨h5, _⟩
    · rw [h5]
      split <;> omega
    · omega
  · have := h1.bd
    rw [h2]
    exact iI_eq (by omega) (by omega) (by omega) (by omega)
  · exact iff_ff (tk_ff h2 (by omega) (by omega) (by omega) (by omega) (by omega)) (by omega)
  · exact iff_ff (tk_ff h2 (by omega) (by omega) (by omega) (by omega) (by omega)) (by omega)
  · exact iff_ff (tk_ff h1 (by omega) (by omega) (by omega) (by omega) (by omega)) (fun e => h3 (e ▸ hg))
/-- tokens 0, 1, 4, 5 against kinds -1, -3, -5, -6 -/
theorem TKM.low {m : BX12} {k v : Int} (h : TKM m k v) : (pX12_token m = iI 0 ↔ k = -1) ∧ (pX12_token m = iI 1 ↔ k = -3) ∧ (pX12_token m = iI 4 ↔ k = -5) ∧ (pX12_token m = iI 5 ↔ k = -6) := by
  have key : ∀ tk kk : Int, (tk = 0 ∧ kk = -1) ∨ (tk = 1 ∧ kk = -3) ∨ (tk = 4 ∧ kk = -5) ∨ (tk = 5 ∧ kk = -6) → (pX12_token m = iI tk ↔ k = kk) := by
    intro tk kk hh
    rcases h with ⟨h1, h2⟩ | ⟨h1, h2, _⟩ | ⟨h1, w, h2, h3, h4⟩ | ⟨h1, h2⟩ | ⟨h1, h2⟩ | ⟨h1, h2⟩ | ⟨h1, h2, h3, _⟩
    · rw [h2, iI_eq (by omega) (by omega) (by omega) (by omega)]
      omega
    · rw [h2, iI_eq (by omega) (by omega) (by omega) (by omega)]
      omega
    · rw [h1, iI_eq (by omega) (by omega) (by omega) (by omega)]
      refine iff_ff (by omega) ?_
      rcases h4 with ⟨_, _, _, h5⟩ | ⟨h5, _⟩
      · rw [h5]
        split <;> omega
      · omega
    · have := h1.bd
      rw [h2, iI_eq (by omega) (by omega) (by omega) (by omega)]
      omega
    · rw [h2, iI_eq (by omega) (by omega) (by omega) (by omega)]
      omega
    · rw [h2, iI_eq (by omega) (by omega) (by omega) (by omega)]
      omega
    · rw [h1, iI_eq (by omega) (by omega) (by omega) (by omega)]
      omega
  exact ⟨key 0 (-1) (by omega), key 1 (-3) (by omega), key 4 (-5) (by omega), key 5 (-6) (by omega)⟩
theorem TKM.not2 {m : BX12} {k v : Int} (h : TKM m k v) (h2 : pX12_token m ≠ iI 2) : k < 300 ∧ k ≠ -4 ∧ k ≠ -2 := by
  rcases h with ⟨h1, _⟩ | ⟨h1, _⟩ | ⟨h1, _⟩ | ⟨h1, _⟩ | ⟨h1, _⟩ | ⟨h1, _⟩ | ⟨_, h1, _⟩
  · omega
  · omega
  · exact absurd h1 h2
  · have := h1.bd
    omega
  · omega
  · omega
  · omega
theorem TKM.word {m : BX12} {k v : Int} (h : TKM m k v) (h2 : pX12_token m = iI 2) : ∃ w : Int, pX12_word m = lI w ∧ (0 ≤ w ∧ w < 281474976710656) ∧ ((65 ≤ w ∧ w < 2147483648 ∧ v = w ∧ k = if 65 ≤ w ∧ w ≤ 72 then -4 else w) ∨ (k = -2 ∧ (w = 0 ∨ 2147483648 ≤ w))) := by
  rcases h with ⟨_, h1⟩ | ⟨_, h1, _⟩ | ⟨_, h1⟩ | ⟨hs, h1⟩ | ⟨_, h1⟩ | ⟨_, h1⟩ | ⟨h1, _⟩
  · exact absurd h2 (tk_ff h1 (by omega) (by omega) (by omega) (by omega) (by omega))
  · exact absurd h2 (tk_ff h1 (by omega) (by omega) (by omega) (by omega) (by omega))
  · exact h1
  · have := hs.bd
    exact absurd h2 (tk_ff h1 (by omega) (by omega) (by omega) (by omega) (by omega))
  · exact absurd h2 (tk_ff h1 (by omega) (by omega) (by omega) (by omega) (by omega))
  · exact absurd h2 (tk_ff h1 (by omega) (by omega) (by omega) (by omega) (by omega))
  · exact absurd h2 (tk_ff h1 (by omega) (by omega) (by omega) (by omega) (by omega))
theorem z_isWord {m : BX12} {k v W : Int} (h : TKM m k v) (w1 : 300 ≤ W) (w2 : W < 2147483648) : f_X12_isWord m (lI W) = some (bI (k = W)) := by
  unfold f_X12_isWord
  by_cases c : pX12_token m = iI 2
  · rw [if_pos (show pX12_token m = 2 from c)]
    obtain ⟨w, h1, h2, h3⟩ := h.word c
    rw [h1]
    have e : (lg_cmp (lI w) (lI W) = 0) ↔ w = W := (lcm_eq (lI w) (lI W)).trans (lI_eq (by omega) (by omega) (by omega) (by omega))
    rcases h3 with ⟨_, _, _, h5⟩ | ⟨h5, h6⟩
    · by_cases d : w = W
      · rw [if_pos (e.mpr d), bI_t (by rw [h5, if_neg (by omega)]; exact d)]
      · rw [if_neg (fun x => d (e.mp x)), bI_f (by rw [h5]; split <;> omega)]
    · rw [if_neg (fun x => absurd (e.mp x) (by omega)), bI_f (by omega)]
  · rw [if_neg (show ¬ pX12_token m = 2 from c), bI_f (by have := h.not2 c; omega)]
theorem z_letterOf {m : BX12} {k v : Int} (h : TKM m k v) : f_X12_letterOf m = some (iI (if k = -4 then v - 65 else -1)) ∧ (k = -4 → 65 ≤ v ∧ v ≤ 72) := by
  unfold f_X12_letterOf
  by_cases c : pX12_token m = iI 2
  · rw [if_pos (show pX12_token m = 2 from c)]
    obtain ⟨w, h1, h2, h3⟩ := h.word c
    rw [h1]
    have e1 : (lg_cmp (lI w) 65 < 0) ↔ w < 65 := (lcm_lt (lI w) (lI 65)).trans (lI_lt (by omega) (by omega) (by omega) (by omega))
    have e2 : (0 < lg_cmp (lI w) 72) ↔ 72 < w := (lcm_gt (lI w) (lI 72)).trans (lI_lt (by omega) (by omega) (by omega) (by omega))
    rcases h3 with ⟨h3, h4, h5, h6⟩ | ⟨h5, h6⟩
    · by_cases d : w ≤ 72
      · rw [if_neg (fun x => absurd (e1.mp x) (by omega)), if_neg (fun x => absurd (e2.mp x) (by omega)), lI_32, h6, if_pos (show 65 ≤ w ∧ w ≤ 72 by omega), if_pos rfl, h5]
        exact ⟨by rw [show (65 : Int32) = iI 65 from rfl, iI_sub], fun _ => by omega⟩
      · rw [if_neg (fun x => absurd (e1.mp x) (by omega)), if_pos (e2.mpr (by omega)), h6, if_neg (show ¬ (65 ≤ w ∧ w ≤ 72) by omega), if_neg (by omega)]
        exact ⟨rfl, fun _ => by omega⟩
    · rw [h5, if_neg (show ¬ ((-2 : Int) = -4) by omega)]
      rcases h6 with h6 | h6
      · rw [if_pos (e1.mpr (by omega))]
        exact ⟨rfl, fun _ => by omega⟩
      · rw [if_neg (fun x => absurd (e1.mp x) (by omega)), if_pos (e2.mpr (by omega))]
        exact ⟨rfl, fun _ => by omega⟩
  · have := h.not2 c
    rw [if_neg (show ¬ pX12_token m = 2 from c), if_neg this.2.1]
    exact ⟨rfl, fun e => absurd e this.2.1⟩
theorem TKM.num {m : BX12} {v : Int} (h : TKM m (-3) v) : ∃ n : Int, pX12_number m = iI n ∧ (0 ≤ n ∧ n < 1000000) ∧ v = if n < 10000 then n else 10000 := by
  have c := h.low.2.1.mpr rfl
  rcases h with ⟨h1, _⟩ | ⟨_, _, h1⟩ | ⟨h1, _⟩ | ⟨h1, _⟩ | ⟨h1, _⟩ | ⟨h1, _⟩ | ⟨_, h1, _⟩
  · omega
  · exact h1
  · exact absurd c (tk_ff h1 (by omega) (by omega) (by omega) (by omega) (by omega))
  · have := h1.bd
    omega
  · omega
  · omega
  · omega
theorem w_lens : f_X12_w4 108 101 110 115 = some (lI 1818586739) := by decide
theorem w_pair : f_X12_w4 112 97 105 114 = some (lI 1885432178) := by decide
theorem w_tick : f_X12_w4 116 105 99 107 = some (lI 1953063787) := by decide
theorem w_turn : f_X12_w4 116 117 114 110 = some (lI 1953854062) := by decide
theorem w_rest : f_X12_w4 114 101 115 116 = some (lI 1919251316) := by decide
theorem w_min : f_X12_w3 109 105 110 = some (lI 7170414) := by decide
theorem w_max : f_X12_w3 109 97 120 = some (lI 7168376) := by decide
theorem w_not : f_X12_w3 110 111 116 = some (lI 7237492) := by decide
theorem w_and : f_X12_w3 97 110 100 = some (lI 6385252) := by decide
theorem w_let : f_X12_w3 108 101 116 = some (lI 7103860) := by decide
