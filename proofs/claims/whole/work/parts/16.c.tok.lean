-- layer 2: the loops of the reference's next token
theorem z_dig {T : Int} {Z : Int → Int} {s e : Int} (s0 : 0 ≤ s) (eT : e ≤ T) (hD : ∀ i : Int, s ≤ i → i < e → isD (Z i)) (hE : e < T → ¬ isD (Z e)) : ∀ (d : Nat) (i n : Int) (m : BX12), (d : Int) + i = e → s ≤ i → TX m T Z → pX12_at m = iI i → pX12_number m = iI n → (0 ≤ n ∧ n < 1000000) → (nC Z s (i - s).toNat = if n < 10000 then n else 10000) → ∀ F : Nat, d < F → Wp (f_X12_nextToken_b85 F m) (fun r => FrK m r ∧ pX12_at r = iI e ∧ pX12_place r = pX12_place m ∧ pX12_token r = pX12_token m ∧ ∃ n : Int, pX12_number r = iI n ∧ (0 ≤ n ∧ n < 1000000) ∧ nC Z s (e - s).toNat = if n < 10000 then n else 10000) := by
  intro d
  induction d with
  | zero =>
    intro i n m hd si tx ha hn hb hv F hF
    obtain ⟨F, rfl⟩ : ∃ F', F = F' + 1 := ⟨F - 1, by omega⟩
    obtain rfl : i = e := by omega
    have hT := tx.1
    show Wp (f_X12_nextToken_b85B (f_X12_nextToken_b85 F) m) _
    unfold f_X12_nextToken_b85B
    rw [ha, z_seeT tx (by omega) (by omega), bind_s, z_isDigit (tx.at_bd (by omega)).1 (tx.at_bd (by omega)).2, bind_s]
    have hn' : ¬ isD (zAt Z T i) := by
      by_cases c : i < T
      · rw [zAt_in c]
        exact hE c
      · rw [zAt_out c]
        unfold isD
        omega
    rw [bI_f hn', if_pos rfl]
    exact wp_some ⟨FrK.refl m, ha, rfl, rfl, n, hn, hb, hv⟩
  | succ d ih =>
    intro i n m hd si tx ha hn hb hv F hF
    obtain ⟨F, rfl⟩ : ∃ F', F = F' + 1 := ⟨F - 1, by omega⟩
    have hT := tx.1
    show Wp (f_X12_nextToken_b85B (f_X12_nextToken_b85 F) m) _
    unfold f_X12_nextToken_b85B
    have hd1 := hD i si (by omega)
    have hz : zAt Z T i = Z i := zAt_in (by omega)
    rw [ha, z_seeT tx (by omega) (by omega), bind_s, z_isDigit (tx.at_bd (by omega)).1 (tx.at_bd (by omega)).2, bind_s, hz, bI_t hd1, if_neg (by decide), hn]
    unfold isD at hd1
    unfold f_X12_nextToken_b131
    simp (disch := omega) only [iLit, iI_le, iI_mul, iI_add, iI_sub, bind_s]
    by_cases c : 100000 ≤ n
    · rw [if_pos c]
      refine wp_lt (wp_lt ?_)
      rw [ha, iI_add]
      refine wp_mono (ih (i + 1) n (sX12_at m (iI (i + 1))) (by omega) (by omega) (FrK.tx (FrK.s_at (FrK.refl m) _) tx) (by rw [q12_at_at]) (by rw [q12_number_at]; exact hn) hb ?_ F (by omega)) ?_
      · rw [nC_s si, hv, if_neg (by omega), if_neg (by omega)]
      · rintro r ⟨r1, r2, r3, r4, r5⟩
        exact ⟨(FrK.s_at (FrK.refl m) _).trans r1, r2, r3, r4, r5⟩
    · rw [if_neg c]
      refine wp_lt (wp_lt (wp_lt (wp_lt ?_)))
      rw [q12_at_number, ha, iI_add]
      refine wp_mono (ih (i + 1) (10 * n + Z i - 48) (sX12_at (sX12_number m (iI (10 * n + Z i - 48))) (iI (i + 1))) (by omega) (by omega) (FrK.tx (FrK.s_at (FrK.s_number (FrK.refl m) _) _) tx) (by rw [q12_at_at]) (by rw [q12_number_at, q12_number_number]) (by omega) ?_ F (by omega)) ?_
      · rw [nC_s si, hv]
        split <;> split <;> split <;> omega
      · rintro r ⟨r1, r2, r3, r4, r5⟩
        exact ⟨(FrK.s_at (FrK.s_number (FrK.refl m) _) _).trans r1, r2, r3, r4, r5⟩
/-- what the reference's word is against the class's value, behind j letters -/
def WdR (j v w : Int) : Prop := (0 ≤ w ∧ w < 281474976710656) ∧ ((j = 0 ∧ v = 0 ∧ w = 0) ∨ (j = 1 ∧ v = w ∧ 65 ≤ w ∧ w < 128) ∨ (j = 2 ∧ v = w ∧ 256 ≤ w ∧ w < 32768) ∨ (j = 3 ∧ v = w ∧ 65536 ≤ w ∧ w < 8388608) ∨ (j = 4 ∧ v = w ∧ 16777216 ≤ w ∧ w < 2147483648) ∨ (j = 5 ∧ v = -2 ∧ 4294967296 ≤ w ∧ w < 549755813888) ∨ (6 ≤ j ∧ v = -2 ∧ 4294967296 ≤ w))
theorem WdR.w {j v w : Int} (h : WdR j v w) (hj : j < 6) : 0 ≤ w ∧ w < 1099511627776 := by
  obtain ⟨h0, h | h | h | h | h | h | h⟩ := h <;> omega
theorem WdR.step {j v w c : Int} (h : WdR j v w) (hj : j < 6) (c1 : 65 ≤ c) (c2 : c ≤ 122) : WdR (j + 1) (if v < 0 ∨ 16777215 < v then -2 else v * 256 + c) (w * 256 + c) := by
  obtain ⟨h0, h | h | h | h | h | h | h⟩ := h
  · rw [if_neg (by omega)]
    exact ⟨by omega, Or.inr (Or.inl (by omega))⟩
  · rw [if_neg (by omega)]
    exact ⟨by omega, Or.inr (Or.inr (Or.inl (by omega)))⟩
  · rw [if_neg (by omega)]
    exact ⟨by omega, Or.inr (Or.inr (Or.inr (Or.inl (by omega))))⟩
  · rw [if_neg (by omega)]
    exact ⟨by omega, Or.inr (Or.inr (Or.inr (Or.inr (Or.inl (by omega)))))⟩
  · rw [if_pos (by omega)]
    exact ⟨by omega, Or.inr (Or.inr (Or.inr (Or.inr (Or.inr (Or.inl (by omega))))))⟩
  · rw [if_pos (by omega)]
    exact ⟨by omega, Or.inr (Or.inr (Or.inr (Or.inr (Or.inr (Or.inr (by omega))))))⟩
  · omega
theorem WdR.far {j v w c : Int} (h : WdR j v w) (hj : 6 ≤ j) : WdR (j + 1) (if v < 0 ∨ 16777215 < v then -2 else v * 256 + c) w := by
  obtain ⟨h0, h | h | h | h | h | h | h⟩ := h
  · omega
  · omega
  · omega
  · omega
  · omega
  · omega
  · rw [if_pos (by omega)]
    exact ⟨by omega, Or.inr (Or.inr (Or.inr (Or.inr (Or.inr (Or.inr (by omega))))))⟩
theorem WdR.last {j v w : Int} (h : WdR j v w) (hj : 0 < j) : (65 ≤ w ∧ w < 2147483648 ∧ v = w) ∨ (v = -2 ∧ (w = 0 ∨ 2147483648 ≤ w)) := by
  obtain ⟨h0, h | h | h | h | h | h | h⟩ := h <;> omega
theorem WdR.long {j v w : Int} (h : WdR j v w) (hj : 6 < j) : v = -2 := by
  obtain ⟨h0, h | h | h | h | h | h | h⟩ := h <;> omega
theorem z_let {T : Int} {Z : Int → Int} {s e : Int} (s0 : 0 ≤ s) (eT : e ≤ T) (se : s < e) (hD : ∀ i : Int, s ≤ i → i < e → isL (Z i)) (hE : e < T → ¬ isL (Z e)) : ∀ (d : Nat) (i w : Int) (m : BX12), (d : Int) + i = e → s ≤ i → TX m T Z → pX12_at m = iI i → pX12_place m = iI s → pX12_word m = lI w → WdR (i - s) (wC Z s (i - s).toNat) w → ∀ F : Nat, d < F → Wp (f_X12_nextToken_b161 F m) (fun r => FrK m r ∧ pX12_at r = iI e ∧ pX12_place r = pX12_place m ∧ pX12_token r = pX12_token m ∧ ∃ w : Int, pX12_word r = lI w ∧ (0 ≤ w ∧ w < 281474976710656) ∧ ((65 ≤ w ∧ w < 2147483648 ∧ wC Z s (e - s).toNat = w) ∨ (wC Z s (e - s).toNat = -2 ∧ (w = 0 ∨ 2147483648 ≤ w)))) := by
  intro d
  induction d with
  | zero =>
    intro i w m hd si tx ha hp hn hv F hF
    obtain ⟨F, rfl⟩ : ∃ F', F = F' + 1 := ⟨F - 1, by omega⟩
    obtain rfl : i = e := by omega
    have hT := tx.1
    show Wp (f_X12_nextToken_b161B (f_X12_nextToken_b161 F) m) _
    unfold f_X12_nextToken_b161B
    rw [ha, z_seeT tx (by omega) (by omega), bind_s, z_isLetter (tx.at_bd (by omega)).1 (tx.at_bd (by omega)).2, bind_s]
    have hn' : ¬ isL (zAt Z T i) := by
      by_cases c : i < T
      · rw [zAt_in c]
        exact hE c
      · rw [zAt_out c]
        unfold isL
        omega
    rw [bI_f hn', if_pos rfl, hp]
    simp (disch := omega) only [iLit, iI_sub, iI_le]
    by_cases c : i - s ≤ 6
    · rw [if_pos c]
      exact wp_some ⟨FrK.refl m, ha, hp, rfl, w, hn, hv.1, hv.last (by omega)⟩
    · rw [if_neg c]
      refine wp_lt (wp_some ⟨FrK.s_word (FrK.refl m) _, by rw [q12_at_word]; exact ha, by rw [q12_place_word]; exact hp, by rw [q12_token_word], 0, by rw [q12_word_word]; rfl, by omega, Or.inr ⟨hv.long (by omega), Or.inl rfl⟩⟩)
  | succ d ih =>
    intro i w m hd si tx ha hp hn hv F hF
    obtain ⟨F, rfl⟩ : ∃ F', F = F' + 1 := ⟨F - 1, by omega⟩
    have hT := tx.1
    show Wp (f_X12_nextToken_b161B (f_X12_nextToken_b161 F) m) _
    unfold f_X12_nextToken_b161B
    have hd1 := hD i si (by omega)
    have hz : zAt Z T i = Z i := zAt_in (by omega)
    rw [ha, z_seeT tx (by omega) (by omega), bind_s, z_isLetter (tx.at_bd (by omega)).1 (tx.at_bd (by omega)).2, bind_s, hz, bI_t hd1, if_neg (by decide), hp, hn]
    have hc : 65 ≤ Z i ∧ Z i ≤ 122 := by
      unfold isL at hd1
      omega
    clear hd1
    unfold f_X12_nextToken_b210
    have hs := wC_s (Z := Z) si
    have es : i + 1 - s = (i - s) + 1 := by omega
    simp (disch := omega) only [iLit, iI_le, iI_sub, bind_s]
    by_cases c : 6 ≤ i - s
    · rw [if_pos c]
      refine wp_lt (wp_lt ?_)
      rw [ha, iI_add]
      refine wp_mono (ih (i + 1) w (sX12_at m (iI (i + 1))) (by omega) (by omega) (FrK.tx (FrK.s_at (FrK.refl m) _) tx) (by rw [q12_at_at]) (by rw [q12_place_at]; exact hp) (by rw [q12_word_at]; exact hn) ?_ F (by omega)) ?_
      · rw [hs, es]
        exact hv.far c
      · rintro r ⟨r1, r2, r3, r4, r5⟩
        exact ⟨(FrK.s_at (FrK.refl m) _).trans r1, r2, r3.trans hp, r4, r5⟩
    · rw [if_neg c]
      have hw := hv.w (by omega)
      rw [lI_word hw.1 hw.2 (by omega) (by omega)]
      refine wp_lt (wp_lt (wp_lt (wp_lt ?_)))
      rw [q12_at_word, ha, iI_add]
      refine wp_mono (ih (i + 1) (w * 256 + Z i) (sX12_at (sX12_word m (lI (w * 256 + Z i))) (iI (i + 1))) (by omega) (by omega) (FrK.tx (FrK.s_at (FrK.s_word (FrK.refl m) _) _) tx) (by rw [q12_at_at]) (by rw [q12_place_at, q12_place_word]; exact hp) (by rw [q12_word_at, q12_word_word]) ?_ F (by omega)) ?_
      · rw [hs, es]
        exact hv.step (by omega) hc.1 hc.2
      · rintro r ⟨r1, r2, r3, r4, r5⟩
        exact ⟨(FrK.s_at (FrK.s_word (FrK.refl m) _) _).trans r1, r2, r3.trans hp, r4, r5⟩
