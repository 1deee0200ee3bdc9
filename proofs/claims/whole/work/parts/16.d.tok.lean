-- layer 2: the reference's next token
def NT (m r : BX12) (s e k v : Int) : Prop := FrK m r ∧ pX12_at r = iI e ∧ pX12_place r = iI s ∧ TKM r k v
theorem iI_ne {a b : Int} (h1 : -2147483648 ≤ a) (h2 : a < 2147483648) (h3 : -2147483648 ≤ b) (h4 : b < 2147483648) (h : a ≠ b) : ¬ iI a = iI b := fun e => h ((iI_eq h1 h2 h3 h4).mp e)
theorem i0_le {c : Int} (h2 : c ≤ 255) (h1 : 0 ≤ c) : (0 : Int32) ≤ iI c := (iI_le (a := 0) (by omega) (by omega) (by omega) (by omega)).mpr h1
theorem z_chain {c : Int} (c1 : 0 ≤ c) (c2 : c ≤ 255) (x y : Option BX12) : (if iI c = 60 then x else if iI c = 62 then x else if iI c = 61 then x else if iI c = 35 then x else if iI c = 43 then x else if iI c = 45 then x else if iI c = 42 then x else if iI c = 47 then x else if iI c = 40 then x else if iI c = 41 then x else if iI c = 44 then x else if iI c = 59 then x else y) = if SgK c then x else y := by
  simp (disch := omega) only [iLit, iI_eq]
  by_cases h : SgK c
  · rw [if_pos h]
    rcases h with rfl | rfl | rfl | rfl | rfl | rfl | rfl | rfl | rfl | rfl | rfl | rfl <;> rfl
  · rw [if_neg h]
    unfold SgK at h
    simp only [not_or] at h
    obtain ⟨h1, h2, h3, h4, h5, h6, h7, h8, h9, h10, h11, h12⟩ := h
    rw [if_neg h1, if_neg h2, if_neg h3, if_neg h4, if_neg h5, if_neg h6, if_neg h7, if_neg h8, if_neg h9, if_neg h10, if_neg h11, if_neg h12]
/-- behind a sign that is no letter, no digit -/
theorem z_sign {T : Int} {Z : Int → Int} {s e k v : Int} (s0 : 0 ≤ s) {m : BX12} (tx : TX m T Z) (ha : pX12_at m = iI (s + 1)) (sT : s < T)
    (hk : (e = s + 1 ∧ ¬ isD (Z s) ∧ ¬ isL (Z s) ∧ k = Z s ∧ ((Z s = 60 ∨ Z s = 62) → s + 1 < T → Z (s + 1) ≠ 61)) ∨ (s + 1 < T ∧ e = s + 2 ∧ Z (s + 1) = 61 ∧ ((Z s = 60 ∧ k = -5) ∨ (Z s = 62 ∧ k = -6)))) :
    Wp (if SgK (Z s) then f_X12_nextToken_b327 (iI (Z s)) m else f_X12_nextToken_b332 (iI (Z s)) 0 m) (fun r => FrK m r ∧ pX12_at r = iI e ∧ pX12_place r = pX12_place m ∧ TKM r k v) := by
  have hT := tx.1
  have hb := tx.2.2.2 s s0 sT
  by_cases hg : SgK (Z s)
  · rw [if_pos hg]
    unfold f_X12_nextToken_b327 f_X12_nextToken_b332
    rw [if_neg (by decide)]
    unfold f_X12_nextToken_b343
    refine wp_lt ?_
    have f1 : FrK m (sX12_token m (iI (Z s))) := FrK.s_token (FrK.refl m) _
    have a1 : pX12_at (sX12_token m (iI (Z s))) = iI (s + 1) := ha
    have p1 : pX12_place (sX12_token m (iI (Z s))) = pX12_place m := rfl
    have t1 : pX12_token (sX12_token m (iI (Z s))) = iI (Z s) := rfl
    generalize sX12_token m (iI (Z s)) = m1 at f1 a1 p1 t1
    have tx1 := f1.tx tx
    have key : (Z s = 60 ∨ Z s = 62) → Wp (f_X12_nextToken_b358 (iI (Z s)) m1) (fun r => FrK m r ∧ pX12_at r = iI e ∧ pX12_place r = pX12_place m ∧ TKM r k v) := by
      intro hz
      unfold f_X12_nextToken_b358
      rw [a1, z_seeT tx1 (by omega) (by omega), bind_s]
      have hb1 := tx1.at_bd (show 0 ≤ s + 1 by omega)
      rcases hk with ⟨h1, h2, h3, h4, h5⟩ | ⟨h1, h2, h3, h4⟩
      · have hne : zAt Z T (s + 1) ≠ 61 := by
          by_cases c : s + 1 < T
          · rw [zAt_in c]
            exact h5 hz c
          · rw [zAt_out c]
            omega
        rw [if_neg (show ¬ iI (zAt Z T (s + 1)) = 61 from iI_ne (by omega) (by omega) (by omega) (by omega) hne)]
        exact wp_some ⟨f1, by rw [a1, h1], p1, Or.inr (Or.inr (Or.inr (Or.inl ⟨h4 ▸ hg, by rw [t1, h4]⟩)))⟩
      · rw [zAt_in h1, h3, if_pos (show iI 61 = 61 from rfl)]
        refine wp_lt (wp_lt ?_)
        rw [show (iI (s + 1) + 1 : Int32) = iI e by rw [show (1 : Int32) = iI 1 from rfl, iI_add, h2]; congr 1; omega]
        have f2 : FrK m (sX12_at m1 (iI e)) := f1.trans (FrK.s_at (FrK.refl m1) _)
        have a2 : pX12_at (sX12_at m1 (iI e)) = iI e := rfl
        have p2 : pX12_place (sX12_at m1 (iI e)) = pX12_place m := p1
        generalize sX12_at m1 (iI e) = m2 at f2 a2 p2
        unfold f_X12_nextToken_b393
        rcases h4 with ⟨h4, h5⟩ | ⟨h4, h5⟩
        · rw [h4, if_pos (show iI 60 = 60 from rfl)]
          exact wp_lt (wp_some ⟨f2.trans (FrK.s_token (FrK.refl m2) _), a2, p2, Or.inr (Or.inr (Or.inr (Or.inr (Or.inl ⟨h5, rfl⟩))))⟩)
        · rw [h4, if_neg (show ¬ iI 62 = 60 by decide)]
          exact wp_lt (wp_some ⟨f2.trans (FrK.s_token (FrK.refl m2) _), a2, p2, Or.inr (Or.inr (Or.inr (Or.inr (Or.inr (Or.inl ⟨h5, rfl⟩)))))⟩)
    by_cases c1 : Z s = 60
    · rw [if_pos (show iI (Z s) = 60 by rw [c1]; rfl)]
      exact key (Or.inl c1)
    · rw [if_neg (show ¬ iI (Z s) = 60 from iI_ne (by omega) (by omega) (by omega) (by omega) c1)]
      by_cases c2 : Z s = 62
      · rw [if_pos (show iI (Z s) = 62 by rw [c2]; rfl)]
        exact key (Or.inr c2)
      · rw [if_neg (show ¬ iI (Z s) = 62 from iI_ne (by omega) (by omega) (by omega) (by omega) c2)]
        rcases hk with ⟨h1, h2, h3, h4, h5⟩ | ⟨h1, h2, h3, h4⟩
        · exact wp_some ⟨f1, by rw [a1, h1], p1, Or.inr (Or.inr (Or.inr (Or.inl ⟨h4 ▸ hg, by rw [t1, h4]⟩)))⟩
        · omega
  · rw [if_neg hg]
    unfold f_X12_nextToken_b332
    rw [if_pos rfl]
    unfold f_X12_nextToken_b343
    refine wp_lt ?_
    have hg1 : Z s ≠ 60 := fun e => hg (Or.inl e)
    have hg2 : Z s ≠ 62 := fun e => hg (Or.inr (Or.inl e))
    rw [if_neg (show ¬ iI (Z s) = 60 from iI_ne (by omega) (by omega) (by omega) (by omega) hg1), if_neg (show ¬ iI (Z s) = 62 from iI_ne (by omega) (by omega) (by omega) (by omega) hg2)]
    rcases hk with ⟨h1, h2, h3, h4, h5⟩ | ⟨h1, h2, h3, h4⟩
    · exact wp_some ⟨FrK.s_token (FrK.refl m) _, by rw [q12_at_token, ha, h1], rfl, Or.inr (Or.inr (Or.inr (Or.inr (Or.inr (Or.inr ⟨rfl, h4 ▸ hb, h4 ▸ hg, h4 ▸ h3, h4 ▸ h2⟩)))))⟩
    · omega
theorem z_tokHere {T : Int} {Z : Int → Int} {s e k v : Int} (s0 : 0 ≤ s) (hk : Tok Z T s s e k v) {m : BX12} (tx : TX m T Z) (ha : pX12_at m = iI s) (J : BX12 → Option BX12) : Wp (f_X12_nextToken_b0B J m) (fun r => NT m r s e k v) := by
  have hT := tx.1
  obtain ⟨-, -, hk⟩ := hk
  have hsT : s ≤ T := by
    rcases hk with h | h | h | h | h <;> omega
  have hb := tx.at_bd s0
  have hnb : ¬ isB (zAt Z T s) := by
    rcases hk with ⟨h1, _⟩ | ⟨h1, h2, h3, _⟩ | ⟨h1, h2, h3, _⟩ | ⟨h1, _, h3, _⟩ | ⟨h1, _, _, h3⟩
    · rw [zAt_out (by omega)]
      unfold isB
      omega
    · rw [zAt_in (by omega)]
      have := h3 s (by omega) (by omega)
      unfold isD at this
      unfold isB
      omega
    · rw [zAt_in (by omega)]
      have := h3 s (by omega) (by omega)
      unfold isL at this
      unfold isB
      omega
    · rw [zAt_in (by omega)]
      exact h3
    · rw [zAt_in (by omega)]
      unfold isB
      omega
  unfold isB at hnb
  unfold f_X12_nextToken_b0B
  rw [ha, z_seeT tx s0 (by omega), bind_s, bind_s, if_neg (show ¬ iI (zAt Z T s) = 32 from iI_ne (b := 32) (by omega) (by omega) (by omega) (by omega) (by omega)), if_neg (show ¬ iI (zAt Z T s) = 10 from iI_ne (b := 10) (by omega) (by omega) (by omega) (by omega) (by omega))]
  refine wp_lt (wp_lt ?_)
  have f1 : FrK m (sX12_place m (iI s)) := FrK.s_place (FrK.refl m) _
  have a1 : pX12_at (sX12_place m (iI s)) = iI s := by rw [q12_at_place]; exact ha
  have p1 : pX12_place (sX12_place m (iI s)) = iI s := q12_place_place m _
  generalize sX12_place m (iI s) = m1 at f1 a1 p1
  have tx1 := f1.tx tx
  rw [a1, z_seeT tx1 s0 (by omega), bind_s]
  rcases hk with ⟨h1, h2, h3⟩ | ⟨h1, h2, h3, h4, h5, h6⟩ | ⟨h1, h2, h3, h4, h5, h6⟩ | ⟨h1, h2, h3, h4, h5, h6, h7⟩ | ⟨h1, h2, h3, h4⟩
  · rw [zAt_out (by omega), if_neg (show ¬ (0 : Int32) ≤ iI (-1) by decide)]
    refine wp_lt (wp_some ⟨f1.trans (FrK.s_token (FrK.refl m1) _), ?_, ?_, Or.inl ⟨h3, ?_⟩⟩)
    · rw [q12_at_token, a1, h2, h1]
    · rw [q12_place_token]
      exact p1
    · rfl
  · have hd := h3 s (by omega) h1
    have hz : zAt Z T s = Z s := zAt_in (by omega)
    rw [if_pos (show (0 : Int32) ≤ iI (zAt Z T s) from i0_le hb.2 (by unfold isD at hd; omega)), z_isDigit hb.1 hb.2, bind_s, hz, bI_t hd, if_neg (by decide)]
    refine wp_lt (wp_lt ?_)
    refine wp_mono (z_dig s0 h2 h3 h4 (e - s).toNat s 0 (sX12_number (sX12_token m1 (iI 1)) (iI 0)) (by omega) (by omega) (FrK.tx (FrK.s_number (FrK.s_token (FrK.refl m1) _) _) tx1) ?_ (by rw [q12_number_number]) (by omega) (by rw [Int.sub_self]; rfl) fU (by rw [fU_v]; omega)) ?_
    · rw [q12_at_number, q12_at_token]
      exact a1
    · rintro r ⟨r1, r2, r3, r4, n, r5, r6, r7⟩
      rw [q12_place_number, q12_place_token, p1] at r3
      rw [q12_token_number, q12_token_token] at r4
      exact ⟨f1.trans ((FrK.s_number (FrK.s_token (FrK.refl m1) _) _).trans r1), r2, r3, Or.inr (Or.inl ⟨h5, r4, n, r5, r6, h6.trans r7⟩)⟩
  · have hd := h3 s (by omega) h1
    have hz : zAt Z T s = Z s := zAt_in (by omega)
    have hnd : ¬ isD (Z s) := by
      unfold isL at hd
      unfold isD
      omega
    rw [if_pos (show (0 : Int32) ≤ iI (zAt Z T s) from i0_le hb.2 (by unfold isL at hd; omega)), z_isDigit hb.1 hb.2, bind_s, z_isLetter hb.1 hb.2, bind_s, hz, bI_f hnd, bI_t hd, if_pos rfl, if_neg (by decide)]
    refine wp_lt (wp_lt ?_)
    refine wp_mono (z_let s0 h2 h1 h3 h4 (e - s).toNat s 0 (sX12_word (sX12_token m1 (iI 2)) 0) (by omega) (by omega) (FrK.tx (FrK.s_word (FrK.s_token (FrK.refl m1) _) _) tx1) ?_ ?_ (by rw [q12_word_word]; rfl) ⟨by omega, Or.inl ⟨by omega, by rw [Int.sub_self]; rfl, rfl⟩⟩ fU (by rw [fU_v]; omega)) ?_
    · rw [q12_at_word, q12_at_token]
      exact a1
    · rw [q12_place_word, q12_place_token]
      exact p1
    · rintro r ⟨r1, r2, r3, r4, w, r5, r6, r7⟩
      rw [q12_place_word, q12_place_token, p1] at r3
      rw [q12_token_word, q12_token_token] at r4
      refine ⟨f1.trans ((FrK.s_word (FrK.s_token (FrK.refl m1) _) _).trans r1), r2, r3, Or.inr (Or.inr (Or.inl ⟨r4, w, r5, r6, ?_⟩))⟩
      rcases r7 with ⟨r7, r8, r9⟩ | ⟨r7, r8⟩
      · rw [← h5] at r9
        exact Or.inl ⟨r7, r8, r9, by rw [h6, r9]⟩
      · rw [← h5] at r7
        exact Or.inr ⟨by rw [h6, r7]; rfl, r8⟩
  · have hz : zAt Z T s = Z s := zAt_in (by omega)
    have hnd : ¬ isD (Z s) := by
      first | exact h4 | (unfold isD; omega)
    have hnl : ¬ isL (Z s) := by
      first | exact h5 | (unfold isL; omega)
    have hb0 := tx.2.2.2 s s0 (by omega)
    rw [if_pos (show (0 : Int32) ≤ iI (zAt Z T s) from i0_le hb.2 (by omega)), z_isDigit hb.1 hb.2, bind_s, z_isLetter hb.1 hb.2, bind_s, hz, bI_f hnd, bI_f hnl, if_pos rfl, if_pos rfl]
    refine wp_lt (wp_lt ?_)
    rw [z_chain hb0.1 hb0.2, show (iI s + 1 : Int32) = iI (s + 1) from iI_add s 1]
    refine wp_mono (z_sign (v := v) s0 (FrK.tx (FrK.s_at (FrK.refl m1) _) tx1) (q12_at_at m1 _) (by omega) (Or.inl ⟨h2, h4, h5, h6, h7⟩)) ?_
    rintro r ⟨r1, r2, r3, r4⟩
    exact ⟨f1.trans ((FrK.s_at (FrK.refl m1) _).trans r1), r2, by rw [r3, q12_place_at]; exact p1, r4⟩
  · have hz : zAt Z T s = Z s := zAt_in (by omega)
    have hnd : ¬ isD (Z s) := by
      first | exact h4 | (unfold isD; omega)
    have hnl : ¬ isL (Z s) := by
      first | exact h5 | (unfold isL; omega)
    have hb0 := tx.2.2.2 s s0 (by omega)
    rw [if_pos (show (0 : Int32) ≤ iI (zAt Z T s) from i0_le hb.2 (by omega)), z_isDigit hb.1 hb.2, bind_s, z_isLetter hb.1 hb.2, bind_s, hz, bI_f hnd, bI_f hnl, if_pos rfl, if_pos rfl]
    refine wp_lt (wp_lt ?_)
    rw [z_chain hb0.1 hb0.2, show (iI s + 1 : Int32) = iI (s + 1) from iI_add s 1]
    refine wp_mono (z_sign (v := v) s0 (FrK.tx (FrK.s_at (FrK.refl m1) _) tx1) (q12_at_at m1 _) (by omega) (Or.inr ⟨h1, h2, h3, h4⟩)) ?_
    rintro r ⟨r1, r2, r3, r4⟩
    exact ⟨f1.trans ((FrK.s_at (FrK.refl m1) _).trans r1), r2, by rw [r3, q12_place_at]; exact p1, r4⟩
/-- from a place on: blanks first -/
theorem z_nextTok {T : Int} {Z : Int → Int} {s e k v : Int} : ∀ (d : Nat) (p : Int) (m : BX12), (d : Int) + p = s → 0 ≤ p → Tok Z T p s e k v → TX m T Z → pX12_at m = iI p → ∀ F : Nat, d < F → Wp (f_X12_nextToken_b0 F m) (fun r => NT m r s e k v) := by
  intro d
  induction d with
  | zero =>
    intro p m hd p0 hk tx ha F hF
    obtain ⟨F, rfl⟩ : ∃ F', F = F' + 1 := ⟨F - 1, by omega⟩
    obtain rfl : p = s := by omega
    show Wp (f_X12_nextToken_b0B (f_X12_nextToken_b0 F) m) _
    exact z_tokHere p0 hk tx ha _
  | succ d ih =>
    intro p m hd p0 hk tx ha F hF
    obtain ⟨F, rfl⟩ : ∃ F', F = F' + 1 := ⟨F - 1, by omega⟩
    have hT := tx.1
    have hsT : s ≤ T := by
      obtain ⟨-, -, hk⟩ := hk
      rcases hk with h | h | h | h | h <;> omega
    show Wp (f_X12_nextToken_b0B (f_X12_nextToken_b0 F) m) _
    unfold f_X12_nextToken_b0B
    rw [ha, z_seeT tx p0 (by omega), bind_s, bind_s, zAt_in (by omega)]
    have hn : Wp (f_X12_nextToken_b26 (f_X12_nextToken_b0 F) m) (fun r => NT m r s e k v) := by
      unfold f_X12_nextToken_b26
      refine wp_lt (wp_lt ?_)
      rw [ha, show (iI p + 1 : Int32) = iI (p + 1) from iI_add p 1]
      refine wp_mono (ih (p + 1) (sX12_at m (iI (p + 1))) (by omega) (by omega) ⟨by omega, fun i i1 i2 => hk.2.1 i (by omega) i2, hk.2.2⟩ (FrK.tx (FrK.s_at (FrK.refl m) _) tx) (q12_at_at m _) F (by omega)) ?_
      rintro r ⟨r1, r2, r3, r4⟩
      exact ⟨(FrK.s_at (FrK.refl m) _).trans r1, r2, r3, r4⟩
    rcases hk.2.1 p (by omega) (by omega) with c | c
    · rw [c, if_pos (show iI 32 = 32 from rfl)]
      exact hn
    · rw [c, if_neg (show ¬ iI 10 = 32 by decide), if_pos (show iI 10 = 10 from rfl)]
      exact hn
theorem z_nextToken {T : Int} {Z : Int → Int} {p s e k v : Int} {m : BX12} (p0 : 0 ≤ p) (hk : Tok Z T p s e k v) (tx : TX m T Z) (ha : pX12_at m = iI p) : Wp (f_X12_nextToken m) (fun r => NT m r s e k v) := by
  have hT := tx.1
  have hsT : s ≤ T := by
    obtain ⟨-, -, hk⟩ := hk
    rcases hk with h | h | h | h | h <;> omega
  have := hk.1
  exact z_nextTok (s - p).toNat p m (by omega) p0 hk tx ha fU (by rw [fU_v]; omega)
