-- layer 2: the class's tokens: the loop
/-- the tokens of a text: n of them, then the end -/
def TS (Z : Int → Int) (T n : Int) (p S K V : Int → Int) : Prop := (0 ≤ n ∧ n ≤ T) ∧ p 0 = 0 ∧ (∀ j : Int, 0 ≤ j → j < n → 0 ≤ p j ∧ S j < T ∧ Tok Z T (p j) (S j) (p (j + 1)) (K j) (V j)) ∧ (0 ≤ p n ∧ p n ≤ T ∧ (∀ q : Int, p n ≤ q → q < T → isB (Z q))) ∧ S n = T ∧ K n = -1
/-- the class stands at token j -/
def CT (v : BX9) (n : Int) (S K V : Int → Int) (j : Int) : Prop := pX9_count v = iI n ∧ RW9 v (n + 1) S K V ∧ (0 ≤ j ∧ j ≤ n) ∧ pX9_kind v = iI (K j) ∧ pX9_start v = iI (S j) ∧ pX9_value v = iI (V j) ∧ pX9_next v = iI (if j < n then j + 1 else n)
theorem z_advance {v : BX9} {n q : Int} {S K V : Int → Int} (h1 : pX9_count v = iI n) (h2 : RW9 v (n + 1) S K V) (h3 : 0 ≤ q ∧ q ≤ n) (h4 : n ≤ 300) (h5 : pX9_next v = iI q) : Wp (f_X9_advance v) (fun r => CT r n S K V q) := by
  have hin : inB (iI q) 301 := (iI_inB (by omega) (by omega)).mpr (by omega)
  have hcl : (iI q).toNatClampNeg = q.toNat := iI_cl (by omega) (by omega)
  obtain ⟨r1, r2, r3⟩ := h2 q h3.1 (by omega)
  unfold f_X9_advance
  rw [h5]
  refine wp_gd hin (wp_lt (wp_lt ?_))
  rw [q9_next_kind, h5]
  refine wp_gd hin (wp_lt (wp_lt ?_))
  rw [q9_next_start, q9_next_kind, h5]
  refine wp_gd hin (wp_lt (wp_lt ?_))
  rw [q9_next_value, q9_next_start, q9_next_kind, h5, q9_count_value, q9_count_start, q9_count_kind, h1, hcl]
  simp (disch := omega) only [iI_le]
  by_cases c : n ≤ q
  · rw [if_pos c]
    refine wp_some ⟨h1, h2, h3, r1, r2, r3, ?_⟩
    rw [if_neg (by omega), show n = q by omega]
    exact h5
  · rw [if_neg c]
    refine wp_lt (wp_lt (wp_some ⟨h1, h2, h3, r1, r2, r3, ?_⟩))
    rw [if_pos (by omega)]
    exact iI_add q 1
theorem z_splitLp {f : Nat → Int32} {Z : Int → Int} {T : Int} (T0 : 0 ≤ T) (T3 : T ≤ 300) (hf : AI f Z T) (hz : ∀ k : Int, 0 ≤ k → k < T → 0 ≤ Z k ∧ Z k ≤ 255) : ∀ (d : Nat) (i n b : Int) (p S K V : Int → Int) (v : BX9), (d : Int) + i = T → 0 ≤ i → SI Z T i n b p S K V v → ∀ F : Nat, d < F → Wp (f_X9_split_b15 300 f F (iI T, iI b, iI i, v)) (fun r => ∃ (n : Int) (p S K V : Int → Int), TS Z T n p S K V ∧ CT r n S K V 0) := by
  intro d
  induction d with
  | zero =>
    intro i n b p S K V v hd i0 hS F hF
    obtain ⟨F, rfl⟩ : ∃ F', F = F' + 1 := ⟨F - 1, by omega⟩
    obtain rfl : i = T := by omega
    show Wp (f_X9_split_b15B 300 f (f_X9_split_b15 300 f F) (iI i) (iI b) (iI i) v) _
    unfold f_X9_split_b15B
    simp (disch := omega) only [iI_le]
    rw [if_pos (Int.le_refl i)]
    obtain ⟨p', hp0, hC⟩ := hS.close (Int.le_refl i) (fun _ c => by omega)
    obtain ⟨hn, hc, hx, hrw, _⟩ := hS
    obtain ⟨z, z1, z2, hz'⟩ := iI_of (pX9_values v n.toNat)
    have hin : inB (iI n) 301 := (iI_inB (by omega) (by omega)).mpr (by omega)
    have hcl : (iI n).toNatClampNeg = n.toNat := iI_cl (by omega) (by omega)
    unfold f_X9_split_b130
    refine wp_lt ?_
    rw [hc]
    refine wp_gd hin (wp_lt ?_)
    rw [q9_count_kinds, hc]
    refine wp_gd hin (wp_lt ?_)
    rw [hcl]
    refine wp_bind (wp_mono (z_advance (n := n) (q := 0) (S := up S n i) (K := up K n (-1)) (V := up V n z) ?_ ?_ (by omega) (by omega) ?_) ?_)
    · exact hc
    · intro j j1 j2
      rw [q9_kinds_starts, q9_kinds_kinds, q9_starts_starts, q9_values_starts, q9_values_kinds, q9_starts_kinds, ai_upd hn.1 j1, ai_upd hn.1 j1]
      by_cases c : j = n
      · rw [if_pos c, if_pos c, c, up_s, up_s, up_s]
        exact ⟨rfl, rfl, hz'⟩
      · rw [if_neg c, if_neg c, up_n c, up_n c, up_n c]
        exact hrw j j1 (by omega)
    · exact hx
    · intro r hr
      refine wp_some ⟨n, p', up S n i, up K n (-1), up V n z, ⟨⟨hn.1, hn.2⟩, hp0, fun j j1 j2 => ?_, hC.2, up_s _ _ _, up_s _ _ _⟩, hr⟩
      rw [up_n (by omega), up_n (by omega), up_n (by omega)]
      exact hC.1 j j1 j2
  | succ d ih =>
    intro i n b p S K V v hd i0 hS F hF
    obtain ⟨F, rfl⟩ : ∃ F', F = F' + 1 := ⟨F - 1, by omega⟩
    show Wp (f_X9_split_b15B 300 f (f_X9_split_b15 300 f F) (iI T) (iI b) (iI i) v) _
    have hb := hz i i0 (by omega)
    have hk := sK_bd (Z i)
    have hi0 : inB (iI i) 300 := (iI_inB (by omega) (by omega)).mpr (by omega)
    have hicl : (iI i).toNatClampNeg = i.toNat := iI_cl (by omega) (by omega)
    have hfi := hf i i0 (by omega)
    unfold f_X9_split_b15B
    rw [if_neg (show ¬ iI T ≤ iI i from fun h => absurd ((iI_le (by omega) (by omega) (by omega) (by omega)).mp h) (by omega)), if_neg (show ¬ Int32.ofNat 300 ≤ iI i from fun h => absurd ((iI_le (a := 300) (by omega) (by omega) (by omega) (by omega)).mp h) (by omega)), if_neg (show ¬ 300 ≤ iI i from fun h => absurd ((iI_le (a := 300) (by omega) (by omega) (by omega) (by omega)).mp h) (by omega)), gd_t hi0, hicl, hfi, z_sortOf hb.1 hb.2, bind_s]
    have hS' := hS
    obtain ⟨hn, hc, hx, hrw, hp, hcase⟩ := hS
    by_cases ct : sK (Z i) = 0
    · rw [ct, if_pos (show iI 0 = 0 from rfl)]
      unfold f_X9_split_b106 f_X9_split_b121
      rw [if_pos (show iI 0 = 0 from rfl)]
      refine wp_lt ?_
      rw [show (iI i + 1 : Int32) = iI (i + 1) from iI_add i 1]
      obtain ⟨p', hp0, hC⟩ := hS'.close (by omega) (fun b0 _ g => b0 (by rw [g.1]; exact ct))
      refine ih (i + 1) n 0 p' S K V v (by omega) (by omega) ⟨by omega, hc, hx, hrw, hp0, Or.inl ⟨rfl, hC.1, hC.2.1, by have := hC.2.2.1; omega, fun q q1 q2 => ?_⟩⟩ F (by omega)
      by_cases c : q < i
      · exact hC.2.2.2 q q1 c
      · rw [show q = i by omega]
        exact sK_0 ct
    · rw [if_neg (show ¬ iI (sK (Z i)) = 0 from iI_ne (b := 0) (by omega) (by omega) (by omega) (by omega) ct), gd_t hi0]
      -- what comes behind: the byte goes to the last row
      have last : ∀ (n' : Int) (p' S' K' V' : Int → Int) (k x : Int) (u : BX9), (1 ≤ n' ∧ n' ≤ i + 1) → pX9_count u = iI n' → pX9_next u = iI 0 → (∀ j : Int, 0 ≤ j → j < n' → pX9_starts u j.toNat = iI (S' j)) → (∀ j : Int, 0 ≤ j → j < n' - 1 → pX9_kinds u j.toNat = iI (K' j) ∧ pX9_values u j.toNat = iI (V' j)) → pX9_kinds u (n' - 1).toNat = iI k → pX9_values u (n' - 1).toNat = iI x → ((-6 ≤ k ∧ k < 2147483648) ∧ -2 ≤ x ∧ x < 2147483648) → (sK (Z i) = 2 → 0 ≤ x ∧ x ≤ 10000) → (sK (Z i) = 1 → x < 8388608 ∨ 16777215 < x) → p' 0 = 0 → (∀ j : Int, 0 ≤ j → j < n' - 1 → 0 ≤ p' j ∧ S' j < T ∧ Tok Z T (p' j) (S' j) (p' (j + 1)) (K' j) (V' j)) → 0 ≤ p' (n' - 1) → K' (n' - 1) = xK (sK (Z i)) (Z i) k x → V' (n' - 1) = xV (sK (Z i)) (Z i) x → PTok Z (p' (n' - 1)) (S' (n' - 1)) (i + 1) (K' (n' - 1)) (V' (n' - 1)) (sK (Z i)) → Wp (f_X9_split_b106 300 f (f_X9_split_b15 300 f F) (iI T) (iI i) (iI (sK (Z i))) u) (fun r => ∃ (n : Int) (p S K V : Int → Int), TS Z T n p S K V ∧ CT r n S K V 0) := by
        intro n' p' S' K' V' k x u u1 u2 u3 u4 u5 u6 u7 u8 u9 u10 u11 u12 u13 u14 u15 u16
        unfold f_X9_split_b106 f_X9_split_b121
        rw [if_neg (show ¬ iI (sK (Z i)) = 0 from iI_ne (b := 0) (by omega) (by omega) (by omega) (by omega) ct), gd_t hi0, hicl, hfi]
        refine wp_bind (wp_mono (z_extend (k := k) (x := x) u2 u1.1 (by omega) (by omega) hk.2 hb.1 ?_ u6 u7 u8.1.1 u8.1.2 u8.2.1 u8.2.2 ?_ u10) ?_)
        · rcases (show sK (Z i) = 2 ∨ sK (Z i) = 1 ∨ sK (Z i) = 3 by omega) with c | c | c
          · have := sK_2 c
            unfold isD at this
            omega
          · have := sK_1 c
            unfold isL at this
            omega
          · exact Or.inr ⟨c, hb.2⟩
        · intro c
          have h1 := sK_2 c
          have h2 := u9 c
          unfold isD at h1
          omega
        · rintro r ⟨⟨e1, e2, e3⟩, e4, e5, e6⟩
          refine wp_lt ?_
          rw [show (iI i + 1 : Int32) = iI (i + 1) from iI_add i 1]
          refine ih (i + 1) n' (sK (Z i)) p' S' K' V' r (by omega) (by omega) ⟨by omega, e1.trans u2, e2.trans u3, fun j j1 j2 => ?_, u11, Or.inr ⟨by omega, u1.1, u12, u13, u16⟩⟩ F (by omega)
          rw [e3, u4 j j1 j2]
          by_cases c : j = n' - 1
          · rw [c, e5, e6, u14, u15]
            exact ⟨rfl, rfl, rfl⟩
          · rw [(e4 j j1 c).1, (e4 j j1 c).2, (u5 j j1 (by omega)).1, (u5 j j1 (by omega)).2]
            exact ⟨rfl, rfl, rfl⟩
      have fresh : ∀ p' : Int → Int, p' 0 = 0 → CL Z T i n p' S K V → Wp (g_lt ((-2) : Int32) (fun x_20 => g_gd (inB (pX9_count v) 301) (g_lt (sX9_kinds v (upd (pX9_kinds v) ((pX9_count v) : Int32).toNatClampNeg x_20)) (fun v1_22 => g_gd (inB (pX9_count v1_22) 301) (g_lt (sX9_starts v1_22 (upd (pX9_starts v1_22) ((pX9_count v1_22) : Int32).toNatClampNeg (iI i))) (fun v1_24 => g_gd (inB (pX9_count v1_24) 301) (g_lt (sX9_values v1_24 (upd (pX9_values v1_24) ((pX9_count v1_24) : Int32).toNatClampNeg 0)) (fun v1_26 => g_lt (((pX9_count v1_26) + 1) : Int32) (fun x_27 => g_lt (sX9_count v1_26 x_27) (fun v1_28 => f_X9_split_b106 300 f (f_X9_split_b15 300 f F) (iI T) (iI i) (iI (sK (Z i))) v1_28)))))))))) (fun r => ∃ (n : Int) (p S K V : Int → Int), TS Z T n p S K V ∧ CT r n S K V 0) := by
        intro p' hp0 hC
        have hin : inB (iI n) 301 := (iI_inB (by omega) (by omega)).mpr (by omega)
        have hcl : (iI n).toNatClampNeg = n.toNat := iI_cl (by omega) (by omega)
        refine wp_lt ?_
        rw [hc]
        refine wp_gd hin (wp_lt ?_)
        rw [q9_count_kinds, hc]
        refine wp_gd hin (wp_lt ?_)
        rw [q9_count_starts, q9_count_kinds, hc]
        refine wp_gd hin (wp_lt (wp_lt (wp_lt ?_)))
        rw [q9_count_values, q9_count_starts, q9_count_kinds, hc, hcl, show (iI n + 1 : Int32) = iI (n + 1) from iI_add n 1]
        have e1 : n + 1 - 1 = n := by omega
        refine last (n + 1) p' (up S n i) (up K n (xK (sK (Z i)) (Z i) (-2) 0)) (up V n (xV (sK (Z i)) (Z i) 0)) (-2) 0 _ (by omega) ?_ ?_ (fun j j1 j2 => ?_) (fun j j1 j2 => ?_) ?_ ?_ (by omega) (fun _ => by omega) (fun _ => by omega) hp0 (fun j j1 j2 => ?_) ?_ ?_ ?_ ?_
        · rw [q9_count_count]
        · exact hx
        · rw [q9_starts_count, q9_starts_values, q9_starts_starts, q9_starts_kinds, ai_upd hn.1 j1]
          by_cases c : j = n
          · rw [if_pos c, up_e c]
          · rw [if_neg c, up_n c]
            exact (hrw j j1 (by omega)).2.1
        · rw [q9_kinds_count, q9_kinds_values, q9_kinds_starts, q9_kinds_kinds, q9_values_count, q9_values_values, q9_values_starts, q9_values_kinds, ai_upd hn.1 j1, ai_upd hn.1 j1, if_neg (by omega), if_neg (by omega), up_n (by omega), up_n (by omega)]
          have := hrw j j1 (by omega)
          exact ⟨this.1, this.2.2⟩
        · rw [e1, q9_kinds_count, q9_kinds_values, q9_kinds_starts, q9_kinds_kinds, ai_upd hn.1 hn.1, if_pos rfl]
          rfl
        · rw [e1, q9_values_count, q9_values_values, ai_upd hn.1 hn.1, if_pos rfl]
          rfl
        · rw [up_n (by omega), up_n (by omega), up_n (by omega)]
          exact hC.1 j j1 (by omega)
        · rw [e1]
          exact hC.2.1
        · rw [e1, up_s]
        · rw [e1, up_s]
        · rw [e1, up_s, up_s, up_s]
          exact PTok.new hC.2.2.1 hC.2.2.2 ct
      rcases hcase with ⟨b0, hC⟩ | ⟨hb1, hn1, hT1, hp1, hP⟩
      · obtain ⟨k, k1, k2, hk'⟩ := iI_of (pX9_kinds v (n - 1).toNat)
        have hg : ¬ gO b (sK (Z i)) (Z i) n k := fun g => ct (g.1.symm.trans b0)
        rw [(z_goesOnT hc hn.1 (by omega) (fun _ => hk') k1 k2 (by omega) (by omega) hk.1 hk.2 hb.1 hb.2).2 hg, bind_s, if_pos rfl]
        exact fresh p hp hC
      · have hse := hP.se
        have hps := hP.1
        have hB := hP.bd (hz (S (n - 1)) (by omega) (by omega))
        have hkk := (hrw (n - 1) (by omega) (by omega)).1
        have hvv := (hrw (n - 1) (by omega) (by omega)).2.2
        have hz' := z_goesOnT (b := b) (t := sK (Z i)) (c := Z i) hc hn.1 (by omega) (fun _ => hkk) (by omega) (by omega) (by omega) (by omega) hk.1 hk.2 hb.1 hb.2
        by_cases hg : gO b (sK (Z i)) (Z i) n (K (n - 1))
        · rw [hz'.1 hg, bind_s, if_neg (by decide)]
          refine last n p S (up K (n - 1) (xK (sK (Z i)) (Z i) (K (n - 1)) (V (n - 1)))) (up V (n - 1) (xV (sK (Z i)) (Z i) (V (n - 1)))) (K (n - 1)) (V (n - 1)) v (by omega) hc hx (fun j j1 j2 => (hrw j j1 j2).2.1) (fun j j1 j2 => ?_) hkk hvv hB.1 (fun c => hB.2.1 (hg.1.trans c)) (fun c => hB.2.2 (hg.1.trans c)) hp (fun j j1 j2 => ?_) hp1 (up_s _ _ _) (up_s _ _ _) ?_
          · rw [up_n (by omega), up_n (by omega)]
            have := hrw j j1 (by omega)
            exact ⟨this.1, this.2.2⟩
          · rw [up_n (by omega), up_n (by omega)]
            exact hT1 j j1 j2
          · rw [up_s, up_s]
            exact hP.ext hg
        · rw [hz'.2 hg, bind_s, if_pos rfl]
          obtain ⟨p', hp0, hC⟩ := hS'.close (by omega) (fun _ _ => hg)
          exact fresh p' hp0 hC
theorem z_split {f : Nat → Int32} {Z : Int → Int} {T : Int} (T0 : 0 ≤ T) (T3 : T ≤ 300) (hf : AI f Z T) (hz : ∀ k : Int, 0 ≤ k → k < T → 0 ≤ Z k ∧ Z k ≤ 255) (v : BX9) : Wp (f_X9_split 300 f v (iI T)) (fun r => ∃ (n : Int) (p S K V : Int → Int), TS Z T n p S K V ∧ CT r n S K V 0) := by
  unfold f_X9_split
  refine wp_lt (wp_lt ?_)
  refine z_splitLp T0 T3 hf hz T.toNat 0 0 0 (fun _ => 0) (fun _ => 0) (fun _ => 0) (fun _ => 0) _ (by omega) (by omega) ⟨by omega, rfl, rfl, fun j j1 j2 => by omega, rfl, Or.inl ⟨rfl, fun j j1 j2 => by omega, Int.le_refl 0, Int.le_refl 0, fun q q1 q2 => absurd (show (0 : Int) ≤ q from q1) (by omega)⟩⟩ fU (by rw [fU_v]; omega)
