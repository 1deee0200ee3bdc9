-- layer 2: the class's tokens, a text's whole
def PTok (Z : Int → Int) (p s e k v b : Int) : Prop := p ≤ s ∧ (∀ i : Int, p ≤ i → i < s → isB (Z i)) ∧
  ((b = 2 ∧ s < e ∧ (∀ i : Int, s ≤ i → i < e → isD (Z i)) ∧ k = -3 ∧ v = nC Z s (e - s).toNat) ∨
   (b = 1 ∧ s < e ∧ (∀ i : Int, s ≤ i → i < e → isL (Z i)) ∧ v = wC Z s (e - s).toNat ∧ k = if 65 ≤ v ∧ v ≤ 72 then -4 else v) ∨
   (b = 3 ∧ e = s + 1 ∧ ¬ isB (Z s) ∧ ¬ isD (Z s) ∧ ¬ isL (Z s) ∧ k = Z s ∧ v = 0) ∨
   (b = 3 ∧ e = s + 2 ∧ Z (s + 1) = 61 ∧ ((Z s = 60 ∧ k = -5) ∨ (Z s = 62 ∧ k = -6)) ∧ v = 0))
theorem PTok.se {Z : Int → Int} {p s e k v b : Int} (h : PTok Z p s e k v b) : s < e := by
  obtain ⟨_, _, h | h | h | h⟩ := h
  · exact h.2.1
  · exact h.2.1
  · omega
  · omega
theorem PTok.close {Z : Int → Int} {T p s e k v b n : Int} (h : PTok Z p s e k v b) (eT : e ≤ T) (n0 : n ≠ 0) (hn : e < T → ¬ gO b (sK (Z e)) (Z e) n k) : Tok Z T p s e k v := by
  obtain ⟨h1, h2, h | h | h | h⟩ := h
  · obtain ⟨rfl, g1, g2, g3, g4⟩ := h
    exact ⟨h1, h2, Or.inr (Or.inl ⟨g1, eT, g2, fun c d => hn c ⟨(sK_D d).symm, n0, Or.inl (by rw [sK_D d]; omega)⟩, g3, g4⟩)⟩
  · obtain ⟨rfl, g1, g2, g3, g4⟩ := h
    exact ⟨h1, h2, Or.inr (Or.inr (Or.inl ⟨g1, eT, g2, fun c d => hn c ⟨(sK_L d).symm, n0, Or.inl (by rw [sK_L d]; omega)⟩, g3, g4⟩))⟩
  · obtain ⟨rfl, rfl, g2, g3, g4, g5, g6⟩ := h
    refine ⟨h1, h2, Or.inr (Or.inr (Or.inr (Or.inl ⟨by omega, rfl, g2, g3, g4, g5, fun c d e => hn d ⟨?_, n0, Or.inr ⟨e, ?_⟩⟩⟩)))⟩
    · rw [e]
      decide
    · rw [g5]
      exact c
  · obtain ⟨rfl, rfl, g2, g3, g4⟩ := h
    exact ⟨h1, h2, Or.inr (Or.inr (Or.inr (Or.inr ⟨by omega, rfl, g2, g3⟩)))⟩
theorem PTok.ext {Z : Int → Int} {p s e k v b n : Int} (h : PTok Z p s e k v b) (hg : gO b (sK (Z e)) (Z e) n k) : PTok Z p s (e + 1) (xK (sK (Z e)) (Z e) k v) (xV (sK (Z e)) (Z e) v) (sK (Z e)) := by
  obtain ⟨a1, a2, a3⟩ := hg
  rw [← a1] at a3 ⊢
  have hc : sK (Z e) = b := a1.symm
  obtain ⟨h1, h2, h | h | h | h⟩ := h
  · obtain ⟨rfl, g1, g2, g3, g4⟩ := h
    refine ⟨h1, h2, Or.inl ⟨rfl, by omega, fun i i1 i2 => ?_, rfl, ?_⟩⟩
    · by_cases c : i < e
      · exact g2 i i1 c
      · rw [show i = e by omega]
        exact sK_2 hc
    · rw [nC_s (by omega), ← g4]
      rfl
  · obtain ⟨rfl, g1, g2, g3, g4⟩ := h
    refine ⟨h1, h2, Or.inr (Or.inl ⟨rfl, by omega, fun i i1 i2 => ?_, ?_, rfl⟩)⟩
    · by_cases c : i < e
      · exact g2 i i1 c
      · rw [show i = e by omega]
        exact sK_1 hc
    · rw [wC_s (by omega), ← g3]
      rfl
  · obtain ⟨rfl, rfl, g2, g3, g4, g5, g6⟩ := h
    rcases a3 with a3 | ⟨a3, a4⟩
    · omega
    · refine ⟨h1, h2, Or.inr (Or.inr (Or.inr ⟨rfl, by omega, a3, ?_, g6⟩))⟩
      unfold xK
      rw [if_neg (by omega), if_neg (by omega), if_neg (by omega)]
      by_cases c : k = 60
      · rw [if_pos c]
        omega
      · rw [if_neg c]
        omega
  · omega
theorem PTok.new {Z : Int → Int} {p i : Int} (h1 : p ≤ i) (h2 : ∀ q : Int, p ≤ q → q < i → isB (Z q)) (h3 : sK (Z i) ≠ 0) : PTok Z p i (i + 1) (xK (sK (Z i)) (Z i) (-2) 0) (xV (sK (Z i)) (Z i) 0) (sK (Z i)) := by
  have hb := sK_bd (Z i)
  refine ⟨h1, h2, ?_⟩
  have e0 : i + 1 - i = 1 := by omega
  rcases (show sK (Z i) = 2 ∨ sK (Z i) = 1 ∨ sK (Z i) = 3 by omega) with c | c | c
  · rw [c]
    refine Or.inl ⟨rfl, by omega, fun q q1 q2 => ?_, rfl, ?_⟩
    · rw [show q = i by omega]
      exact sK_2 c
    · rw [nC_s (Int.le_refl i), Int.sub_self]
      rfl
  · rw [c]
    refine Or.inr (Or.inl ⟨rfl, by omega, fun q q1 q2 => ?_, ?_, rfl⟩)
    · rw [show q = i by omega]
      exact sK_1 c
    · rw [wC_s (Int.le_refl i), Int.sub_self]
      rfl
  · have := sK_3 c
    rw [c]
    exact Or.inr (Or.inr (Or.inl ⟨rfl, rfl, this.1, this.2.1, this.2.2, rfl, rfl⟩))
theorem nC_bd {Z : Int → Int} {s : Int} : ∀ (d : Nat), (∀ i : Int, s ≤ i → i < s + (d : Int) → isD (Z i)) → 0 ≤ nC Z s d ∧ nC Z s d ≤ 10000 := by
  intro d
  induction d with
  | zero =>
    intro _
    unfold nC
    omega
  | succ d ih =>
    intro h
    have h1 := ih (fun i i1 i2 => h i i1 (by omega))
    have h2 := h (s + (d : Int)) (by omega) (by omega)
    unfold isD at h2
    unfold nC
    split <;> omega
theorem wC_wd {Z : Int → Int} {s : Int} : ∀ (d : Nat), (∀ i : Int, s ≤ i → i < s + (d : Int) → isL (Z i)) → ∃ w, WdR (d : Int) (wC Z s d) w := by
  intro d
  induction d with
  | zero =>
    intro _
    exact ⟨0, by omega, Or.inl ⟨rfl, rfl, rfl⟩⟩
  | succ d ih =>
    intro h
    obtain ⟨w, h1⟩ := ih (fun i i1 i2 => h i i1 (by omega))
    have h2 := h (s + (d : Int)) (by omega) (by omega)
    unfold isL at h2
    have h3 : 65 ≤ Z (s + (d : Int)) ∧ Z (s + (d : Int)) ≤ 122 := by omega
    by_cases c : (d : Int) < 6
    · exact ⟨_, h1.step c h3.1 h3.2⟩
    · exact ⟨_, h1.far (by omega)⟩
theorem WdR.v_bd {j v w : Int} (h : WdR j v w) : -2 ≤ v ∧ v < 2147483648 ∧ (v < 8388608 ∨ 16777215 < v) := by
  obtain ⟨h0, h | h | h | h | h | h | h⟩ := h <;> omega
theorem PTok.bd {Z : Int → Int} {p s e k v b : Int} (h : PTok Z p s e k v b) (hz : 0 ≤ Z s ∧ Z s ≤ 255) : ((-6 ≤ k ∧ k < 2147483648) ∧ -2 ≤ v ∧ v < 2147483648) ∧ (b = 2 → 0 ≤ v ∧ v ≤ 10000) ∧ (b = 1 → v < 8388608 ∨ 16777215 < v) := by
  obtain ⟨h1, h2, h | h | h | h⟩ := h
  · obtain ⟨g0, g1, g2, g3, g4⟩ := h
    have := nC_bd (Z := Z) (s := s) (e - s).toNat (fun i i1 i2 => g2 i i1 (by omega))
    omega
  · obtain ⟨g0, g1, g2, g3, g4⟩ := h
    obtain ⟨w, hw⟩ := wC_wd (Z := Z) (s := s) (e - s).toNat (fun i i1 i2 => g2 i i1 (by omega))
    have hv := hw.v_bd
    rw [← g3] at hv
    refine ⟨⟨?_, by omega⟩, by omega, fun _ => hv.2.2⟩
    rw [g4]
    split <;> omega
  · omega
  · omega
/-- n whole tokens; from p n to i nothing but blanks -/
def CL (Z : Int → Int) (T i n : Int) (p S K V : Int → Int) : Prop := (∀ j : Int, 0 ≤ j → j < n → 0 ≤ p j ∧ S j < T ∧ Tok Z T (p j) (S j) (p (j + 1)) (K j) (V j)) ∧ 0 ≤ p n ∧ p n ≤ i ∧ ∀ q : Int, p n ≤ q → q < i → isB (Z q)
def RW9 (v : BX9) (n : Int) (S K V : Int → Int) : Prop := ∀ j : Int, 0 ≤ j → j < n → pX9_kinds v j.toNat = iI (K j) ∧ pX9_starts v j.toNat = iI (S j) ∧ pX9_values v j.toNat = iI (V j)
def SI (Z : Int → Int) (T i n b : Int) (p S K V : Int → Int) (v : BX9) : Prop := (0 ≤ n ∧ n ≤ i) ∧ pX9_count v = iI n ∧ pX9_next v = iI 0 ∧ RW9 v n S K V ∧ p 0 = 0 ∧
  ((b = 0 ∧ CL Z T i n p S K V) ∨
   ((1 ≤ b ∧ b ≤ 3) ∧ 1 ≤ n ∧ (∀ j : Int, 0 ≤ j → j < n - 1 → 0 ≤ p j ∧ S j < T ∧ Tok Z T (p j) (S j) (p (j + 1)) (K j) (V j)) ∧ 0 ≤ p (n - 1) ∧ PTok Z (p (n - 1)) (S (n - 1)) i (K (n - 1)) (V (n - 1)) b))
theorem SI.close {Z : Int → Int} {T i n b : Int} {p S K V : Int → Int} {v : BX9} (h : SI Z T i n b p S K V v) (iT : i ≤ T) (hn : b ≠ 0 → i < T → ¬ gO b (sK (Z i)) (Z i) n (K (n - 1))) : ∃ p', p' 0 = 0 ∧ CL Z T i n p' S K V := by
  obtain ⟨h1, h2, h3, h4, h5, ⟨h6, h7⟩ | ⟨h6, h7, h8, h9, h10⟩⟩ := h
  · exact ⟨p, h5, h7⟩
  · have se := h10.se
    have ps := h10.1
    refine ⟨up p n i, by rw [up_n (by omega)]; exact h5, fun j j1 j2 => ?_, by rw [up_s]; omega, by rw [up_s]; omega, fun q q1 q2 => by rw [up_s] at q1; omega⟩
    by_cases c : j < n - 1
    · rw [up_n (by omega), up_n (by omega)]
      exact h8 j j1 c
    · rw [show j = n - 1 by omega, up_n (by omega), up_e (by omega)]
      exact ⟨h9, by omega, h10.close iT (by omega) (hn (by omega))⟩
