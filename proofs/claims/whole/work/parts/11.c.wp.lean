-- layer 2: total correctness of the pure functions
def Wp {α : Type} (o : Option α) (Q : α → Prop) : Prop := ∃ a, o = some a ∧ Q a
theorem wp_some {α : Type} {a : α} {Q : α → Prop} (h : Q a) : Wp (some a) Q := ⟨a, rfl, h⟩
theorem wp_bind {α β : Type} {x : Option α} {k : α → Option β} {Q : β → Prop} (h : Wp x (fun a => Wp (k a) Q)) : Wp (x.bind k) Q := by
  obtain ⟨a, ha, b, hb, hq⟩ := h
  exact ⟨b, by rw [ha]; exact hb, hq⟩
theorem wp_bindS {α β : Type} {x : Option α} {k : α → Option β} {Q : β → Prop} {a : α} (hx : x = some a) (h : Wp (k a) Q) : Wp (x.bind k) Q := by
  subst hx
  exact h
theorem wp_mono {α : Type} {o : Option α} {P Q : α → Prop} (h : Wp o P) (hpq : ∀ a, P a → Q a) : Wp o Q := by
  obtain ⟨a, ha, hp⟩ := h
  exact ⟨a, ha, hpq a hp⟩
theorem wp_gd {α : Type} {c : Prop} [Decidable c] {k : Option α} {Q : α → Prop} (hc : c) (h : Wp k Q) : Wp (g_gd c k) Q := by rw [g_gdi hc]; exact h
theorem wp_lt {α β : Type} {e : α} {k : α → Option β} {Q : β → Prop} (h : Wp (k e) Q) : Wp (g_lt e k) Q := h
theorem wp_ite {α : Type} {c : Prop} [Decidable c] {a b : Option α} {Q : α → Prop} (h1 : c → Wp a Q) (h2 : ¬ c → Wp b Q) : Wp (if c then a else b) Q := by
  by_cases h : c
  · rw [if_pos h]; exact h1 h
  · rw [if_neg h]; exact h2 h
theorem wp_eq {α : Type} {o : Option α} {a : α} (h : Wp o (fun x => x = a)) : o = some a := by
  obtain ⟨b, hb, e⟩ := h
  rw [hb, e]
theorem wp_of {α : Type} {o : Option α} {a : α} (h : o = some a) : Wp o (fun x => x = a) := ⟨a, h, rfl⟩
/-- a loop: st says the state at a ghost value, P what holds there, m goes down -/
theorem wp_lp {σ τ ι : Type} {body : (σ → Option τ) → σ → Option τ} (st : ι → σ) (P : ι → Prop) (m : ι → Nat) {Q : τ → Prop}
    (step : ∀ (i : ι) (J : σ → Option τ), P i → (∀ j, P j → m j < m i → Wp (J (st j)) Q) → Wp (body J (st i)) Q) :
    ∀ (n : Nat) (i : ι), P i → m i < n → Wp (g_lp body n (st i)) Q
  | 0, _, _, h => absurd h (Nat.not_lt_zero _)
  | n + 1, i, hp, h => by
    rw [g_lps]
    exact step i (g_lp body n) hp (fun j hj hm => wp_lp st P m step n j hj (by omega))
theorem fU_v : fU = 1048576 := rfl
theorem iLit (n : Nat) : (OfNat.ofNat n : Int32) = iI (OfNat.ofNat n : Int) := (Int32.ofInt_eq_ofNat (n := n)).symm
theorem ai_upd {f : Nat → Int32} {a b : Int} {x : Int32} (ha : 0 ≤ a) (hb : 0 ≤ b) : upd f a.toNat x b.toNat = if b = a then x else f b.toNat := by
  unfold upd
  by_cases h : b = a
  · rw [if_pos h, if_pos (by rw [h])]
  · rw [if_neg h, if_neg (by omega)]
/-- an array holds these integers below n -/
def AI (f : Nat → Int32) (A : Int → Int) (n : Int) : Prop := ∀ k : Int, 0 ≤ k → k < n → f k.toNat = iI (A k)
theorem gd_t {α : Type} {c : Prop} [Decidable c] {k : Option α} (h : c) : g_gd c k = k := if_pos h
theorem lt_e {α β : Type} (e : α) (k : α → β) : g_lt e k = k e := rfl
theorem bind_s {α β : Type} (a : α) (k : α → Option β) : (some a).bind k = k a := rfl
theorem mul2_bd {t x : Int} (h1 : -2 ≤ x) (h2 : x ≤ 2) (h3 : 0 ≤ t) : -(2 * t) ≤ t * x ∧ t * x ≤ 2 * t := by
  have h4 : t * x ≤ t * 2 := Int.mul_le_mul_of_nonneg_left h2 h3
  have h5 : t * (-2) ≤ t * x := Int.mul_le_mul_of_nonneg_left h1 h3
  omega
theorem cell_bd {x y w h : Int} (h1 : 0 ≤ x) (h2 : x < w) (h3 : 0 ≤ y) (h4 : y < h) : 0 ≤ y * w ∧ 0 ≤ y * w + x ∧ y * w + x < w * h := by
  have h5 : 0 ≤ y * w := Int.mul_nonneg h3 (by omega)
  have h6 : (y + 1) * w ≤ h * w := Int.mul_le_mul_of_nonneg_right (by omega) (by omega)
  have h7 : (y + 1) * w = y * w + w := by rw [Int.add_mul, Int.one_mul]
  have h8 : h * w = w * h := Int.mul_comm h w
  omega
theorem wh_bd {w h : Int} (h1 : 4 ≤ w) (h2 : w ≤ 24) (h3 : 4 ≤ h) (h4 : h ≤ 24) : 16 ≤ w * h ∧ w * h ≤ 576 := by
  have h5 : w * h ≤ 24 * h := Int.mul_le_mul_of_nonneg_right h2 (by omega)
  have h6 : 4 * h ≤ w * h := Int.mul_le_mul_of_nonneg_right h1 (by omega)
  omega
theorem bd_ifI {α : Type} {p : Prop} [Decidable p] (a b : Option α) : (some (bI p)).bind (fun r => if r = iI 0 then a else b) = if p then b else a := bd_if a b
theorem bI_gd {α : Type} {p : Prop} [Decidable p] (k : Option α) : g_gd (bI p = iI 0 ∨ bI p = iI 1) k = k := g_gdi (bI_01 p)
theorem bI_0I {p : Prop} [Decidable p] : (bI p = iI 0) ↔ ¬ p := bI_0
