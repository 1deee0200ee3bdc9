-- layer 2: a clause more
theorem FrE.mj {D : PD} {m r : BX12} {j : Int} (h : MJ D m j) (f : FrE m r) : MJ D r j := by
  obtain ⟨h1, h2, h3, h4, h5, h6⟩ := h
  exact ⟨⟨h1.1, f.taped.trans h1.2.1, by rw [f.tape]; exact h1.2.2.1, h1.2.2.2⟩, h2, h3, f.at.trans h4, f.place.trans h5, h6.cg f.token f.number f.word⟩
theorem FrE.v {m r : BX12} (h : FrE m r) : FrV m r := ⟨h.w, h.h, h.taped, h.fault, h.faultPlace, h.a, h.image, h.tape⟩
theorem FrQ.v {m r : BX12} (h : FrQ m r) : FrV m r := ⟨h.w, h.h, h.taped, h.fault, h.faultPlace, h.a, h.image, h.tape⟩
theorem FrK.v {m r : BX12} (h : FrK m r) : FrV m r := ⟨h.w, h.h, h.taped, h.fault, h.faultPlace, h.a, h.image, h.tape⟩
def soS (k : Int) : Int := if k = 7103860 then 1 else if k = 1953854062 then 2 else if k = 26479 then 3 else if k = 1919251316 then 4 else 0
theorem z_clSort {m : BX12} {k v : Int} (h : TKM m k v) : f_X12_sortOf m = some (iI (soS k)) := by
  have hw : ∀ W : Int, 300 ≤ W → W < 2147483648 → pX12_token m = 2 → (lg_cmp (pX12_word m) (lI W) = 0 ↔ k = W) := by
    intro W w1 w2 ht
    have hw := z_isWord h (W := W) w1 w2
    unfold f_X12_isWord at hw
    rw [if_pos ht] at hw
    by_cases d : lg_cmp (pX12_word m) (lI W) = 0
    · rw [if_pos d] at hw
      by_cases e : k = W
      · exact ⟨fun _ => e, fun _ => d⟩
      · rw [bI_f e] at hw
        exact absurd (Option.some.inj hw) (by decide)
    · rw [if_neg d] at hw
      by_cases e : k = W
      · rw [bI_t e] at hw
        exact absurd (Option.some.inj hw) (by decide)
      · exact ⟨fun x => absurd x d, fun x => absurd x e⟩
  unfold f_X12_sortOf soS
  by_cases c : pX12_token m = 2
  · rw [if_pos c, w_let, bind_s]
    by_cases c1 : k = 7103860
    · rw [if_pos ((hw _ (by omega) (by omega) c).mpr c1), if_pos c1]; rfl
    rw [if_neg (fun x => c1 ((hw _ (by omega) (by omega) c).mp x)), if_neg c1, w_turn, bind_s]
    by_cases c2 : k = 1953854062
    · rw [if_pos ((hw _ (by omega) (by omega) c).mpr c2), if_pos c2]; rfl
    rw [if_neg (fun x => c2 ((hw _ (by omega) (by omega) c).mp x)), if_neg c2]
    by_cases c3 : k = 26479
    · rw [if_pos (show lg_cmp (pX12_word m) 26479 = 0 from (hw 26479 (by omega) (by omega) c).mpr c3), if_pos c3]; rfl
    rw [if_neg (show ¬ lg_cmp (pX12_word m) 26479 = 0 from fun x => c3 ((hw 26479 (by omega) (by omega) c).mp x)), if_neg c3, w_rest, bind_s]
    by_cases c4 : k = 1919251316
    · rw [if_pos ((hw _ (by omega) (by omega) c).mpr c4), if_pos c4]; rfl
    rw [if_neg (fun x => c4 ((hw _ (by omega) (by omega) c).mp x)), if_neg c4]
    rfl
  · have := h.not2 c
    rw [if_neg c, if_neg (by omega), if_neg (by omega), if_neg (by omega), if_neg (by omega)]
    rfl
theorem z_clauseOp {k : Int} (kb : -6 ≤ k ∧ k < 2147483648) : f_X4_clauseOperation (iI k) = some (iI (if soS k = 0 then -1 else 20 + soS k)) := by
  unfold f_X4_clauseOperation
  by_cases c1 : k = 26479
  · rw [c1]; rfl
  by_cases c2 : k = 7103860
  · rw [c2]; rfl
  by_cases c3 : k = 1919251316
  · rw [c3]; rfl
  by_cases c4 : k = 1953854062
  · rw [c4]; rfl
  rw [if_neg (show ¬ iI k = 26479 from iI_ne (b := 26479) (by omega) (by omega) (by omega) (by omega) c1), if_neg (show ¬ iI k = 7103860 from iI_ne (b := 7103860) (by omega) (by omega) (by omega) (by omega) c2), if_neg (show ¬ iI k = 1919251316 from iI_ne (b := 1919251316) (by omega) (by omega) (by omega) (by omega) c3), if_neg (show ¬ iI k = 1953854062 from iI_ne (b := 1953854062) (by omega) (by omega) (by omega) (by omega) c4)]
  have : soS k = 0 := by
    unfold soS
    rw [if_neg c2, if_neg c4, if_neg c1, if_neg c3]
  rw [if_pos this]
  rfl
theorem soS_bd (k : Int) : soS k = 0 ∨ (k ≠ -1 ∧ (soS k = 1 ∨ soS k = 2 ∨ soS k = 3 ∨ soS k = 4)) := by
  unfold soS
  split
  · omega
  · split
    · omega
    · split
      · omega
      · split <;> omega
/-- which clauses came -/
def uW3 (a2 a3 a4 : Bool) : Int32 := (if a2 then 4194304 else 0) + (if a3 then 8388608 else 0) + (if a4 then 16777216 else 0)
def cW4 (a1 a2 a3 a4 : Bool) : Int32 := (if a1 then 2 else 0) + (if a2 then 4 else 0) + (if a3 then 8 else 0) + (if a4 then 16 else 0)
def uW (a : Int → Bool) : Int32 := uW3 (a 2) (a 3) (a 4)
def cW (a : Int → Bool) : Int32 := cW4 (a 1) (a 2) (a 3) (a 4)
def upB (a : Int → Bool) (s : Int) : Int → Bool := fun k => if k = s then true else a k
theorem uW_bit (a : Int → Bool) {s : Int} (h : s = 2 ∨ s = 3 ∨ s = 4) : ((uW a >>> (iI (20 + s) &&& 31)) &&& 1) = if a s then 1 else 0 := by
  unfold uW
  rcases h with h | h | h <;> rw [h] <;> cases a 2 <;> cases a 3 <;> cases a 4 <;> decide
theorem uW_or (a : Int → Bool) {s : Int} (h : s = 2 ∨ s = 3 ∨ s = 4) : (uW a ||| ((1 : Int32) <<< (iI (20 + s) &&& 31))) = uW (upB a s) := by
  unfold uW upB
  rcases h with h | h | h <;> rw [h] <;> cases a 2 <;> cases a 3 <;> cases a 4 <;> decide
theorem cW_bit (a : Int → Bool) {s : Int} (h : s = 1 ∨ s = 2 ∨ s = 3 ∨ s = 4) : ((cW a >>> (iI s &&& 31)) &&& 1) = if a s then 1 else 0 := by
  unfold cW
  rcases h with h | h | h | h <;> rw [h] <;> cases a 1 <;> cases a 2 <;> cases a 3 <;> cases a 4 <;> decide
theorem cW_or (a : Int → Bool) {s : Int} (h : s = 1 ∨ s = 2 ∨ s = 3 ∨ s = 4) : (cW a ||| ((1 : Int32) <<< (iI s &&& 31))) = cW (upB a s) := by
  unfold cW upB
  rcases h with h | h | h | h <;> rw [h] <;> cases a 1 <;> cases a 2 <;> cases a 3 <;> cases a 4 <;> decide
theorem uW_1 (a : Int → Bool) : uW (upB a 1) = uW a := by
  unfold uW upB
  rfl
/-- letters told -/
theorem or_and1 {a b : Int32} (h : b &&& 1 = 0) : (a ||| b) &&& 1 = a &&& 1 := by
  apply Int32.toBitVec_inj.mp
  have h' : b.toBitVec &&& 1#32 = 0#32 := congrArg Int32.toBitVec h
  show (a.toBitVec ||| b.toBitVec) &&& 1#32 = a.toBitVec &&& 1#32
  apply BitVec.eq_of_getLsbD_eq
  intro i hi
  have h2 := congrArg (fun z => z.getLsbD i) h'
  simp only [BitVec.getLsbD_and, BitVec.getLsbD_or, BitVec.getLsbD_zero] at h2 ⊢
  revert h2
  cases a.toBitVec.getLsbD i <;> cases b.toBitVec.getLsbD i <;> cases (1#32).getLsbD i <;> decide
theorem bitK_or {x : Int32} {l k : Int} (l1 : 0 ≤ l) (l2 : l < 8) (k1 : 0 ≤ k) (k2 : k < 8) (h : bitK (x ||| ((1 : Int32) <<< (iI l &&& 31))) k = true) : k = l ∨ bitK x k = true := by
  by_cases c : k = l
  · exact Or.inl c
  · refine Or.inr ?_
    unfold bitK at h ⊢
    have e : (((1 : Int32) <<< (iI l &&& 31)) >>> (iI k &&& 31)) &&& 1 = 0 := by
      have hl : l = 0 ∨ l = 1 ∨ l = 2 ∨ l = 3 ∨ l = 4 ∨ l = 5 ∨ l = 6 ∨ l = 7 := by omega
      have hk : k = 0 ∨ k = 1 ∨ k = 2 ∨ k = 3 ∨ k = 4 ∨ k = 5 ∨ k = 6 ∨ k = 7 := by omega
      rcases hl with e | e | e | e | e | e | e | e <;> subst e <;> rcases hk with e | e | e | e | e | e | e | e <;> subst e <;> first | decide | exact absurd rfl c
    rw [Int32.shiftRight_or, or_and1 e] at h
    exact h
theorem Sh_mono {K K' : Int → Bool} (hK : ∀ v : Int, 0 ≤ v → v < 8 → K v = true → K' v = true) : ∀ (l : OpL) (nv nb a b : Int), Sh K l nv nb a b → Sh K' l nv nb a b
  | [], _, _, _, _, h => h
  | (o, v) :: r, nv, nb, a, b, h => by
    obtain ⟨x, y, h1, h2⟩ := h
    refine ⟨x, y, ?_, Sh_mono hK r x y a b h2⟩
    rcases h1 with ⟨h1, g⟩ | h1
    · refine Or.inl ⟨?_, g⟩
      rcases h1 with h1 | ⟨e1, e2, e3, e4⟩ | h1
      · exact Or.inl h1
      · exact Or.inr (Or.inl ⟨e1, e2, e3, hK v e2 e3 e4⟩)
      · exact Or.inr (Or.inr h1)
    · exact Or.inr h1
def tolds : Prog → (Int → Bool) → Int → Bool
  | [], K => K
  | (s, l, _) :: r, K => tolds r (if s = 1 then (fun k => if k = l then true else K k) else K)
theorem tolds_a : ∀ (p : Prog) (s l : Int) (ops : OpL) (K : Int → Bool), tolds (p ++ [(s, l, ops)]) K = if s = 1 then (fun k => if k = l then true else tolds p K k) else tolds p K
  | [], _, _, _, _ => rfl
  | (s0, l0, o0) :: r, s, l, ops, K => tolds_a r s l ops (if s0 = 1 then (fun k => if k = l0 then true else K k) else K)
theorem WF_a : ∀ (p : Prog) (cl : Int × Int × OpL) (K : Int → Bool), WF p K → WF [cl] (tolds p K) → WF (p ++ [cl]) K
  | [], _, _, _, h => h
  | (s, l, ops) :: r, cl, K, h, g => by
    rcases h with ⟨h1, h2, h3, h4⟩ | ⟨h1, h2, h3, h4⟩ | ⟨h1, h2, h3, h4⟩
    · refine Or.inl ⟨h1, h2, h3, WF_a r cl _ h4 ?_⟩
      have e : tolds ((s, l, ops) :: r) K = tolds r (fun k => if k = l then true else K k) := by
        show tolds r (if s = 1 then (fun k => if k = l then true else K k) else K) = _
        rw [if_pos h1]
      rw [← e]
      exact g
    · refine Or.inr (Or.inl ⟨h1, h2, h3, WF_a r cl _ h4 ?_⟩)
      have e : tolds ((s, l, ops) :: r) K = tolds r K := by
        show tolds r (if s = 1 then (fun k => if k = l then true else K k) else K) = _
        rw [if_neg (by omega)]
      rw [← e]
      exact g
    · refine Or.inr (Or.inr ⟨h1, h2, h3, WF_a r cl _ h4 ?_⟩)
      have e : tolds ((s, l, ops) :: r) K = tolds r K := by
        show tolds r (if s = 1 then (fun k => if k = l then true else K k) else K) = _
        rw [if_neg (by omega)]
      rw [← e]
      exact g
theorem pOps_a : ∀ (p : Prog) (s l : Int) (ops : OpL), pOps (p ++ [(s, l, ops)]) = pOps p + oLen ops
  | [], s, l, ops => by
    show oLen ops + 0 = 0 + oLen ops
    omega
  | (s0, l0, o0) :: r, s, l, ops => by
    show oLen o0 + pOps (r ++ [(s, l, ops)]) = oLen o0 + pOps r + oLen ops
    rw [pOps_a r s l ops]
    omega
theorem pLen_a (p : Prog) (s l : Int) (ops : OpL) : ((pLen (p ++ [(s, l, ops)]) : Nat) : Int) = (pLen p : Int) + oLen ops + 1 := by
  rw [pLen_v, pLen_v, pOps_a, List.length_append]
  show _ = pOps p + (p.length : Int) + oLen ops + 1
  have : ([(s, l, ops)] : Prog).length = 1 := rfl
  omega
theorem LayT_a {texts : Nat → Int32} {b : Int} : ∀ (p : Prog) (cl : Int × Int × OpL) (c i : Int), LayT texts b p c i → LayT texts b [cl] (c + (p.length : Int)) (i + pOps p) → LayT texts b (p ++ [cl]) c i
  | [], cl, c, i, _, h => by
    rw [show c + (([] : Prog).length : Int) = c by show c + 0 = c; omega, show i + pOps [] = i by show i + 0 = i; omega] at h
    exact h
  | (s, l, ops) :: r, cl, c, i, h, g => by
    obtain ⟨h1, h2, h3, h4, h5, h6⟩ := h
    refine ⟨h1, h2, h3, h4, h5, LayT_a r cl (c + 1) (i + oLen ops) h6 ?_⟩
    rw [show c + (((s, l, ops) :: r : Prog).length : Int) = c + 1 + (r.length : Int) by rw [List.length_cons]; omega, show i + pOps ((s, l, ops) :: r) = i + oLen ops + pOps r by show i + (oLen ops + pOps r) = _; omega] at g
    exact g
theorem LayC_a {code : Nat → Int32} : ∀ (p : Prog) (cl : Int × Int × OpL) (j : Int), LayC code p j → LayC code [cl] (j + (pLen p : Int)) → LayC code (p ++ [cl]) j
  | [], cl, j, _, h => by
    rw [show j + ((pLen [] : Nat) : Int) = j by show j + 0 = j; omega] at h
    exact h
  | (s, l, ops) :: r, cl, j, h, g => by
    obtain ⟨h1, h2, h3⟩ := h
    refine ⟨h1, h2, LayC_a r cl _ h3 ?_⟩
    rw [show j + ((pLen ((s, l, ops) :: r) : Nat) : Int) = j + oLen ops + 1 + (pLen r : Int) by show j + ((ops.length + 1 + pLen r : Nat) : Int) = j + (ops.length : Int) + 1 + (pLen r : Int); omega] at g
    exact g
theorem LayO_cg2 {t t' : Nat → Int32} {d : Int} : ∀ (l : OpL) (i : Int), (∀ k : Int, d + 2 * i ≤ k → k < d + 2 * (i + oLen l) → t' k.toNat = t k.toNat) → LayO t d l i → LayO t' d l i
  | [], _, _, _ => trivial
  | (o, v) :: r, i, hk, h => by
    obtain ⟨h1, h2, h3⟩ := h
    have hn := oLen_nn r
    have hc := oLen_c (o, v) r
    refine ⟨?_, ?_, LayO_cg2 r (i + 1) (fun k k1 k2 => hk k (by omega) (by omega)) h3⟩
    · rw [hk _ (by omega) (by omega)]
      exact h1
    · rw [hk _ (by omega) (by omega)]
      exact h2
theorem LayT_cg {t t' : Nat → Int32} {b : Int} (b0 : 0 ≤ b) : ∀ (p : Prog) (c i : Int), 0 ≤ c → 0 ≤ i → (∀ k : Int, 0 ≤ k → ((b + 1 ≤ k ∧ k < b + 1 + 4 * (c + (p.length : Int))) ∨ (b + 80 ≤ k ∧ k < b + 80 + 2 * (i + pOps p))) → t' k.toNat = t k.toNat) → LayT t b p c i → LayT t' b p c i
  | [], _, _, _, _, _, _ => trivial
  | (s, l, ops) :: r, c, i, c0, i0, hk, h => by
    obtain ⟨h1, h2, h3, h4, h5, h6⟩ := h
    have hn := oLen_nn ops
    have hp := pOps_nn r
    have e1 : (((s, l, ops) :: r : Prog).length : Int) = (r.length : Int) + 1 := by rw [List.length_cons]; omega
    have e2 : pOps ((s, l, ops) :: r) = oLen ops + pOps r := rfl
    refine ⟨?_, fun g => ?_, ?_, ?_, ?_, LayT_cg b0 r (c + 1) (i + oLen ops) (by omega) (by omega) (fun k k1 k2 => hk k k1 (by omega)) h6⟩
    · rw [hk _ (by omega) (by omega)]
      exact h1
    · rw [hk _ (by omega) (by omega)]
      exact h2 g
    · rw [hk _ (by omega) (by omega)]
      exact h3
    · rw [hk _ (by omega) (by omega)]
      exact h4
    · exact LayO_cg2 ops i (fun k k1 k2 => hk k (by omega) (by omega)) h5
theorem LayC_cg {t t' : Nat → Int32} : ∀ (p : Prog) (j : Int), 0 ≤ j → (∀ k : Int, 0 ≤ k → k < j + (pLen p : Int) → t' k.toNat = t k.toNat) → LayC t p j → LayC t' p j
  | [], _, _, _, _ => trivial
  | (s, l, ops) :: r, j, j0, hk, h => by
    obtain ⟨h1, h2, h3⟩ := h
    have hn := oLen_nn ops
    have e : ((pLen ((s, l, ops) :: r) : Nat) : Int) = oLen ops + 1 + (pLen r : Int) := by show ((ops.length + 1 + pLen r : Nat) : Int) = (ops.length : Int) + 1 + (pLen r : Int); omega
    refine ⟨LayK_cg ops j j0 (fun k k1 k2 => hk k k1 (by omega)) h1, ?_, LayC_cg r _ (by omega) (fun k k1 k2 => hk k k1 (by omega)) h3⟩
    rw [hk _ (by omega) (by omega)]
    exact h2
