-- layer 2: the class's tokens
def sK (c : Int) : Int := if isB c then 0 else if isL c then 1 else if isD c then 2 else 3
theorem z_sortOf {c : Int} (c1 : 0 ≤ c) (c2 : c ≤ 255) : f_X9_sortOf (iI c) = some (iI (sK c)) := by
  unfold f_X9_sortOf sK
  simp (disch := omega) only [iLit, sz_isWithin, bind_s, bI_0I, ite_not, iI_eq]
  unfold isB isL isD
  by_cases h1 : c = 32
  · rw [if_pos h1, if_pos (Or.inl h1)]
  · rw [if_neg h1]
    by_cases h2 : c = 10
    · rw [if_pos h2, if_pos (Or.inr h2)]
    · rw [if_neg h2, if_neg (show ¬ (c = 32 ∨ c = 10) by omega)]
      by_cases h3 : 97 ≤ c ∧ c ≤ 122
      · rw [if_pos h3, if_pos (Or.inl h3)]
      · rw [if_neg h3]
        by_cases h4 : 65 ≤ c ∧ c ≤ 90
        · rw [if_pos h4, if_pos (Or.inr h4)]
        · rw [if_neg h4, if_neg (show ¬ ((97 ≤ c ∧ c ≤ 122) ∨ (65 ≤ c ∧ c ≤ 90)) by omega)]
          by_cases h5 : 48 ≤ c ∧ c ≤ 57
          · rw [if_pos h5, if_pos h5]
          · rw [if_neg h5, if_neg h5]
theorem sK_bd (c : Int) : 0 ≤ sK c ∧ sK c ≤ 3 := by
  unfold sK
  split
  · omega
  · split
    · omega
    · split <;> omega
theorem sK_0 {c : Int} (h : sK c = 0) : isB c := by
  unfold sK at h
  split at h
  · assumption
  · split at h
    · omega
    · split at h <;> omega
theorem sK_1 {c : Int} (h : sK c = 1) : isL c := by
  unfold sK at h
  split at h
  · omega
  · split at h
    · assumption
    · split at h <;> omega
theorem sK_2 {c : Int} (h : sK c = 2) : isD c := by
  unfold sK at h
  split at h
  · omega
  · split at h
    · omega
    · split at h
      · assumption
      · omega
theorem sK_3 {c : Int} (h : sK c = 3) : ¬ isB c ∧ ¬ isD c ∧ ¬ isL c := by
  unfold sK at h
  split at h
  · omega
  · split at h
    · omega
    · split at h
      · omega
      · exact ⟨by assumption, by assumption, by assumption⟩
theorem sK_L {c : Int} (h : isL c) : sK c = 1 := by
  unfold sK
  rw [if_neg (by unfold isL at h; unfold isB; omega), if_pos h]
theorem sK_D {c : Int} (h : isD c) : sK c = 2 := by
  unfold sK
  rw [if_neg (by unfold isD at h; unfold isB; omega), if_neg (by unfold isD at h; unfold isL; omega), if_pos h]
def gO (b t c n k : Int) : Prop := b = t ∧ n ≠ 0 ∧ (t ≠ 3 ∨ (c = 61 ∧ (k = 60 ∨ k = 62)))
theorem z_goesOnT {v : BX9} {n k b t c : Int} (hn : pX9_count v = iI n) (n1 : 0 ≤ n) (n2 : n ≤ 300) (hk : n ≠ 0 → pX9_kinds v (n - 1).toNat = iI k) (k1 : -2147483648 ≤ k) (k2 : k < 2147483648) (b1 : 0 ≤ b) (b2 : b ≤ 3) (t1 : 0 ≤ t) (t2 : t ≤ 3) (c1 : 0 ≤ c) (c2 : c ≤ 255) :
    (gO b t c n k → f_X9_goesOn v (iI b) (iI t) (iI c) = some 1) ∧ (¬ gO b t c n k → f_X9_goesOn v (iI b) (iI t) (iI c) = some 0) := by
  unfold f_X9_goesOn gO
  rw [hn]
  simp (disch := omega) only [iLit, iI_eq, iI_sub, lt_e, iI_inB]
  by_cases h1 : b = t
  · rw [if_pos h1]
    by_cases h2 : n = 0
    · rw [if_pos h2]
      exact ⟨fun h => absurd h2 h.2.1, fun _ => rfl⟩
    · rw [if_neg h2, gd_t (by omega), iI_cl (by omega) (by omega), hk h2]
      simp (disch := omega) only [iI_eq]
      by_cases h3 : t = 3
      · rw [if_pos h3]
        by_cases h4 : c = 61
        · rw [if_pos h4]
          by_cases h5 : k = 60
          · rw [if_pos h5]
            exact ⟨fun _ => rfl, fun h => absurd ⟨h1, h2, Or.inr ⟨h4, Or.inl h5⟩⟩ h⟩
          · rw [if_neg h5]
            by_cases h6 : k = 62
            · rw [if_pos h6]
              exact ⟨fun _ => rfl, fun h => absurd ⟨h1, h2, Or.inr ⟨h4, Or.inr h6⟩⟩ h⟩
            · rw [if_neg h6]
              exact ⟨fun h => by omega, fun _ => rfl⟩
        · rw [if_neg h4]
          exact ⟨fun h => by omega, fun _ => rfl⟩
      · rw [if_neg h3]
        exact ⟨fun _ => rfl, fun h => absurd ⟨h1, h2, Or.inl h3⟩ h⟩
  · rw [if_neg h1]
    exact ⟨fun h => absurd h.1 h1, fun _ => rfl⟩
def xV (t c x : Int) : Int := if t = 2 then (if x * 10 + c - 48 < 10000 then x * 10 + c - 48 else 10000) else if t = 1 then (if x < 0 ∨ 16777215 < x then -2 else x * 256 + c) else x
def xK (t c k x : Int) : Int := if t = 2 then -3 else if t = 1 then (if 65 ≤ xV t c x ∧ xV t c x ≤ 72 then -4 else xV t c x) else if k = -2 then c else if k = 60 then -5 else -6
/-- behind a byte only the last row's kind and value are other -/
def XT (v r : BX9) (q k x : Int) : Prop := (pX9_count r = pX9_count v ∧ pX9_next r = pX9_next v ∧ pX9_starts r = pX9_starts v) ∧ (∀ j : Int, 0 ≤ j → j ≠ q → pX9_kinds r j.toNat = pX9_kinds v j.toNat ∧ pX9_values r j.toNat = pX9_values v j.toNat) ∧ pX9_kinds r q.toNat = iI k ∧ pX9_values r q.toNat = iI x
theorem XT.of {v : BX9} {q k x : Int} (q0 : 0 ≤ q) {r : BX9} (h1 : pX9_count r = pX9_count v ∧ pX9_next r = pX9_next v ∧ pX9_starts r = pX9_starts v) (h2 : pX9_kinds r = upd (pX9_kinds v) q.toNat (iI k)) (h3 : pX9_values r = upd (pX9_values v) q.toNat (iI x)) : XT v r q k x := by
  refine ⟨h1, fun j j0 jq => ?_, ?_, ?_⟩
  · rw [h2, h3, ai_upd q0 j0, ai_upd q0 j0, if_neg jq, if_neg jq]
    exact ⟨rfl, rfl⟩
  · rw [h2, ai_upd q0 q0, if_pos rfl]
  · rw [h3, ai_upd q0 q0, if_pos rfl]
theorem upd_self {f : Nat → Int32} {q : Int} {x : Int32} (h : f q.toNat = x) : upd f q.toNat x = f := by
  funext j
  unfold upd
  split
  · rename_i e
    rw [← h, e]
  · rfl
theorem z_extend {v : BX9} {n t c k x : Int} (hn : pX9_count v = iI n) (n1 : 1 ≤ n) (n2 : n ≤ 300) (t1 : 1 ≤ t) (t2 : t ≤ 3) (c1 : 0 ≤ c) (c2 : c ≤ 127 ∨ (t = 3 ∧ c ≤ 255)) (hk : pX9_kinds v (n - 1).toNat = iI k) (hx : pX9_values v (n - 1).toNat = iI x) (k1 : -6 ≤ k) (k2 : k < 2147483648) (x1 : -2 ≤ x) (x2 : x < 2147483648) (x3 : t = 2 → 0 ≤ x ∧ x ≤ 10000 ∧ 48 ≤ c) (x4 : t = 1 → x < 8388608 ∨ 16777215 < x) : Wp (f_X9_extend v (iI t) (iI c)) (fun r => XT v r (n - 1) (xK t c k x) (xV t c x)) := by
  unfold f_X9_extend
  rw [hn, show (1 : Int32) = iI 1 from rfl, iI_sub, if_neg (show ¬ iI n = 0 from iI_ne (b := 0) (by omega) (by omega) (by omega) (by omega) (by omega))]
  refine wp_lt ?_
  have hin : inB (iI (n - 1)) 301 := (iI_inB (by omega) (by omega)).mpr (by omega)
  have hcl : (iI (n - 1)).toNatClampNeg = (n - 1).toNat := iI_cl (by omega) (by omega)
  by_cases h2 : t = 2
  · rw [if_pos (show iI t = 2 by rw [h2]; rfl)]
    obtain ⟨y1, y2, y3⟩ := x3 h2
    refine wp_lt (wp_gd hin (wp_lt (wp_gd hin (wp_lt (wp_gd hin (wp_lt (wp_some ?_)))))))
    rw [hcl, q9_values_kinds, hx]
    refine XT.of (by omega) ⟨rfl, rfl, rfl⟩ ?_ ?_
    · rw [q9_kinds_values, q9_kinds_kinds]
      unfold xK
      rw [if_pos h2]
      rfl
    · rw [q9_values_values]
      congr 1
      simp (disch := omega) only [iLit, iI_mul, iI_add, iI_sub, iI_lt]
      unfold xV
      rw [if_pos h2]
      split
      · rfl
      · rfl
  · rw [if_neg (show ¬ iI t = 2 from iI_ne (b := 2) (by omega) (by omega) (by omega) (by omega) (by omega))]
    by_cases h1 : t = 1
    · have hxv : -2 ≤ xV t c x ∧ xV t c x < 2147483648 := by
        unfold xV
        rw [if_neg h2, if_pos h1]
        have := x4 h1
        split <;> omega
      have key : Wp (f_X9_extend_b116 (iI (n - 1)) (iI (n - 1)) (iI (xV t c x)) v) (fun r => XT v r (n - 1) (xK t c k x) (xV t c x)) := by
        unfold f_X9_extend_b116 f_X9_extend_b149
        refine wp_gd hin (wp_lt (wp_gd hin ?_))
        rw [hcl, q9_values_values, ai_upd (by omega) (by omega), if_pos rfl]
        rw [show f_X11_isWithin (iI (xV t c x)) 65 72 = some (bI (65 ≤ xV t c x ∧ xV t c x ≤ 72)) from sz_isWithin (b := 65) (c := 72) (by omega) (by omega) (by omega) (by omega) (by omega) (by omega), bind_s]
        have fin : ∀ (y : Int) (y' : Int32), y' = iI y → y = xK t c k x → Wp (g_gd (inB (iI (n - 1)) 301) (g_lt (sX9_kinds (sX9_values v (upd (pX9_values v) (n - 1).toNat (iI (xV t c x)))) (upd (pX9_kinds (sX9_values v (upd (pX9_values v) (n - 1).toNat (iI (xV t c x))))) (n - 1).toNat y')) (fun v0_4 => some (v0_4)))) (fun r => XT v r (n - 1) (xK t c k x) (xV t c x)) := by
          intro y y' hy' hy
          refine wp_gd hin (wp_lt (wp_some ?_))
          rw [hy', hy]
          exact XT.of (by omega) ⟨rfl, rfl, rfl⟩ rfl rfl
        by_cases hw : 65 ≤ xV t c x ∧ xV t c x ≤ 72
        · rw [bI_t hw, if_neg (by decide)]
          exact fin (-4) (-4) rfl (by unfold xK; rw [if_neg h2, if_pos h1, if_pos hw])
        · rw [bI_f hw, if_pos rfl]
          exact wp_gd hin (fin (xV t c x) _ rfl (by unfold xK; rw [if_neg h2, if_pos h1, if_neg hw]))
      rw [if_pos (show iI t = iI 1 by rw [h1])]
      refine wp_gd hin ?_
      rw [hcl, hx]
      unfold f_X9_extend_b82 f_X9_extend_b87
      by_cases y1 : x < 0
      · rw [if_pos (show iI x < 0 from (iI_lt (b := 0) (by omega) (by omega) (by omega) (by omega)).mpr y1), if_neg (by decide)]
        have e : xV t c x = -2 := by
          unfold xV
          rw [if_neg h2, if_pos h1, if_pos (Or.inl y1)]
        rw [e] at key ⊢
        exact key
      · rw [if_neg (show ¬ iI x < 0 from fun h => y1 ((iI_lt (b := 0) (by omega) (by omega) (by omega) (by omega)).mp h))]
        refine wp_gd hin ?_
        by_cases y2 : x ≤ 16777215
        · rw [if_pos (show iI x ≤ 16777215 from (iI_le (b := 16777215) (by omega) (by omega) (by omega) (by omega)).mpr y2), if_pos rfl]
          refine wp_gd hin ?_
          have e : xV t c x = x * 256 + c := by
            unfold xV
            rw [if_neg h2, if_pos h1, if_neg (by omega)]
          rw [hcl, hx, show (iI x * 256 + iI c : Int32) = iI (x * 256 + c) by rw [show (256 : Int32) = iI 256 from rfl, iI_mul, iI_add], ← e]
          exact key
        · rw [if_neg (show ¬ iI x ≤ 16777215 from fun h => y2 ((iI_le (b := 16777215) (by omega) (by omega) (by omega) (by omega)).mp h)), if_neg (by decide)]
          have e : xV t c x = -2 := by
            unfold xV
            rw [if_neg h2, if_pos h1, if_pos (Or.inr (by omega))]
          rw [e] at key ⊢
          exact key
    · rw [if_neg (show ¬ iI t = iI 1 from iI_ne (by omega) (by omega) (by omega) (by omega) h1)]
      refine wp_gd hin ?_
      have ev : xV t c x = x := by
        unfold xV
        rw [if_neg h2, if_neg h1]
      have fin : ∀ (y : Int) (y' : Int32), y' = iI y → y = xK t c k x → XT v (sX9_kinds v (upd (pX9_kinds v) (iI (n - 1)).toNatClampNeg y')) (n - 1) (xK t c k x) (xV t c x) := by
        intro y y' hy' hy
        rw [hcl, hy', hy, ev]
        refine XT.of (by omega) ⟨rfl, rfl, rfl⟩ rfl ?_
        rw [q9_values_kinds, upd_self hx]
      rw [hcl, hk]
      by_cases z1 : k = -2
      · rw [if_pos (show iI k = -2 by rw [z1]; rfl)]
        rw [← hcl]
        exact wp_gd hin (wp_lt (wp_some (fin c _ rfl (by unfold xK; rw [if_neg h2, if_neg h1, if_pos z1]))))
      · rw [if_neg (show ¬ iI k = -2 from iI_ne (b := -2) (by omega) (by omega) (by omega) (by omega) z1)]
        refine wp_gd hin ?_
        unfold f_X9_extend_b197
        by_cases z2 : k = 60
        · rw [if_pos (show iI k = 60 by rw [z2]; rfl)]
          exact wp_gd hin (wp_lt (wp_some (fin (-5) _ rfl (by unfold xK; rw [if_neg h2, if_neg h1, if_neg z1, if_pos z2]))))
        · rw [if_neg (show ¬ iI k = 60 from iI_ne (b := 60) (by omega) (by omega) (by omega) (by omega) z2)]
          exact wp_gd hin (wp_lt (wp_some (fin (-6) _ rfl (by unfold xK; rw [if_neg h2, if_neg h1, if_neg z1, if_neg z2]))))
