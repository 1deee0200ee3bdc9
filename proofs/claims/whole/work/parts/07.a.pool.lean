-- the pool of code rows: arrays of ints, by their addresses
abbrev PB : Type := List Nat × (Nat → Nat) × (Nat → Nat → Int32)
def rowE (cI : ClassId) (b : PB) : Nat → va_E := fun a => .inl (cI, b.2.1 a, .inl (b.2.2 a))
def PL (cI : ClassId) (b : PB) : va_W := va_pl b.1 (rowE cI b)
theorem pl_at (L : List Nat) (f : Nat → va_E) (k : Nat) : (va_pl L f)[k]? = (L[k]?).map (fun a => (a, f a)) := by simp [va_pl]
theorem app_at (X pl : va_W) (k : Nat) : (X ++ pl)[k]? = if k < X.length then X[k]? else pl[k - X.length]? := by
  by_cases h : k < X.length
  · rw [if_pos h, List.getElem?_append_left h]
  · rw [if_neg h, List.getElem?_append_right (by omega)]
theorem pl_pullG {X : va_W} {L : List Nat} {f : Nat → va_E} {a j : Nat} (hj : L[j]? = some a) (k : Nat) (q : Nat × va_E) (hk : ((X ++ [(a, f a)]) ++ va_pl (L.eraseIdx j) f)[k]? = some q) :
    (X ++ va_pl L f)[if k < X.length then k else if k = X.length then X.length + j else if k - X.length - 1 < j then k - 1 else k]? = some q := by
  rw [app_at] at hk
  simp only [List.length_append, List.length_singleton] at hk
  by_cases h1 : k < X.length
  · rw [if_pos (by omega), app_at, if_pos h1] at hk
    rw [if_pos h1, app_at, if_pos h1]
    exact hk
  · rw [if_neg h1]
    by_cases h2 : k = X.length
    · rw [if_pos (by omega), app_at, if_neg h1] at hk
      rw [if_pos h2, app_at, if_neg (by omega), pl_at, Nat.add_sub_cancel_left, hj]
      subst h2
      simpa using hk
    · rw [if_neg (by omega), pl_at, List.getElem?_eraseIdx] at hk
      rw [if_neg h2, app_at]
      by_cases h3 : k - X.length - 1 < j
      · rw [if_pos h3, if_neg (by omega), pl_at]
        rw [if_pos (by omega)] at hk
        rw [show k - 1 - X.length = k - (X.length + 1) by omega]
        exact hk
      · rw [if_neg h3, if_neg h1, pl_at]
        rw [if_neg (by omega)] at hk
        rw [show k - X.length = k - (X.length + 1) + 1 by omega]
        exact hk
theorem pl_pushG {X : va_W} {L : List Nat} {f : Nat → va_E} {a j : Nat} (hj : L[j]? = some a) (k : Nat) (q : Nat × va_E) (hk : (X ++ va_pl L f)[k]? = some q) :
    ((X ++ [(a, f a)]) ++ va_pl (L.eraseIdx j) f)[if k < X.length then k else if k - X.length < j then k + 1 else if k - X.length = j then X.length else k]? = some q := by
  rw [app_at] at hk
  rw [app_at]
  simp only [List.length_append, List.length_singleton]
  by_cases h1 : k < X.length
  · rw [if_pos h1] at hk
    rw [if_pos h1, if_pos (by omega), app_at, if_pos h1]
    exact hk
  · rw [if_neg h1, pl_at] at hk
    rw [if_neg h1]
    by_cases h2 : k - X.length < j
    · rw [if_pos h2, if_neg (by omega), pl_at, List.getElem?_eraseIdx, if_pos (by omega)]
      rw [show k + 1 - (X.length + 1) = k - X.length by omega]
      exact hk
    · rw [if_neg h2]
      by_cases h3 : k - X.length = j
      · rw [if_pos h3, if_pos (by omega), app_at, if_neg (by omega)]
        rw [h3, hj] at hk
        simpa using hk
      · rw [if_neg h3, if_neg (by omega), pl_at, List.getElem?_eraseIdx, if_neg (by omega)]
        rw [show k - (X.length + 1) + 1 = k - X.length by omega]
        exact hk
theorem inj_pull (n j : Nat) : ∀ i k : Nat, (if i < n then i else if i = n then n + j else if i - n - 1 < j then i - 1 else i) = (if k < n then k else if k = n then n + j else if k - n - 1 < j then k - 1 else k) → i = k := by
  intro i k h
  repeat' split at h
  all_goals omega
theorem inj_push (n j : Nat) : ∀ i k : Nat, (if i < n then i else if i - n < j then i + 1 else if i - n = j then n else i) = (if k < n then k else if k - n < j then k + 1 else if k - n = j then n else k) → i = k := by
  intro i k h
  repeat' split at h
  all_goals omega
section PLS
variable {D : va_G} {H : Heap} {A : Nat → Prop} {X : va_W} {cI : ClassId} {b : PB} {a j : Nat}
theorem P_pull (hj : b.1[j]? = some a) (hP : va_P D vwCl (X ++ PL cI b) H) : va_P D vwCl ((X ++ [(a, .inl (cI, b.2.1 a, .inl (b.2.2 a)))]) ++ va_pl (b.1.eraseIdx j) (rowE cI b)) H := hP.by _ (pl_pullG (f := rowE cI b) hj)
theorem D_pull (hj : b.1[j]? = some a) (hD : va_D A (X ++ PL cI b)) : va_D A ((X ++ [(a, .inl (cI, b.2.1 a, .inl (b.2.2 a)))]) ++ va_pl (b.1.eraseIdx j) (rowE cI b)) := hD.by _ (pl_pullG (f := rowE cI b) hj) (fun i k _ _ h => inj_pull X.length j i k h)
theorem P_push (hj : b.1[j]? = some a) (hP : va_P D vwCl ((X ++ [(a, .inl (cI, b.2.1 a, .inl (b.2.2 a)))]) ++ va_pl (b.1.eraseIdx j) (rowE cI b)) H) : va_P D vwCl (X ++ PL cI b) H := hP.by _ (pl_pushG (f := rowE cI b) hj)
theorem D_push (hj : b.1[j]? = some a) (hD : va_D A ((X ++ [(a, .inl (cI, b.2.1 a, .inl (b.2.2 a)))]) ++ va_pl (b.1.eraseIdx j) (rowE cI b))) : va_D A (X ++ PL cI b) := hD.by _ (pl_pushG (f := rowE cI b) hj) (fun i k _ _ h => inj_push X.length j i k h)
end PLS
section CP
variable {p : Program} {l : Launch} {e : Env} {R : Room} {s : State} {m : MethodId} {args : Array Value} {below : List Frame} {meth : Method} {c : Code} {H H0 : Heap} {locs : List Loc} {cells slots mc ms : Nat} {Q : State → Prop} {pc : Nat} {ls : Array Slot} {st0 rest : List Value} {D : va_G} {A A0 : Nat → Prop} {a : Array Value} {cc : ByteArray} {tys : List (ClassId × FieldType)} {cl : List vw_C} {ws : va_W}
theorem va_aldA (hexec : p.tables.exec = Jvm.exec) (hb : c.code = cc) (hK : va_K D cl tys s) (hP : va_P D cl ws H) (q0 t0 : Nat) {a : Nat} {cA : ClassId} {t : FieldType} {n : Nat} {f : Nat → Option Nat} (ha : ws[q0]? = some (a, .inl (cA, n, .inr (.inr (.inr (.inr f)))))) (ht : tys[t0]? = some (cA, .array t)) {i : Int32} (hin : vp_in i n) (hdg : decode cc pc = .ok (.aaload, 1))
    (kk : W p l e R s m args below meth c H locs cells slots Q (F0 m (pc + 1) ls (va_rf (f i.toNatClampNeg) :: rest))) : W p l e R s m args below meth c H locs cells slots Q (F0 m pc ls (.int i :: .ref a :: rest)) := by
  have hlt : i.toNatClampNeg < n := Nat.not_le.mp fun q => hin (Or.inr q)
  exact W.aald (v := va_rf (f i.toNatClampNeg)) (ty := .array t) hexec hb (hP q0 _ ha) ((hK.2 t0 _ ht).1 n (fun j => va_rf (f j))) rfl (fun q => by cases q) (by show ¬ (i < 0 ∨ (arrV _ _ _).slots.size ≤ _); rw [arrV_size]; exact hin) (by show (arrV _ _ _).slots[_]? = _; rw [arrV_read _ _ hlt]) rfl rfl hdg kk
theorem cc_iQ {S : Type} {post : Int32 → S → Prop} {wf : S → va_W} {X cx pl : va_W} (hr : va_Run p l e R s m args below meth c H locs cells slots mc ms (F0 m pc ls st0) rest (va_Qi post (BC D wf (va_A cx H.size)) (va_A cx H.size) a) (va_A cx H.size)) (hP : va_P D vwCl (X ++ pl) H) (hD : va_D A0 (X ++ pl)) (hS : va_S A0 s.heap H locs) (hA : ∀ q, s.heap.size ≤ q → A0 q) (isC isR : List Nat) (hC : isC.map (fun i => X[i]?) = cx.map some) (hR : isR.map (fun i => X[i]?) = (lpick X isR).map some) (hn : va_nd isR = true) (hdis : ∀ i ∈ isR, i ∉ isC) (hCw : isC.map (fun i => (X ++ pl)[i]?) = cx.map some)
    (kk : ∀ (r : Int32) (u : S) (H1 : Heap) (locs1 : List Loc), post r u → va_P D vwCl ((lpick X isR ++ wf u) ++ pl) H1 → va_D A0 ((lpick X isR ++ wf u) ++ pl) → va_S A0 s.heap H1 locs1 → W p l e R s m args below meth c H1 locs1 (cells + mc) (slots + ms) Q (F0 m (pc + 3) ls (.int r :: rest))) : W p l e R s m args below meth c H locs cells slots Q (F0 m pc ls st0) := by
  have hF := va_free (wc := cx) hD hS hA isC hCw
  refine va_calli hr hS (fun q _ h => hF q h) hF (fun r u t H1 locs1 ht hvm hw hB hz1 hk1 hS1 => ?_)
  obtain ⟨hP1, hD1⟩ := hB
  rw [ht] at hP1
  obtain ⟨hP2, hD2⟩ := va_joinQ hP hD isC isR hC hR hn hdis hk1 hF hP1 hD1
  exact kk r u H1 locs1 hw hP2 hD2 hS1
theorem cc_iP {S : Type} {post : Int32 → S → Prop} {wf : S → va_W} {X cx pl : va_W} {plf : S → va_W} (hr : va_Run p l e R s m args below meth c H locs cells slots mc ms (F0 m pc ls st0) rest (va_Qi post (BC D (fun u => wf u ++ plf u) (va_A (cx ++ pl) H.size)) (va_A (cx ++ pl) H.size) a) (va_A (cx ++ pl) H.size)) (hP : va_P D vwCl (X ++ pl) H) (hD : va_D A0 (X ++ pl)) (hS : va_S A0 s.heap H locs) (hA : ∀ q, s.heap.size ≤ q → A0 q) (isC isR : List Nat) (hC : isC.map (fun i => X[i]?) = cx.map some) (hR : isR.map (fun i => X[i]?) = (lpick X isR).map some) (hn : va_nd isR = true) (hdis : ∀ i ∈ isR, i ∉ isC)
    (kk : ∀ (r : Int32) (u : S) (H1 : Heap) (locs1 : List Loc), post r u → va_P D vwCl ((lpick X isR ++ wf u) ++ plf u) H1 → va_D A0 ((lpick X isR ++ wf u) ++ plf u) → va_S A0 s.heap H1 locs1 → W p l e R s m args below meth c H1 locs1 (cells + mc) (slots + ms) Q (F0 m (pc + 3) ls (.int r :: rest))) : W p l e R s m args below meth c H locs cells slots Q (F0 m pc ls st0) := by
  have hF := va_freeP (cx := cx) hD hS hA isC hC
  refine va_calli hr hS (fun q _ h => hF q h) hF (fun r u t H1 locs1 ht hvm hw hB hz1 hk1 hS1 => ?_)
  obtain ⟨hP1, hD1⟩ := hB
  rw [ht] at hP1
  obtain ⟨hP2, hD2⟩ := va_joinP hP hD isC isR hC hR hn hdis hk1 hF hP1 hD1
  exact kk r u H1 locs1 hw hP2 hD2 hS1
theorem cc_lQ {S : Type} {post : Int64 → S → Prop} {wf : S → va_W} {X cx pl : va_W} (hr : va_Run p l e R s m args below meth c H locs cells slots mc ms (F0 m pc ls st0) rest (va_Ql post (BC D wf (va_A cx H.size)) (va_A cx H.size) a) (va_A cx H.size)) (hP : va_P D vwCl (X ++ pl) H) (hD : va_D A0 (X ++ pl)) (hS : va_S A0 s.heap H locs) (hA : ∀ q, s.heap.size ≤ q → A0 q) (isC isR : List Nat) (hC : isC.map (fun i => X[i]?) = cx.map some) (hR : isR.map (fun i => X[i]?) = (lpick X isR).map some) (hn : va_nd isR = true) (hdis : ∀ i ∈ isR, i ∉ isC) (hCw : isC.map (fun i => (X ++ pl)[i]?) = cx.map some)
    (kk : ∀ (r : Int64) (u : S) (H1 : Heap) (locs1 : List Loc), post r u → va_P D vwCl ((lpick X isR ++ wf u) ++ pl) H1 → va_D A0 ((lpick X isR ++ wf u) ++ pl) → va_S A0 s.heap H1 locs1 → W p l e R s m args below meth c H1 locs1 (cells + mc) (slots + ms) Q (F0 m (pc + 3) ls (.long r :: rest))) : W p l e R s m args below meth c H locs cells slots Q (F0 m pc ls st0) := by
  have hF := va_free (wc := cx) hD hS hA isC hCw
  refine va_calll hr hS (fun q _ h => hF q h) hF (fun r u t H1 locs1 ht hvm hw hB hz1 hk1 hS1 => ?_)
  obtain ⟨hP1, hD1⟩ := hB
  rw [ht] at hP1
  obtain ⟨hP2, hD2⟩ := va_joinQ hP hD isC isR hC hR hn hdis hk1 hF hP1 hD1
  exact kk r u H1 locs1 hw hP2 hD2 hS1
theorem cc_lP {S : Type} {post : Int64 → S → Prop} {wf : S → va_W} {X cx pl : va_W} {plf : S → va_W} (hr : va_Run p l e R s m args below meth c H locs cells slots mc ms (F0 m pc ls st0) rest (va_Ql post (BC D (fun u => wf u ++ plf u) (va_A (cx ++ pl) H.size)) (va_A (cx ++ pl) H.size) a) (va_A (cx ++ pl) H.size)) (hP : va_P D vwCl (X ++ pl) H) (hD : va_D A0 (X ++ pl)) (hS : va_S A0 s.heap H locs) (hA : ∀ q, s.heap.size ≤ q → A0 q) (isC isR : List Nat) (hC : isC.map (fun i => X[i]?) = cx.map some) (hR : isR.map (fun i => X[i]?) = (lpick X isR).map some) (hn : va_nd isR = true) (hdis : ∀ i ∈ isR, i ∉ isC)
    (kk : ∀ (r : Int64) (u : S) (H1 : Heap) (locs1 : List Loc), post r u → va_P D vwCl ((lpick X isR ++ wf u) ++ plf u) H1 → va_D A0 ((lpick X isR ++ wf u) ++ plf u) → va_S A0 s.heap H1 locs1 → W p l e R s m args below meth c H1 locs1 (cells + mc) (slots + ms) Q (F0 m (pc + 3) ls (.long r :: rest))) : W p l e R s m args below meth c H locs cells slots Q (F0 m pc ls st0) := by
  have hF := va_freeP (cx := cx) hD hS hA isC hC
  refine va_calll hr hS (fun q _ h => hF q h) hF (fun r u t H1 locs1 ht hvm hw hB hz1 hk1 hS1 => ?_)
  obtain ⟨hP1, hD1⟩ := hB
  rw [ht] at hP1
  obtain ⟨hP2, hD2⟩ := va_joinP hP hD isC isR hC hR hn hdis hk1 hF hP1 hD1
  exact kk r u H1 locs1 hw hP2 hD2 hS1
theorem cc_vQ {S : Type} {post : S → Prop} {wf : S → va_W} {X cx pl : va_W} (hr : va_Run p l e R s m args below meth c H locs cells slots mc ms (F0 m pc ls st0) rest (va_Qv post (BC D wf (va_A cx H.size)) (va_A cx H.size) a) (va_A cx H.size)) (hP : va_P D vwCl (X ++ pl) H) (hD : va_D A0 (X ++ pl)) (hS : va_S A0 s.heap H locs) (hA : ∀ q, s.heap.size ≤ q → A0 q) (isC isR : List Nat) (hC : isC.map (fun i => X[i]?) = cx.map some) (hR : isR.map (fun i => X[i]?) = (lpick X isR).map some) (hn : va_nd isR = true) (hdis : ∀ i ∈ isR, i ∉ isC) (hCw : isC.map (fun i => (X ++ pl)[i]?) = cx.map some)
    (kk : ∀ (u : S) (H1 : Heap) (locs1 : List Loc), post u → va_P D vwCl ((lpick X isR ++ wf u) ++ pl) H1 → va_D A0 ((lpick X isR ++ wf u) ++ pl) → va_S A0 s.heap H1 locs1 → W p l e R s m args below meth c H1 locs1 (cells + mc) (slots + ms) Q (F0 m (pc + 3) ls (rest))) : W p l e R s m args below meth c H locs cells slots Q (F0 m pc ls st0) := by
  have hF := va_free (wc := cx) hD hS hA isC hCw
  refine va_callv hr hS (fun q _ h => hF q h) hF (fun u t H1 locs1 ht hvm hw hB hz1 hk1 hS1 => ?_)
  obtain ⟨hP1, hD1⟩ := hB
  rw [ht] at hP1
  obtain ⟨hP2, hD2⟩ := va_joinQ hP hD isC isR hC hR hn hdis hk1 hF hP1 hD1
  exact kk u H1 locs1 hw hP2 hD2 hS1
theorem cc_vP {S : Type} {post : S → Prop} {wf : S → va_W} {X cx pl : va_W} {plf : S → va_W} (hr : va_Run p l e R s m args below meth c H locs cells slots mc ms (F0 m pc ls st0) rest (va_Qv post (BC D (fun u => wf u ++ plf u) (va_A (cx ++ pl) H.size)) (va_A (cx ++ pl) H.size) a) (va_A (cx ++ pl) H.size)) (hP : va_P D vwCl (X ++ pl) H) (hD : va_D A0 (X ++ pl)) (hS : va_S A0 s.heap H locs) (hA : ∀ q, s.heap.size ≤ q → A0 q) (isC isR : List Nat) (hC : isC.map (fun i => X[i]?) = cx.map some) (hR : isR.map (fun i => X[i]?) = (lpick X isR).map some) (hn : va_nd isR = true) (hdis : ∀ i ∈ isR, i ∉ isC)
    (kk : ∀ (u : S) (H1 : Heap) (locs1 : List Loc), post u → va_P D vwCl ((lpick X isR ++ wf u) ++ plf u) H1 → va_D A0 ((lpick X isR ++ wf u) ++ plf u) → va_S A0 s.heap H1 locs1 → W p l e R s m args below meth c H1 locs1 (cells + mc) (slots + ms) Q (F0 m (pc + 3) ls (rest))) : W p l e R s m args below meth c H locs cells slots Q (F0 m pc ls st0) := by
  have hF := va_freeP (cx := cx) hD hS hA isC hC
  refine va_callv hr hS (fun q _ h => hF q h) hF (fun u t H1 locs1 ht hvm hw hB hz1 hk1 hS1 => ?_)
  obtain ⟨hP1, hD1⟩ := hB
  rw [ht] at hP1
  obtain ⟨hP2, hD2⟩ := va_joinP hP hD isC isR hC hR hn hdis hk1 hF hP1 hD1
  exact kk u H1 locs1 hw hP2 hD2 hS1
end CP
theorem PC.preP {D : va_G} {cI cJ cZ cY : ClassId} {tX tY : Nat} {av : List Value} {X cx pl : va_W} {s : State} {H : Heap} {A0 : Nat → Prop} {locs : List Loc} (hK : KU D cI cJ cZ cY s) (hT : ST tX tY A0 s s.heap) (hP : va_P D vwCl (X ++ pl) H) (hD : va_D A0 (X ++ pl)) (hS : va_S A0 s.heap H locs) (hA : ∀ q, s.heap.size ≤ q → A0 q) (isC : List Nat) (hC : isC.map (fun i => X[i]?) = cx.map some) (hn : va_nd isC = true) :
    ∀ U : State, U.heap = H → s.WarmedH U.vm → PC D cI cJ cZ cY tX tY av (cx ++ pl) H.size av.toArray U := by
  intro U hU hW
  have hF := va_freeP (cx := cx) hD hS hA isC hC
  have hP1 : va_P D vwCl (cx ++ pl) H := hP.by _ (va_part isC hC)
  have hD1 : va_D A0 (cx ++ pl) := hD.part isC hn hC
  refine ⟨rfl, by rw [hU], by rw [hU]; exact hP1, hK.warm hW, hD1.weaken (fun _ _ _ _ => trivial), ?_⟩
  rw [hU]
  exact ((hT.kept (fun a h1 h2 => hS.2.1 a h1 h2)).narrow hF).moved hW.alike
theorem row_at {D : va_G} {cI : ClassId} {X : va_W} {b : PB} {H : Heap} {a : Nat} (hP : va_P D vwCl (X ++ PL cI b) H) (ha : a ∈ b.1) : H[a]? = some (vp_cell cI (b.2.1 a, .inl (b.2.2 a))) := by
  obtain ⟨k, hk⟩ := va_pl_get (X := X) (f := rowE cI b) ha
  exact hP k _ hk
theorem asg_self (vm : Vm) (c : ClassId) : vm.assignable c c = true := by
  unfold Vm.assignable
  rw [show (256 : Nat) = 255 + 1 from rfl, Vm.assignableAux]
  simp
section CS
variable {p : Program} {l : Launch} {e : Env} {R : Room} {s : State} {m : MethodId} {args : Array Value} {below : List Frame} {meth : Method} {c : Code} {H H0 : Heap} {locs : List Loc} {cells slots : Nat} {Q : State → Prop} {pc : Nat} {ls : Array Slot} {rest : List Value} {D : va_G} {A : Nat → Prop} {cc : ByteArray} {ws : va_W} {cI cJ cZ cY : ClassId}
theorem va_astA (hexec : p.tables.exec = Jvm.exec) (hb : c.code = cc) (hK : KU D cI cJ cZ cY s) (hP : va_P D vwCl ws H) (hD : va_D A ws) (hS : va_S A H0 H locs) (q0 : Nat) {a n v : Nat} {x : vp_A} {f : Nat → Option Nat} (ha : ws[q0]? = some (a, .inl (cY, n, .inr (.inr (.inr (.inr f)))))) (hv : H[v]? = some (vp_cell cI x)) (hvm : (vp_cell cI x).vm = .none) (hvc : (vp_cell cI x).cls = cI) {i : Int32} (hin : vp_in i n) (hdg : decode cc pc = .ok (.aastore, 1))
    (kk : ∀ (H1 : Heap) (locs1 : List Loc), va_P D vwCl (ws.set q0 (a, .inl (cY, n, .inr (.inr (.inr (.inr (va_up f i.toNatClampNeg (some v)))))))) H1 → va_D A (ws.set q0 (a, .inl (cY, n, .inr (.inr (.inr (.inr (va_up f i.toNatClampNeg (some v)))))))) → va_S A H0 H1 locs1 → W p l e R s m args below meth c H1 locs1 cells slots Q (F0 m (pc + 1) ls rest)) : W p l e R s m args below meth c H locs cells slots Q (F0 m pc ls (.ref v :: .int i :: .ref a :: rest)) := by
  have hlt : i.toNatClampNeg < n := Nat.not_le.mp fun q => hin (Or.inr q)
  have h0 : ¬ i < 0 := fun q => hin (Or.inl q)
  obtain ⟨comp, cq, kA, hcomp, -, k1, k2, hcq⟩ := arrayOverA_spec (hK.2.2)
  have r0 : s.vm.findClass ("[" ++ (FieldType.int).toString) = some cI := (hK.1.2 0 _ rfl).2
  have r3 : s.vm.findClass ("[" ++ (FieldType.array .int).toString) = some cY := (hK.1.2 3 _ rfl).2
  have e1 : cq = cY := Option.some.inj (hcq.symm.trans r3)
  have e2 : comp = cI := Option.some.inj (hcomp.symm.trans r0)
  subst e1
  subst e2
  obtain ⟨kI, hkI, -⟩ := Vm.findClass_spec r0
  refine W.aast hexec hb (hP q0 _ ha) (fun q h => by cases h) (fun h => by cases h) k1 k2 rfl hkI ⟨h0, by show _ < (arrV _ _ _).slots.size; rw [arrV_size]; exact hlt⟩ hv (fun q h => by rw [hvm] at h; cases h) (by rw [hvc]; exact hkI) (by rw [hvc]; exact asg_self _ _) rfl rfl hdg fun H1 e z oq => ?_
  refine kk H1 _ (hP.set hD ha ?_ oq) (hD.set ha) (hS.put z oq (hD.2 q0 _ ha))
  show H1[a]? = some (vp_cell _ _)
  rw [e]
  rw [vp_cell_q, vp_cell_q, arrV_store]
  congr 2
  funext q
  by_cases hq : q = i.toNatClampNeg
  · subst hq
    simp [updV, va_up, va_rf]
  · simp [updV, va_up, hq]
end CS
