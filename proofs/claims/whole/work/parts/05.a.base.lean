-- the words of the pure side: guards, names for values, loops with fuel
def fU : Nat := 1048576
def g_gd {α : Type} (c : Prop) [Decidable c] (k : Option α) : Option α := if c then k else none
theorem g_gde {α : Type} {c : Prop} [Decidable c] {k : Option α} {r : α} (h : g_gd c k = some r) : c ∧ k = some r := by
  unfold g_gd at h
  split at h
  · exact ⟨by assumption, h⟩
  · cases h
theorem g_gdi {α : Type} {c : Prop} [Decidable c] {k : Option α} (h : c) : g_gd c k = k := if_pos h
def g_lt {α β : Type} (e : α) (k : α → β) : β := k e
theorem g_lte {α β : Type} {e : α} {k : α → Option β} {r : β} (h : g_lt e k = some r) (x : α) (hx : x = e) : k x = some r := by subst hx; exact h
theorem g_it {α : Type} {c : Prop} [Decidable c] {a b : Option α} {r : α} (h : (if c then a else b) = some r) (hc : c) : a = some r := by rw [if_pos hc] at h; exact h
theorem g_if {α : Type} {c : Prop} [Decidable c] {a b : Option α} {r : α} (h : (if c then a else b) = some r) (hc : ¬ c) : b = some r := by rw [if_neg hc] at h; exact h
theorem g_bd {α β : Type} {x : Option α} {k : α → Option β} {r : β} (h : x.bind k = some r) : ∃ a, x = some a ∧ k a = some r := Option.bind_eq_some_iff.mp h
def g_lp {σ τ : Type} (body : (σ → Option τ) → σ → Option τ) : Nat → σ → Option τ
  | 0, _ => none
  | n + 1, s => body (g_lp body n) s
theorem g_lp0 {σ τ : Type} {body : (σ → Option τ) → σ → Option τ} {s : σ} {r : τ} (h : g_lp body 0 s = some r) : False := by simp [g_lp] at h
theorem g_lps {σ τ : Type} (body : (σ → Option τ) → σ → Option τ) (n : Nat) (s : σ) : g_lp body (n + 1) s = body (g_lp body n) s := rfl
abbrev inB (i : Int32) (n : Nat) : Prop := 0 ≤ i.toInt ∧ i.toInt < (n : Int)
theorem inB_vp {i : Int32} {n : Nat} (h : inB i n) : vp_in i n := vp_in_iff.mpr h
theorem bool_nar {v : Int32} (h : v = 0 ∨ v = 1) : narrow .boolean (.int v) = .int v := by rcases h with h | h <;> subst h <;> rfl
theorem bool_fit {v : Int32} (h : v = 0 ∨ v = 1) : fits .boolean (.int v) = true := by rcases h with h | h <;> subst h <;> rfl
def wyX : Nat → Int32 := fun j => ([16, 16, 16, 16, 16, 16, 16, 16, 16, 16, 16, 16, 16, 16, 16, 16, 16, 14, 12, 10, 8, 6, 4, 2, 0, -2, -4, -6, -8, -10, -12, -14, -16, -16, -16, -16, -16, -16, -16, -16, -16, -16, -16, -16, -16, -16, -16, -16, -16, -14, -12, -10, -8, -6, -4, -2, 0, 2, 4, 6, 8, 10, 12, 14] : List Int32).getD j 0
def wyY : Nat → Int32 := fun j => ([-16, -14, -12, -10, -8, -6, -4, -2, 0, 2, 4, 6, 8, 10, 12, 14, 16, 16, 16, 16, 16, 16, 16, 16, 16, 16, 16, 16, 16, 16, 16, 16, 16, 14, 12, 10, 8, 6, 4, 2, 0, -2, -4, -6, -8, -10, -12, -14, -16, -16, -16, -16, -16, -16, -16, -16, -16, -16, -16, -16, -16, -16, -16, -16] : List Int32).getD j 0
abbrev tysL (cI cJ cZ cY : ClassId) : List (ClassId × FieldType) := [(cI, .int), (cJ, .long), (cZ, .boolean), (cY, .array .int)]
def nestW : List Cond := [(Jvm.Cond.methodLinkNest "ManyEyes$State" (22 : Nat) ({ cls := "ManyEyes$Eye", name := "<init>", desc := "()V" } : Jvm.MethodName) "ManyEyes"), (Jvm.Cond.methodLinkNest "ManyEyes$State" (29 : Nat) ({ cls := "ManyEyes$Reads", name := "<init>", desc := "()V" } : Jvm.MethodName) "ManyEyes"), (Jvm.Cond.methodLinkNest "ManyEyes$State" (36 : Nat) ({ cls := "ManyEyes$Flight", name := "<init>", desc := "()V" } : Jvm.MethodName) "ManyEyes"), (Jvm.Cond.methodLinkNest "ManyEyes$Flyer" (36 : Nat) ({ cls := "ManyEyes$Flight", name := "<init>", desc := "()V" } : Jvm.MethodName) "ManyEyes"), (Jvm.Cond.methodLinkNest "ManyEyes" (45 : Nat) ({ cls := "ManyEyes$Parser", name := "<init>", desc := "()V" } : Jvm.MethodName) "ManyEyes"), (Jvm.Cond.methodLinkNest "ManyEyes$Parser" (11 : Nat) ({ cls := "ManyEyes$Tokens", name := "<init>", desc := "()V" } : Jvm.MethodName) "ManyEyes"), (Jvm.Cond.methodLinkNest "ManyEyes$World" (46 : Nat) ({ cls := "ManyEyes", name := "isWithin", desc := "(III)Z" } : Jvm.MethodName) "ManyEyes"), (Jvm.Cond.methodLinkNest "ManyEyes$Eye" (31 : Nat) ({ cls := "ManyEyes", name := "isWithin", desc := "(III)Z" } : Jvm.MethodName) "ManyEyes"), (Jvm.Cond.fieldLinkNest "ManyEyes$Sight" (62 : Nat) "ManyEyes" "WAY_X" "[I" "ManyEyes"), (Jvm.Cond.fieldLinkNest "ManyEyes$Sight" (65 : Nat) "ManyEyes" "WAY_Y" "[I" "ManyEyes"), (Jvm.Cond.methodLinkNest "ManyEyes$Tokens" (52 : Nat) ({ cls := "ManyEyes", name := "isWithin", desc := "(III)Z" } : Jvm.MethodName) "ManyEyes"), (Jvm.Cond.castable "[I" "java/lang/Cloneable"), (Jvm.Cond.methodLinkNest "ManyEyes$State" (50 : Nat) ({ cls := "ManyEyes", name := "isWithin", desc := "(III)Z" } : Jvm.MethodName) "ManyEyes"), (Jvm.Cond.methodLinkNest "ManyEyes$Runner" (69 : Nat) ({ cls := "ManyEyes", name := "isWithin", desc := "(III)Z" } : Jvm.MethodName) "ManyEyes"), (Jvm.Cond.methodLinkNest "ManyEyes$Flight" (37 : Nat) ({ cls := "ManyEyes", name := "isWithin", desc := "(III)Z" } : Jvm.MethodName) "ManyEyes"), (Jvm.Cond.fieldLinkNest "ManyEyes$Flyer" (168 : Nat) "ManyEyes" "WAY_X" "[I" "ManyEyes"), (Jvm.Cond.fieldLinkNest "ManyEyes$Flyer" (176 : Nat) "ManyEyes" "WAY_Y" "[I" "ManyEyes"), (Jvm.Cond.methodLinkNest "ManyEyes$World" (67 : Nat) ({ cls := "ManyEyes", name := "copyRow", desc := "([I[I)V" } : Jvm.MethodName) "ManyEyes"), (Jvm.Cond.methodLinkNest "ManyEyes$Eye" (51 : Nat) ({ cls := "ManyEyes", name := "copyRow", desc := "([I[I)V" } : Jvm.MethodName) "ManyEyes"), (Jvm.Cond.methodLinkNest "ManyEyes$Reads" (27 : Nat) ({ cls := "ManyEyes", name := "copyRow", desc := "([I[I)V" } : Jvm.MethodName) "ManyEyes"), (Jvm.Cond.methodLinkNest "ManyEyes$Flight" (56 : Nat) ({ cls := "ManyEyes", name := "copyRow", desc := "([I[I)V" } : Jvm.MethodName) "ManyEyes")]
theorem nestW_tbl : ∀ w ∈ nestW, w ∈ lw_tbl := List.forall_mem_cons.mpr ⟨tw_88, List.forall_mem_cons.mpr ⟨tw_130, List.forall_mem_cons.mpr ⟨tw_167, List.forall_mem_cons.mpr ⟨tw_331, List.forall_mem_cons.mpr ⟨tw_347, List.forall_mem_cons.mpr ⟨tw_353, List.forall_mem_cons.mpr ⟨tw_448, List.forall_mem_cons.mpr ⟨tw_491, List.forall_mem_cons.mpr ⟨tw_515, List.forall_mem_cons.mpr ⟨tw_517, List.forall_mem_cons.mpr ⟨tw_619, List.forall_mem_cons.mpr ⟨tw_721, List.forall_mem_cons.mpr ⟨tw_737, List.forall_mem_cons.mpr ⟨tw_775, List.forall_mem_cons.mpr ⟨tw_784, List.forall_mem_cons.mpr ⟨tw_814, List.forall_mem_cons.mpr ⟨tw_816, List.forall_mem_cons.mpr ⟨tw_893, List.forall_mem_cons.mpr ⟨tw_901, List.forall_mem_cons.mpr ⟨tw_906, List.forall_mem_cons.mpr ⟨tw_911, (fun _ h => absurd h List.not_mem_nil)⟩⟩⟩⟩⟩⟩⟩⟩⟩⟩⟩⟩⟩⟩⟩⟩⟩⟩⟩⟩⟩
theorem nestW_on : ∀ w ∈ nestW, w.onTables = true := List.forall_mem_cons.mpr ⟨rfl, List.forall_mem_cons.mpr ⟨rfl, List.forall_mem_cons.mpr ⟨rfl, List.forall_mem_cons.mpr ⟨rfl, List.forall_mem_cons.mpr ⟨rfl, List.forall_mem_cons.mpr ⟨rfl, List.forall_mem_cons.mpr ⟨rfl, List.forall_mem_cons.mpr ⟨rfl, List.forall_mem_cons.mpr ⟨rfl, List.forall_mem_cons.mpr ⟨rfl, List.forall_mem_cons.mpr ⟨rfl, List.forall_mem_cons.mpr ⟨rfl, List.forall_mem_cons.mpr ⟨rfl, List.forall_mem_cons.mpr ⟨rfl, List.forall_mem_cons.mpr ⟨rfl, List.forall_mem_cons.mpr ⟨rfl, List.forall_mem_cons.mpr ⟨rfl, List.forall_mem_cons.mpr ⟨rfl, List.forall_mem_cons.mpr ⟨rfl, List.forall_mem_cons.mpr ⟨rfl, List.forall_mem_cons.mpr ⟨rfl, (fun _ h => absurd h List.not_mem_nil)⟩⟩⟩⟩⟩⟩⟩⟩⟩⟩⟩⟩⟩⟩⟩⟩⟩⟩⟩⟩⟩
theorem nestW_warm {s U : State} (hW : s.WarmedH U.vm) : ∀ w ∈ nestW, va_Nw w s → va_Nw w U := List.forall_mem_cons.mpr ⟨fun h => va_Nw.warmM hW h, List.forall_mem_cons.mpr ⟨fun h => va_Nw.warmM hW h, List.forall_mem_cons.mpr ⟨fun h => va_Nw.warmM hW h, List.forall_mem_cons.mpr ⟨fun h => va_Nw.warmM hW h, List.forall_mem_cons.mpr ⟨fun h => va_Nw.warmM hW h, List.forall_mem_cons.mpr ⟨fun h => va_Nw.warmM hW h, List.forall_mem_cons.mpr ⟨fun h => va_Nw.warmM hW h, List.forall_mem_cons.mpr ⟨fun h => va_Nw.warmM hW h, List.forall_mem_cons.mpr ⟨fun h => va_Nw.warmF hW h, List.forall_mem_cons.mpr ⟨fun h => va_Nw.warmF hW h, List.forall_mem_cons.mpr ⟨fun h => va_Nw.warmM hW h, List.forall_mem_cons.mpr ⟨fun h => va_Nw.warmC hW h, List.forall_mem_cons.mpr ⟨fun h => va_Nw.warmM hW h, List.forall_mem_cons.mpr ⟨fun h => va_Nw.warmM hW h, List.forall_mem_cons.mpr ⟨fun h => va_Nw.warmM hW h, List.forall_mem_cons.mpr ⟨fun h => va_Nw.warmF hW h, List.forall_mem_cons.mpr ⟨fun h => va_Nw.warmF hW h, List.forall_mem_cons.mpr ⟨fun h => va_Nw.warmM hW h, List.forall_mem_cons.mpr ⟨fun h => va_Nw.warmM hW h, List.forall_mem_cons.mpr ⟨fun h => va_Nw.warmM hW h, List.forall_mem_cons.mpr ⟨fun h => va_Nw.warmM hW h, (fun _ h => absurd h List.not_mem_nil)⟩⟩⟩⟩⟩⟩⟩⟩⟩⟩⟩⟩⟩⟩⟩⟩⟩⟩⟩⟩⟩
theorem nw_88 : (Jvm.Cond.methodLinkNest "ManyEyes$State" (22 : Nat) ({ cls := "ManyEyes$Eye", name := "<init>", desc := "()V" } : Jvm.MethodName) "ManyEyes") ∈ nestW := List.mem_of_getElem? (i := 0) rfl
theorem nw_130 : (Jvm.Cond.methodLinkNest "ManyEyes$State" (29 : Nat) ({ cls := "ManyEyes$Reads", name := "<init>", desc := "()V" } : Jvm.MethodName) "ManyEyes") ∈ nestW := List.mem_of_getElem? (i := 1) rfl
theorem nw_167 : (Jvm.Cond.methodLinkNest "ManyEyes$State" (36 : Nat) ({ cls := "ManyEyes$Flight", name := "<init>", desc := "()V" } : Jvm.MethodName) "ManyEyes") ∈ nestW := List.mem_of_getElem? (i := 2) rfl
theorem nw_331 : (Jvm.Cond.methodLinkNest "ManyEyes$Flyer" (36 : Nat) ({ cls := "ManyEyes$Flight", name := "<init>", desc := "()V" } : Jvm.MethodName) "ManyEyes") ∈ nestW := List.mem_of_getElem? (i := 3) rfl
theorem nw_347 : (Jvm.Cond.methodLinkNest "ManyEyes" (45 : Nat) ({ cls := "ManyEyes$Parser", name := "<init>", desc := "()V" } : Jvm.MethodName) "ManyEyes") ∈ nestW := List.mem_of_getElem? (i := 4) rfl
theorem nw_353 : (Jvm.Cond.methodLinkNest "ManyEyes$Parser" (11 : Nat) ({ cls := "ManyEyes$Tokens", name := "<init>", desc := "()V" } : Jvm.MethodName) "ManyEyes") ∈ nestW := List.mem_of_getElem? (i := 5) rfl
theorem nw_448 : (Jvm.Cond.methodLinkNest "ManyEyes$World" (46 : Nat) ({ cls := "ManyEyes", name := "isWithin", desc := "(III)Z" } : Jvm.MethodName) "ManyEyes") ∈ nestW := List.mem_of_getElem? (i := 6) rfl
theorem nw_491 : (Jvm.Cond.methodLinkNest "ManyEyes$Eye" (31 : Nat) ({ cls := "ManyEyes", name := "isWithin", desc := "(III)Z" } : Jvm.MethodName) "ManyEyes") ∈ nestW := List.mem_of_getElem? (i := 7) rfl
theorem nw_515 : (Jvm.Cond.fieldLinkNest "ManyEyes$Sight" (62 : Nat) "ManyEyes" "WAY_X" "[I" "ManyEyes") ∈ nestW := List.mem_of_getElem? (i := 8) rfl
theorem nw_517 : (Jvm.Cond.fieldLinkNest "ManyEyes$Sight" (65 : Nat) "ManyEyes" "WAY_Y" "[I" "ManyEyes") ∈ nestW := List.mem_of_getElem? (i := 9) rfl
theorem nw_619 : (Jvm.Cond.methodLinkNest "ManyEyes$Tokens" (52 : Nat) ({ cls := "ManyEyes", name := "isWithin", desc := "(III)Z" } : Jvm.MethodName) "ManyEyes") ∈ nestW := List.mem_of_getElem? (i := 10) rfl
theorem nw_721 : (Jvm.Cond.castable "[I" "java/lang/Cloneable") ∈ nestW := List.mem_of_getElem? (i := 11) rfl
theorem nw_737 : (Jvm.Cond.methodLinkNest "ManyEyes$State" (50 : Nat) ({ cls := "ManyEyes", name := "isWithin", desc := "(III)Z" } : Jvm.MethodName) "ManyEyes") ∈ nestW := List.mem_of_getElem? (i := 12) rfl
theorem nw_775 : (Jvm.Cond.methodLinkNest "ManyEyes$Runner" (69 : Nat) ({ cls := "ManyEyes", name := "isWithin", desc := "(III)Z" } : Jvm.MethodName) "ManyEyes") ∈ nestW := List.mem_of_getElem? (i := 13) rfl
theorem nw_784 : (Jvm.Cond.methodLinkNest "ManyEyes$Flight" (37 : Nat) ({ cls := "ManyEyes", name := "isWithin", desc := "(III)Z" } : Jvm.MethodName) "ManyEyes") ∈ nestW := List.mem_of_getElem? (i := 14) rfl
theorem nw_814 : (Jvm.Cond.fieldLinkNest "ManyEyes$Flyer" (168 : Nat) "ManyEyes" "WAY_X" "[I" "ManyEyes") ∈ nestW := List.mem_of_getElem? (i := 15) rfl
theorem nw_816 : (Jvm.Cond.fieldLinkNest "ManyEyes$Flyer" (176 : Nat) "ManyEyes" "WAY_Y" "[I" "ManyEyes") ∈ nestW := List.mem_of_getElem? (i := 16) rfl
theorem nw_893 : (Jvm.Cond.methodLinkNest "ManyEyes$World" (67 : Nat) ({ cls := "ManyEyes", name := "copyRow", desc := "([I[I)V" } : Jvm.MethodName) "ManyEyes") ∈ nestW := List.mem_of_getElem? (i := 17) rfl
theorem nw_901 : (Jvm.Cond.methodLinkNest "ManyEyes$Eye" (51 : Nat) ({ cls := "ManyEyes", name := "copyRow", desc := "([I[I)V" } : Jvm.MethodName) "ManyEyes") ∈ nestW := List.mem_of_getElem? (i := 18) rfl
theorem nw_906 : (Jvm.Cond.methodLinkNest "ManyEyes$Reads" (27 : Nat) ({ cls := "ManyEyes", name := "copyRow", desc := "([I[I)V" } : Jvm.MethodName) "ManyEyes") ∈ nestW := List.mem_of_getElem? (i := 19) rfl
theorem nw_911 : (Jvm.Cond.methodLinkNest "ManyEyes$Flight" (56 : Nat) ({ cls := "ManyEyes", name := "copyRow", desc := "([I[I)V" } : Jvm.MethodName) "ManyEyes") ∈ nestW := List.mem_of_getElem? (i := 20) rfl
def KU (D : va_G) (cI cJ cZ cY : ClassId) (U : State) : Prop := va_K D vwCl (tysL cI cJ cZ cY) U ∧ (∀ w ∈ nestW, va_Nw w U) ∧ va_AOA .int U
theorem KU.same {D : va_G} {cI cJ cZ cY : ClassId} {u U : State} (h : u.vm = U.vm) (k : KU D cI cJ cZ cY u) : KU D cI cJ cZ cY U := ⟨va_K.moved (by rw [h]; exact Vm.Alike.refl _) k.1, fun w hw => va_Nw.same (nestW_on w hw) h (k.2.1 w hw), over_moved (by rw [h]; exact Vm.Alike.refl _) k.2.2⟩
theorem KU.warm {D : va_G} {cI cJ cZ cY : ClassId} {s U : State} (hW : s.WarmedH U.vm) (k : KU D cI cJ cZ cY s) : KU D cI cJ cZ cY U := ⟨va_K.moved hW.alike k.1, fun w hw => nestW_warm hW w hw (k.2.1 w hw), over_moved hW.alike k.2.2⟩
def ST (tX tY : Nat) (A : Nat → Prop) (U : State) (H : Heap) : Prop := va_Z "ManyEyes" "WAY_X" "[I" (.ref tX) A U H ∧ va_T .int tX 64 (fun j => .int (wyX j)) A U H ∧ va_Z "ManyEyes" "WAY_Y" "[I" (.ref tY) A U H ∧ va_T .int tY 64 (fun j => .int (wyY j)) A U H
theorem ST.moved {tX tY : Nat} {A : Nat → Prop} {u U : State} {H : Heap} (hvm : u.vm.Alike U.vm) (h : ST tX tY A u H) : ST tX tY A U H := ⟨h.1.moved hvm, h.2.1.moved hvm, h.2.2.1.moved hvm, h.2.2.2.moved hvm⟩
theorem ST.kept {tX tY : Nat} {A : Nat → Prop} {U : State} {H H1 : Heap} (h : ST tX tY A U H) (hq : ∀ a : Nat, a < H.size → ¬ A a → H1[a]? = H[a]?) : ST tX tY A U H1 := ⟨h.1.kept hq, h.2.1.kept hq, h.2.2.1.kept hq, h.2.2.2.kept hq⟩
theorem ST.narrow {tX tY : Nat} {A B : Nat → Prop} {U : State} {H : Heap} (h : ST tX tY A U H) (hAB : ∀ q, B q → A q) : ST tX tY B U H := ⟨h.1.narrow hAB, h.2.1.narrow hAB, h.2.2.1.narrow hAB, h.2.2.2.narrow hAB⟩
def PC (D : va_G) (cI cJ cZ cY : ClassId) (tX tY : Nat) (av : List Value) (ws : va_W) (sz : Nat) : Array Value → State → Prop := va_Pc av (fun U => U.heap.size = sz ∧ va_P D vwCl ws U.heap ∧ KU D cI cJ cZ cY U ∧ va_D (fun _ => True) ws ∧ ST tX tY (va_A ws sz) U U.heap)
theorem PC.blind {D : va_G} {cI cJ cZ cY : ClassId} {tX tY : Nat} {av : List Value} {ws : va_W} {sz : Nat} : FrameBlind (PC D cI cJ cZ cY tX tY av ws sz) := by
  intro a U g mk q
  obtain ⟨q0, q1, qP, qK, qD, qT⟩ := q
  exact ⟨q0, q1, qP, KU.same (u := U) (U := U.calling g mk a) rfl qK, qD, ST.moved (u := U) (U := U.calling g mk a) (Vm.Alike.refl U.vm) qT⟩
theorem fm_some {α β : Type} (f : α → Option β) : ∀ (l : List α) (r : List β), l.map f = r.map some → l.filterMap f = r
  | [], [], _ => rfl
  | [], _ :: _, h => by cases h
  | _ :: _, [], h => by cases h
  | x :: xs, y :: ys, h => by
    have h1 : f x = some y := (List.cons.inj h).1
    have h2 := fm_some f xs ys (List.cons.inj h).2
    rw [List.filterMap_cons_some h1, h2]
theorem PC.pre {D : va_G} {cI cJ cZ cY : ClassId} {tX tY : Nat} {av : List Value} {ws cx : va_W} {s : State} {H : Heap} {A0 : Nat → Prop} {locs : List Loc} (hK : KU D cI cJ cZ cY s) (hT : ST tX tY A0 s s.heap) (hP : va_P D vwCl ws H) (hD : va_D A0 ws) (hS : va_S A0 s.heap H locs) (hA : ∀ q, s.heap.size ≤ q → A0 q) (isC : List Nat) (hC : isC.map (fun i => ws[i]?) = cx.map some) (hn : va_nd isC = true) :
    ∀ U : State, U.heap = H → s.WarmedH U.vm → PC D cI cJ cZ cY tX tY av cx H.size av.toArray U := by
  intro U hU hW
  have hF := va_free (wc := cx) hD hS hA isC hC
  have hP1 := hP.sub (ws' := cx) isC (fm_some _ _ _ hC)
  have hD1 := hD.sub (ws' := cx) isC hn hC
  refine ⟨rfl, by rw [hU], by rw [hU]; exact hP1, hK.warm hW, hD1.weaken (fun _ _ _ _ => trivial), ?_⟩
  rw [hU]
  exact ((hT.kept (fun a h1 h2 => hS.2.1 a h1 h2)).narrow hF).moved hW.alike
theorem goodTB {c : Cond} {y : MethodName} {bytes : ByteArray} {n : Nat} {r : Option FieldType} (h : Cond.code y bytes n r ∈ TB) : GoodIn (c :: TB) (Cond.code y bytes n r :: TB) := by
  intro w hw
  rcases List.mem_cons.mp hw with e | hw
  · subst e
    exact ⟨List.mem_cons_of_mem _ h, good_of_word (tb_good h)⟩
  · exact ⟨List.mem_cons_of_mem _ hw, good_of_word (tb_good hw)⟩
section CW
variable {R : Room} {s : State} {args : Array Value} {own C host : String} {index maxL mc ms : Nat} {y : MethodName} {bytes : ByteArray} {ret : Option FieldType} {rm : Room} {c0 : Cond}
theorem cw_B (n : Nat) (ht : ∀ w ∈ TB, w.before args s = true) (hc : Cond.code y bytes maxL ret ∈ TB) (hini : Cond.initialized y.cls ∈ TB) (hl : Cond.methodLink own index y ∈ TB) (hrc : rm.cells = mc) (hrs : rm.slots = ms)
    (hd : y.cls ≠ "java/lang/invoke/MethodHandle" ∧ y.cls ≠ "java/lang/invoke/VarHandle" ∧ (parseMethodDescriptor y.desc).map (fun d => d.parameters.length) = some n) (hR : rm.frames + 1 ≤ R.frames ∧ 8 + (maxL + 11) + rm.locals ≤ R.locals) : CallB R s args own index y bytes maxL ret (Cond.code y bytes maxL ret :: TB) rm mc ms n :=
  callB_of (Ts := Cond.code y bytes maxL ret :: TB) n (fun w hw => (List.mem_cons.mp hw).elim (fun e => by rw [e]; exact ht _ hc) (ht w)) (goodTB hc) rfl hrc hrs (ht _ hini) (ht _ hl) hd hR
theorem cw_V (n : Nat) (ht : ∀ w ∈ TB, w.before args s = true) (hc : Cond.code y bytes maxL ret ∈ TB) (hini : Cond.initialized y.cls ∈ TB) (hl : Cond.methodLink own index y ∈ TB) (hi : Cond.instanceMethod y ∈ TB) (hs : Cond.selects C y y ∈ TB) (hrc : rm.cells = mc) (hrs : rm.slots = ms)
    (hd : y.cls ≠ "java/lang/invoke/MethodHandle" ∧ y.cls ≠ "java/lang/invoke/VarHandle" ∧ (parseMethodDescriptor y.desc).map (fun d => d.parameters.length) = some n) (hR : rm.frames + 1 ≤ R.frames ∧ 8 + (maxL + 11) + rm.locals ≤ R.locals) : CallW R s args own C index y bytes maxL ret (Cond.code y bytes maxL ret :: TB) rm mc ms n :=
  ⟨cw_B n ht hc hini hl hrc hrs hd hR, ht _ hi, ht _ hs⟩
theorem cw_S (n : Nat) (ht : ∀ w ∈ TB, w.before args s = true) (hc : Cond.code y bytes maxL ret ∈ TB) (hini : Cond.initialized y.cls ∈ TB) (hl : Cond.methodLink own index y ∈ TB) (hs : Cond.static y ∈ TB) (hrc : rm.cells = mc) (hrs : rm.slots = ms)
    (hd : y.cls ≠ "java/lang/invoke/MethodHandle" ∧ y.cls ≠ "java/lang/invoke/VarHandle" ∧ (parseMethodDescriptor y.desc).map (fun d => d.parameters.length) = some n) (hR : rm.frames + 1 ≤ R.frames ∧ 8 + (maxL + 11) + rm.locals ≤ R.locals) : CallB R s args own index y bytes maxL ret (Cond.code y bytes maxL ret :: TB) rm mc ms n ∧ (Cond.static y).before args s = true :=
  ⟨cw_B n ht hc hini hl hrc hrs hd hR, ht _ hs⟩
theorem cw_SN (n : Nat) (ht : ∀ w ∈ TB, w.before args s = true) (hc : Cond.code y bytes maxL ret ∈ TB) (hini : Cond.initialized y.cls ∈ TB) (hl : va_Nw (.methodLinkNest own index y host) s) (hs : Cond.static y ∈ TB) (hrc : rm.cells = mc) (hrs : rm.slots = ms)
    (hd : y.cls ≠ "java/lang/invoke/MethodHandle" ∧ y.cls ≠ "java/lang/invoke/VarHandle" ∧ (parseMethodDescriptor y.desc).map (fun d => d.parameters.length) = some n) (hR : rm.frames + 1 ≤ R.frames ∧ 8 + (maxL + 11) + rm.locals ≤ R.locals) : va_CN R s args own index y host bytes maxL ret (Cond.code y bytes maxL ret :: TB) rm mc ms n ∧ (Cond.static y).before args s = true ∧ True :=
  ⟨va_cnB (Ts := Cond.code y bytes maxL ret :: TB) n (fun w hw => (List.mem_cons.mp hw).elim (fun e => by rw [e]; exact ht _ hc) (ht w)) (goodTB hc) rfl hrc hrs hl (ht _ hini) hd hR, ht _ hs, trivial⟩
end CW
def BC (D : va_G) {S : Type} (wf : S → va_W) (A : Nat → Prop) : S → State → Prop := fun u t => va_P D vwCl (wf u) t.heap ∧ va_D A (wf u)
def lpick (ws : va_W) (is : List Nat) : va_W := is.filterMap (fun i => ws[i]?)
section CC
variable {p : Program} {l : Launch} {e : Env} {R : Room} {s : State} {m : MethodId} {args : Array Value} {below : List Frame} {meth : Method} {c : Code} {H : Heap} {locs : List Loc} {cells slots mc ms : Nat} {Q : State → Prop} {pc : Nat} {ls : Array Slot} {st0 rest : List Value} {D : va_G} {A0 : Nat → Prop} {a : Array Value}
theorem W.genQ {Q0 : State → Prop} {g : JFrame} (h : ∀ Q, Q = Q0 → W p l e R s m args below meth c H locs cells slots Q g) : W p l e R s m args below meth c H locs cells slots Q0 g := h _ rfl
theorem cc_i {S : Type} {post : Int32 → S → Prop} {wf : S → va_W} {ws cx : va_W} (hr : va_Run p l e R s m args below meth c H locs cells slots mc ms (F0 m pc ls st0) rest (va_Qi post (BC D wf (va_A cx H.size)) (va_A cx H.size) a) (va_A cx H.size)) (hP : va_P D vwCl ws H) (hD : va_D A0 ws) (hS : va_S A0 s.heap H locs) (hA : ∀ q, s.heap.size ≤ q → A0 q) (isC isR : List Nat) (hC : isC.map (fun i => ws[i]?) = cx.map some) (hR : isR.map (fun i => ws[i]?) = (lpick ws isR).map some) (hn : va_nd isR = true) (hdis : ∀ i ∈ isR, i ∉ isC)
    (kk : ∀ (r : Int32) (u : S) (H1 : Heap) (locs1 : List Loc), post r u → va_P D vwCl (lpick ws isR ++ wf u) H1 → va_D A0 (lpick ws isR ++ wf u) → va_S A0 s.heap H1 locs1 → W p l e R s m args below meth c H1 locs1 (cells + mc) (slots + ms) Q (F0 m (pc + 3) ls (.int r :: rest))) : W p l e R s m args below meth c H locs cells slots Q (F0 m pc ls st0) := by
  have hF := va_free (wc := cx) hD hS hA isC hC
  refine va_calli hr hS (fun q _ h => hF q h) hF (fun r u t H1 locs1 ht hvm hw hB hz1 hk1 hS1 => ?_)
  obtain ⟨hP1, hD1⟩ := hB
  rw [ht] at hP1
  obtain ⟨hP2, hD2⟩ := va_join hP hD isC isR hC hR hn hdis hk1 hF hP1 hD1
  exact kk r u H1 locs1 hw hP2 hD2 hS1
theorem cc_l {S : Type} {post : Int64 → S → Prop} {wf : S → va_W} {ws cx : va_W} (hr : va_Run p l e R s m args below meth c H locs cells slots mc ms (F0 m pc ls st0) rest (va_Ql post (BC D wf (va_A cx H.size)) (va_A cx H.size) a) (va_A cx H.size)) (hP : va_P D vwCl ws H) (hD : va_D A0 ws) (hS : va_S A0 s.heap H locs) (hA : ∀ q, s.heap.size ≤ q → A0 q) (isC isR : List Nat) (hC : isC.map (fun i => ws[i]?) = cx.map some) (hR : isR.map (fun i => ws[i]?) = (lpick ws isR).map some) (hn : va_nd isR = true) (hdis : ∀ i ∈ isR, i ∉ isC)
    (kk : ∀ (r : Int64) (u : S) (H1 : Heap) (locs1 : List Loc), post r u → va_P D vwCl (lpick ws isR ++ wf u) H1 → va_D A0 (lpick ws isR ++ wf u) → va_S A0 s.heap H1 locs1 → W p l e R s m args below meth c H1 locs1 (cells + mc) (slots + ms) Q (F0 m (pc + 3) ls (.long r :: rest))) : W p l e R s m args below meth c H locs cells slots Q (F0 m pc ls st0) := by
  have hF := va_free (wc := cx) hD hS hA isC hC
  refine va_calll hr hS (fun q _ h => hF q h) hF (fun r u t H1 locs1 ht hvm hw hB hz1 hk1 hS1 => ?_)
  obtain ⟨hP1, hD1⟩ := hB
  rw [ht] at hP1
  obtain ⟨hP2, hD2⟩ := va_join hP hD isC isR hC hR hn hdis hk1 hF hP1 hD1
  exact kk r u H1 locs1 hw hP2 hD2 hS1
theorem cc_v {S : Type} {post : S → Prop} {wf : S → va_W} {ws cx : va_W} (hr : va_Run p l e R s m args below meth c H locs cells slots mc ms (F0 m pc ls st0) rest (va_Qv post (BC D wf (va_A cx H.size)) (va_A cx H.size) a) (va_A cx H.size)) (hP : va_P D vwCl ws H) (hD : va_D A0 ws) (hS : va_S A0 s.heap H locs) (hA : ∀ q, s.heap.size ≤ q → A0 q) (isC isR : List Nat) (hC : isC.map (fun i => ws[i]?) = cx.map some) (hR : isR.map (fun i => ws[i]?) = (lpick ws isR).map some) (hn : va_nd isR = true) (hdis : ∀ i ∈ isR, i ∉ isC)
    (kk : ∀ (u : S) (H1 : Heap) (locs1 : List Loc), post u → va_P D vwCl (lpick ws isR ++ wf u) H1 → va_D A0 (lpick ws isR ++ wf u) → va_S A0 s.heap H1 locs1 → W p l e R s m args below meth c H1 locs1 (cells + mc) (slots + ms) Q (F0 m (pc + 3) ls (rest))) : W p l e R s m args below meth c H locs cells slots Q (F0 m pc ls st0) := by
  have hF := va_free (wc := cx) hD hS hA isC hC
  refine va_callv hr hS (fun q _ h => hF q h) hF (fun u t H1 locs1 ht hvm hw hB hz1 hk1 hS1 => ?_)
  obtain ⟨hP1, hD1⟩ := hB
  rw [ht] at hP1
  obtain ⟨hP2, hD2⟩ := va_join hP hD isC isR hC hR hn hdis hk1 hF hP1 hD1
  exact kk u H1 locs1 hw hP2 hD2 hS1
end CC
