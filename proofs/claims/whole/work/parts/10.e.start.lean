-- what the law's entry gives: the classes, the arrays' classes, the static rows
theorem eq_term_int {args : Array Value} {s : State} {tm : Term} {z : Int32} (h : (Cond.eq tm (.int z)).before args s = true) : tm.eval args s none [] s = some (.int z) := by
  cases hv : tm.eval args s none [] s with
  | none => simp [Cond.before, Cond.holds, Cond.value, hv] at h
  | some w =>
    have hz : (Term.int z).eval args s none [] s = some (.int z) := rfl
    simp only [Cond.before, Cond.holds, Cond.value, hv, hz] at h
    cases w <;> simp_all
set_option maxRecDepth 20000 in
theorem el_wyX_0 {args : Array Value} {s : State} (hgv : (Jvm.Cond.and given_1 narrow_1).before args s = true) : ∀ j : Nat, j < 16 → (Term.elem (.static "ManyEyes" "WAY_X" "[I") (.int (Int32.ofNat (0 + j)))).eval args s none [] s = some (.int (wyX (0 + j))) := by
  have hs := flat_of_before _ hgv
  intro j h2
  match j, h2 with
  | 0, _ => exact eq_term_int (z := 16) (hs _ (List.mem_of_getElem? (i := 7) rfl))
  | 1, _ => exact eq_term_int (z := 16) (hs _ (List.mem_of_getElem? (i := 8) rfl))
  | 2, _ => exact eq_term_int (z := 16) (hs _ (List.mem_of_getElem? (i := 9) rfl))
  | 3, _ => exact eq_term_int (z := 16) (hs _ (List.mem_of_getElem? (i := 10) rfl))
  | 4, _ => exact eq_term_int (z := 16) (hs _ (List.mem_of_getElem? (i := 11) rfl))
  | 5, _ => exact eq_term_int (z := 16) (hs _ (List.mem_of_getElem? (i := 12) rfl))
  | 6, _ => exact eq_term_int (z := 16) (hs _ (List.mem_of_getElem? (i := 13) rfl))
  | 7, _ => exact eq_term_int (z := 16) (hs _ (List.mem_of_getElem? (i := 14) rfl))
  | 8, _ => exact eq_term_int (z := 16) (hs _ (List.mem_of_getElem? (i := 15) rfl))
  | 9, _ => exact eq_term_int (z := 16) (hs _ (List.mem_of_getElem? (i := 16) rfl))
  | 10, _ => exact eq_term_int (z := 16) (hs _ (List.mem_of_getElem? (i := 17) rfl))
  | 11, _ => exact eq_term_int (z := 16) (hs _ (List.mem_of_getElem? (i := 18) rfl))
  | 12, _ => exact eq_term_int (z := 16) (hs _ (List.mem_of_getElem? (i := 19) rfl))
  | 13, _ => exact eq_term_int (z := 16) (hs _ (List.mem_of_getElem? (i := 20) rfl))
  | 14, _ => exact eq_term_int (z := 16) (hs _ (List.mem_of_getElem? (i := 21) rfl))
  | 15, _ => exact eq_term_int (z := 16) (hs _ (List.mem_of_getElem? (i := 22) rfl))
  | z + 16, h2 => exact absurd h2 (by omega)
set_option maxRecDepth 20000 in
theorem el_wyX_16 {args : Array Value} {s : State} (hgv : (Jvm.Cond.and given_1 narrow_1).before args s = true) : ∀ j : Nat, j < 16 → (Term.elem (.static "ManyEyes" "WAY_X" "[I") (.int (Int32.ofNat (16 + j)))).eval args s none [] s = some (.int (wyX (16 + j))) := by
  have hs := flat_of_before _ hgv
  intro j h2
  match j, h2 with
  | 0, _ => exact eq_term_int (z := 16) (hs _ (List.mem_of_getElem? (i := 23) rfl))
  | 1, _ => exact eq_term_int (z := 14) (hs _ (List.mem_of_getElem? (i := 24) rfl))
  | 2, _ => exact eq_term_int (z := 12) (hs _ (List.mem_of_getElem? (i := 25) rfl))
  | 3, _ => exact eq_term_int (z := 10) (hs _ (List.mem_of_getElem? (i := 26) rfl))
  | 4, _ => exact eq_term_int (z := 8) (hs _ (List.mem_of_getElem? (i := 27) rfl))
  | 5, _ => exact eq_term_int (z := 6) (hs _ (List.mem_of_getElem? (i := 28) rfl))
  | 6, _ => exact eq_term_int (z := 4) (hs _ (List.mem_of_getElem? (i := 29) rfl))
  | 7, _ => exact eq_term_int (z := 2) (hs _ (List.mem_of_getElem? (i := 30) rfl))
  | 8, _ => exact eq_term_int (z := 0) (hs _ (List.mem_of_getElem? (i := 31) rfl))
  | 9, _ => exact eq_term_int (z := -2) (hs _ (List.mem_of_getElem? (i := 32) rfl))
  | 10, _ => exact eq_term_int (z := -4) (hs _ (List.mem_of_getElem? (i := 33) rfl))
  | 11, _ => exact eq_term_int (z := -6) (hs _ (List.mem_of_getElem? (i := 34) rfl))
  | 12, _ => exact eq_term_int (z := -8) (hs _ (List.mem_of_getElem? (i := 35) rfl))
  | 13, _ => exact eq_term_int (z := -10) (hs _ (List.mem_of_getElem? (i := 36) rfl))
  | 14, _ => exact eq_term_int (z := -12) (hs _ (List.mem_of_getElem? (i := 37) rfl))
  | 15, _ => exact eq_term_int (z := -14) (hs _ (List.mem_of_getElem? (i := 38) rfl))
  | z + 16, h2 => exact absurd h2 (by omega)
set_option maxRecDepth 20000 in
theorem el_wyX_32 {args : Array Value} {s : State} (hgv : (Jvm.Cond.and given_1 narrow_1).before args s = true) : ∀ j : Nat, j < 16 → (Term.elem (.static "ManyEyes" "WAY_X" "[I") (.int (Int32.ofNat (32 + j)))).eval args s none [] s = some (.int (wyX (32 + j))) := by
  have hs := flat_of_before _ hgv
  intro j h2
  match j, h2 with
  | 0, _ => exact eq_term_int (z := -16) (hs _ (List.mem_of_getElem? (i := 39) rfl))
  | 1, _ => exact eq_term_int (z := -16) (hs _ (List.mem_of_getElem? (i := 40) rfl))
  | 2, _ => exact eq_term_int (z := -16) (hs _ (List.mem_of_getElem? (i := 41) rfl))
  | 3, _ => exact eq_term_int (z := -16) (hs _ (List.mem_of_getElem? (i := 42) rfl))
  | 4, _ => exact eq_term_int (z := -16) (hs _ (List.mem_of_getElem? (i := 43) rfl))
  | 5, _ => exact eq_term_int (z := -16) (hs _ (List.mem_of_getElem? (i := 44) rfl))
  | 6, _ => exact eq_term_int (z := -16) (hs _ (List.mem_of_getElem? (i := 45) rfl))
  | 7, _ => exact eq_term_int (z := -16) (hs _ (List.mem_of_getElem? (i := 46) rfl))
  | 8, _ => exact eq_term_int (z := -16) (hs _ (List.mem_of_getElem? (i := 47) rfl))
  | 9, _ => exact eq_term_int (z := -16) (hs _ (List.mem_of_getElem? (i := 48) rfl))
  | 10, _ => exact eq_term_int (z := -16) (hs _ (List.mem_of_getElem? (i := 49) rfl))
  | 11, _ => exact eq_term_int (z := -16) (hs _ (List.mem_of_getElem? (i := 50) rfl))
  | 12, _ => exact eq_term_int (z := -16) (hs _ (List.mem_of_getElem? (i := 51) rfl))
  | 13, _ => exact eq_term_int (z := -16) (hs _ (List.mem_of_getElem? (i := 52) rfl))
  | 14, _ => exact eq_term_int (z := -16) (hs _ (List.mem_of_getElem? (i := 53) rfl))
  | 15, _ => exact eq_term_int (z := -16) (hs _ (List.mem_of_getElem? (i := 54) rfl))
  | z + 16, h2 => exact absurd h2 (by omega)
set_option maxRecDepth 20000 in
theorem el_wyX_48 {args : Array Value} {s : State} (hgv : (Jvm.Cond.and given_1 narrow_1).before args s = true) : ∀ j : Nat, j < 16 → (Term.elem (.static "ManyEyes" "WAY_X" "[I") (.int (Int32.ofNat (48 + j)))).eval args s none [] s = some (.int (wyX (48 + j))) := by
  have hs := flat_of_before _ hgv
  intro j h2
  match j, h2 with
  | 0, _ => exact eq_term_int (z := -16) (hs _ (List.mem_of_getElem? (i := 55) rfl))
  | 1, _ => exact eq_term_int (z := -14) (hs _ (List.mem_of_getElem? (i := 56) rfl))
  | 2, _ => exact eq_term_int (z := -12) (hs _ (List.mem_of_getElem? (i := 57) rfl))
  | 3, _ => exact eq_term_int (z := -10) (hs _ (List.mem_of_getElem? (i := 58) rfl))
  | 4, _ => exact eq_term_int (z := -8) (hs _ (List.mem_of_getElem? (i := 59) rfl))
  | 5, _ => exact eq_term_int (z := -6) (hs _ (List.mem_of_getElem? (i := 60) rfl))
  | 6, _ => exact eq_term_int (z := -4) (hs _ (List.mem_of_getElem? (i := 61) rfl))
  | 7, _ => exact eq_term_int (z := -2) (hs _ (List.mem_of_getElem? (i := 62) rfl))
  | 8, _ => exact eq_term_int (z := 0) (hs _ (List.mem_of_getElem? (i := 63) rfl))
  | 9, _ => exact eq_term_int (z := 2) (hs _ (List.mem_of_getElem? (i := 64) rfl))
  | 10, _ => exact eq_term_int (z := 4) (hs _ (List.mem_of_getElem? (i := 65) rfl))
  | 11, _ => exact eq_term_int (z := 6) (hs _ (List.mem_of_getElem? (i := 66) rfl))
  | 12, _ => exact eq_term_int (z := 8) (hs _ (List.mem_of_getElem? (i := 67) rfl))
  | 13, _ => exact eq_term_int (z := 10) (hs _ (List.mem_of_getElem? (i := 68) rfl))
  | 14, _ => exact eq_term_int (z := 12) (hs _ (List.mem_of_getElem? (i := 69) rfl))
  | 15, _ => exact eq_term_int (z := 14) (hs _ (List.mem_of_getElem? (i := 70) rfl))
  | z + 16, h2 => exact absurd h2 (by omega)
theorem el_wyX {args : Array Value} {s : State} (hgv : (Jvm.Cond.and given_1 narrow_1).before args s = true) (j : Nat) (hj : j < 64) : (Term.elem (.static "ManyEyes" "WAY_X" "[I") (.int (Int32.ofNat j))).eval args s none [] s = some (.int (wyX j)) := by
  rcases Nat.lt_or_ge j 16 with h | h
  · have q := el_wyX_0 hgv j h
    rw [Nat.zero_add] at q
    exact q
  rcases Nat.lt_or_ge j 32 with h2 | h2
  · have q := el_wyX_16 hgv (j - 16) (by omega)
    rw [show 16 + (j - 16) = j by omega] at q
    exact q
  rcases Nat.lt_or_ge j 48 with h3 | h3
  · have q := el_wyX_32 hgv (j - 32) (by omega)
    rw [show 32 + (j - 32) = j by omega] at q
    exact q
  · have q := el_wyX_48 hgv (j - 48) (by omega)
    rw [show 48 + (j - 48) = j by omega] at q
    exact q
set_option maxRecDepth 20000 in
theorem el_wyY_0 {args : Array Value} {s : State} (hgv : (Jvm.Cond.and given_1 narrow_1).before args s = true) : ∀ j : Nat, j < 16 → (Term.elem (.static "ManyEyes" "WAY_Y" "[I") (.int (Int32.ofNat (0 + j)))).eval args s none [] s = some (.int (wyY (0 + j))) := by
  have hs := flat_of_before _ hgv
  intro j h2
  match j, h2 with
  | 0, _ => exact eq_term_int (z := -16) (hs _ (List.mem_of_getElem? (i := 74) rfl))
  | 1, _ => exact eq_term_int (z := -14) (hs _ (List.mem_of_getElem? (i := 75) rfl))
  | 2, _ => exact eq_term_int (z := -12) (hs _ (List.mem_of_getElem? (i := 76) rfl))
  | 3, _ => exact eq_term_int (z := -10) (hs _ (List.mem_of_getElem? (i := 77) rfl))
  | 4, _ => exact eq_term_int (z := -8) (hs _ (List.mem_of_getElem? (i := 78) rfl))
  | 5, _ => exact eq_term_int (z := -6) (hs _ (List.mem_of_getElem? (i := 79) rfl))
  | 6, _ => exact eq_term_int (z := -4) (hs _ (List.mem_of_getElem? (i := 80) rfl))
  | 7, _ => exact eq_term_int (z := -2) (hs _ (List.mem_of_getElem? (i := 81) rfl))
  | 8, _ => exact eq_term_int (z := 0) (hs _ (List.mem_of_getElem? (i := 82) rfl))
  | 9, _ => exact eq_term_int (z := 2) (hs _ (List.mem_of_getElem? (i := 83) rfl))
  | 10, _ => exact eq_term_int (z := 4) (hs _ (List.mem_of_getElem? (i := 84) rfl))
  | 11, _ => exact eq_term_int (z := 6) (hs _ (List.mem_of_getElem? (i := 85) rfl))
  | 12, _ => exact eq_term_int (z := 8) (hs _ (List.mem_of_getElem? (i := 86) rfl))
  | 13, _ => exact eq_term_int (z := 10) (hs _ (List.mem_of_getElem? (i := 87) rfl))
  | 14, _ => exact eq_term_int (z := 12) (hs _ (List.mem_of_getElem? (i := 88) rfl))
  | 15, _ => exact eq_term_int (z := 14) (hs _ (List.mem_of_getElem? (i := 89) rfl))
  | z + 16, h2 => exact absurd h2 (by omega)
set_option maxRecDepth 20000 in
theorem el_wyY_16 {args : Array Value} {s : State} (hgv : (Jvm.Cond.and given_1 narrow_1).before args s = true) : ∀ j : Nat, j < 16 → (Term.elem (.static "ManyEyes" "WAY_Y" "[I") (.int (Int32.ofNat (16 + j)))).eval args s none [] s = some (.int (wyY (16 + j))) := by
  have hs := flat_of_before _ hgv
  intro j h2
  match j, h2 with
  | 0, _ => exact eq_term_int (z := 16) (hs _ (List.mem_of_getElem? (i := 90) rfl))
  | 1, _ => exact eq_term_int (z := 16) (hs _ (List.mem_of_getElem? (i := 91) rfl))
  | 2, _ => exact eq_term_int (z := 16) (hs _ (List.mem_of_getElem? (i := 92) rfl))
  | 3, _ => exact eq_term_int (z := 16) (hs _ (List.mem_of_getElem? (i := 93) rfl))
  | 4, _ => exact eq_term_int (z := 16) (hs _ (List.mem_of_getElem? (i := 94) rfl))
  | 5, _ => exact eq_term_int (z := 16) (hs _ (List.mem_of_getElem? (i := 95) rfl))
  | 6, _ => exact eq_term_int (z := 16) (hs _ (List.mem_of_getElem? (i := 96) rfl))
  | 7, _ => exact eq_term_int (z := 16) (hs _ (List.mem_of_getElem? (i := 97) rfl))
  | 8, _ => exact eq_term_int (z := 16) (hs _ (List.mem_of_getElem? (i := 98) rfl))
  | 9, _ => exact eq_term_int (z := 16) (hs _ (List.mem_of_getElem? (i := 99) rfl))
  | 10, _ => exact eq_term_int (z := 16) (hs _ (List.mem_of_getElem? (i := 100) rfl))
  | 11, _ => exact eq_term_int (z := 16) (hs _ (List.mem_of_getElem? (i := 101) rfl))
  | 12, _ => exact eq_term_int (z := 16) (hs _ (List.mem_of_getElem? (i := 102) rfl))
  | 13, _ => exact eq_term_int (z := 16) (hs _ (List.mem_of_getElem? (i := 103) rfl))
  | 14, _ => exact eq_term_int (z := 16) (hs _ (List.mem_of_getElem? (i := 104) rfl))
  | 15, _ => exact eq_term_int (z := 16) (hs _ (List.mem_of_getElem? (i := 105) rfl))
  | z + 16, h2 => exact absurd h2 (by omega)
set_option maxRecDepth 20000 in
theorem el_wyY_32 {args : Array Value} {s : State} (hgv : (Jvm.Cond.and given_1 narrow_1).before args s = true) : ∀ j : Nat, j < 16 → (Term.elem (.static "ManyEyes" "WAY_Y" "[I") (.int (Int32.ofNat (32 + j)))).eval args s none [] s = some (.int (wyY (32 + j))) := by
  have hs := flat_of_before _ hgv
  intro j h2
  match j, h2 with
  | 0, _ => exact eq_term_int (z := 16) (hs _ (List.mem_of_getElem? (i := 106) rfl))
  | 1, _ => exact eq_term_int (z := 14) (hs _ (List.mem_of_getElem? (i := 107) rfl))
  | 2, _ => exact eq_term_int (z := 12) (hs _ (List.mem_of_getElem? (i := 108) rfl))
  | 3, _ => exact eq_term_int (z := 10) (hs _ (List.mem_of_getElem? (i := 109) rfl))
  | 4, _ => exact eq_term_int (z := 8) (hs _ (List.mem_of_getElem? (i := 110) rfl))
  | 5, _ => exact eq_term_int (z := 6) (hs _ (List.mem_of_getElem? (i := 111) rfl))
  | 6, _ => exact eq_term_int (z := 4) (hs _ (List.mem_of_getElem? (i := 112) rfl))
  | 7, _ => exact eq_term_int (z := 2) (hs _ (List.mem_of_getElem? (i := 113) rfl))
  | 8, _ => exact eq_term_int (z := 0) (hs _ (List.mem_of_getElem? (i := 114) rfl))
  | 9, _ => exact eq_term_int (z := -2) (hs _ (List.mem_of_getElem? (i := 115) rfl))
  | 10, _ => exact eq_term_int (z := -4) (hs _ (List.mem_of_getElem? (i := 116) rfl))
  | 11, _ => exact eq_term_int (z := -6) (hs _ (List.mem_of_getElem? (i := 117) rfl))
  | 12, _ => exact eq_term_int (z := -8) (hs _ (List.mem_of_getElem? (i := 118) rfl))
  | 13, _ => exact eq_term_int (z := -10) (hs _ (List.mem_of_getElem? (i := 119) rfl))
  | 14, _ => exact eq_term_int (z := -12) (hs _ (List.mem_of_getElem? (i := 120) rfl))
  | 15, _ => exact eq_term_int (z := -14) (hs _ (List.mem_of_getElem? (i := 121) rfl))
  | z + 16, h2 => exact absurd h2 (by omega)
set_option maxRecDepth 20000 in
theorem el_wyY_48 {args : Array Value} {s : State} (hgv : (Jvm.Cond.and given_1 narrow_1).before args s = true) : ∀ j : Nat, j < 16 → (Term.elem (.static "ManyEyes" "WAY_Y" "[I") (.int (Int32.ofNat (48 + j)))).eval args s none [] s = some (.int (wyY (48 + j))) := by
  have hs := flat_of_before _ hgv
  intro j h2
  match j, h2 with
  | 0, _ => exact eq_term_int (z := -16) (hs _ (List.mem_of_getElem? (i := 122) rfl))
  | 1, _ => exact eq_term_int (z := -16) (hs _ (List.mem_of_getElem? (i := 123) rfl))
  | 2, _ => exact eq_term_int (z := -16) (hs _ (List.mem_of_getElem? (i := 124) rfl))
  | 3, _ => exact eq_term_int (z := -16) (hs _ (List.mem_of_getElem? (i := 125) rfl))
  | 4, _ => exact eq_term_int (z := -16) (hs _ (List.mem_of_getElem? (i := 126) rfl))
  | 5, _ => exact eq_term_int (z := -16) (hs _ (List.mem_of_getElem? (i := 127) rfl))
  | 6, _ => exact eq_term_int (z := -16) (hs _ (List.mem_of_getElem? (i := 128) rfl))
  | 7, _ => exact eq_term_int (z := -16) (hs _ (List.mem_of_getElem? (i := 129) rfl))
  | 8, _ => exact eq_term_int (z := -16) (hs _ (List.mem_of_getElem? (i := 130) rfl))
  | 9, _ => exact eq_term_int (z := -16) (hs _ (List.mem_of_getElem? (i := 131) rfl))
  | 10, _ => exact eq_term_int (z := -16) (hs _ (List.mem_of_getElem? (i := 132) rfl))
  | 11, _ => exact eq_term_int (z := -16) (hs _ (List.mem_of_getElem? (i := 133) rfl))
  | 12, _ => exact eq_term_int (z := -16) (hs _ (List.mem_of_getElem? (i := 134) rfl))
  | 13, _ => exact eq_term_int (z := -16) (hs _ (List.mem_of_getElem? (i := 135) rfl))
  | 14, _ => exact eq_term_int (z := -16) (hs _ (List.mem_of_getElem? (i := 136) rfl))
  | 15, _ => exact eq_term_int (z := -16) (hs _ (List.mem_of_getElem? (i := 137) rfl))
  | z + 16, h2 => exact absurd h2 (by omega)
theorem el_wyY {args : Array Value} {s : State} (hgv : (Jvm.Cond.and given_1 narrow_1).before args s = true) (j : Nat) (hj : j < 64) : (Term.elem (.static "ManyEyes" "WAY_Y" "[I") (.int (Int32.ofNat j))).eval args s none [] s = some (.int (wyY j)) := by
  rcases Nat.lt_or_ge j 16 with h | h
  · have q := el_wyY_0 hgv j h
    rw [Nat.zero_add] at q
    exact q
  rcases Nat.lt_or_ge j 32 with h2 | h2
  · have q := el_wyY_16 hgv (j - 16) (by omega)
    rw [show 16 + (j - 16) = j by omega] at q
    exact q
  rcases Nat.lt_or_ge j 48 with h3 | h3
  · have q := el_wyY_32 hgv (j - 32) (by omega)
    rw [show 32 + (j - 32) = j by omega] at q
    exact q
  · have q := el_wyY_48 hgv (j - 48) (by omega)
    rw [show 48 + (j - 48) = j by omega] at q
    exact q
set_option maxHeartbeats 4000000 in
set_option maxRecDepth 20000 in
theorem at_start {p : Program} {s : State} {m : MethodId} {meth : Method} {c : Code} {b L : Nat} {xs : Nat → Int32} (C0 : lw_At p s m meth c b L xs) : ∃ (D : va_G) (cI cJ cZ cY : ClassId) (tX tY : Nat), KU D cI cJ cZ cY s ∧ ST tX tY (fun q : Nat => s.heap.size ≤ q) s s.heap := by
  obtain ⟨hx, hb, hr, hml, hown, hts, hX, hbl, hlocks, hgv⟩ := C0
  have htb : ∀ w ∈ TB, w.before #[Value.ref b] s = true := fun w h => hts w (tb_tbl h)
  have hs := flat_of_before _ hgv
  have hA0 : ∀ a : Nat, a < s.heap.size → ¬ (fun q : Nat => s.heap.size ≤ q) a := fun a h => Nat.not_le.mpr h
  obtain ⟨c0, i0, k0⟩ := u_known (C := RX1) (T := TX1) (N := 7) (n := 7) htb uX1 (htb _ tg_87)
  obtain ⟨c1, i1, k1⟩ := u_known (C := RX2) (T := TX2) (N := 12) (n := 12) htb uX2 (htb _ tg_166)
  obtain ⟨c2, i2, k2⟩ := u_known (C := RX3) (T := TX3) (N := 4) (n := 4) htb uX3 (htb _ tg_285)
  obtain ⟨c3, i3, k3⟩ := u_known (C := RX4) (T := TX4) (N := 8) (n := 8) htb uX4 (htb _ tg_346)
  obtain ⟨c4, i4, k4⟩ := u_known (C := RX5) (T := TX5) (N := 6) (n := 6) htb uX5 (htb _ tg_129)
  obtain ⟨c5, i5, k5⟩ := u_known (C := RX6) (T := TX6) (N := 9) (n := 9) htb uX6 (htb _ tg_291)
  obtain ⟨c6, i6, k6⟩ := u_known (C := RX7) (T := TX7) (N := 5) (n := 5) htb uX7 (htb _ tg_263)
  obtain ⟨c7, i7, k7⟩ := u_known (C := RX8) (T := TX8) (N := 6) (n := 6) htb uX8 (htb _ tg_26)
  obtain ⟨c8, i8, k8⟩ := u_known (C := RX9) (T := TX9) (N := 8) (n := 8) htb uX9 (htb _ tg_352)
  obtain ⟨c9, i9, k9⟩ := u_known (C := RX10) (T := TX10) (N := 9) (n := 9) htb uX10 (htb _ tg_32)
  obtain ⟨c10, i10, k10⟩ := u_known (C := RX11) (T := TX11) (N := 9) (n := 9) htb uX11 (htb _ tg_18)
  obtain ⟨c11, i11, k11⟩ := u_known (C := RX12) (T := TX12) (N := 43) (n := 43) htb uX12 (htb _ tg_928)
  have harrK : ∀ ty : FieldType, (Cond.arrayClass ty).before #[Value.ref b] s = true → ∃ cA : ClassId, ArrOfT s cA ty ∧ s.vm.findClass ("[" ++ ty.toString) = some cA := by
    intro ty h
    obtain ⟨cA, k, comp, h1, h2, h3⟩ := Cond.arrayClass_spec h
    exact ⟨cA, fun n z => ⟨fun k h => (by cases h), k, h2, comp, h3⟩, h1⟩
  obtain ⟨cI, aI, fI⟩ := harrK .int (htb _ tg_85)
  obtain ⟨cJ, aJ, fJ⟩ := harrK .long (htb _ tg_1066)
  obtain ⟨cZ, aZ, fZ⟩ := harrK .boolean (htb _ tg_1067)
  have hov : (Cond.arrayOver (.array .int)).before #[Value.ref b] s = true := hts _ tw_231
  obtain ⟨comp, cY, kY, -, -, kY1, kY2, fY⟩ := arrayOverA_spec hov
  obtain ⟨tX, eX, TX_⟩ := va_Tof (ty := .int) (N := 64) (f := fun j => .int (wyX j)) (A := fun q : Nat => s.heap.size ≤ q) (tm := .static "ManyEyes" "WAY_X" "[I") (by decide) (hs _ (List.mem_of_getElem? (i := 5) rfl)) (eq_term_int (z := 64) (hs _ (List.mem_of_getElem? (i := 6) rfl))) (fun j hj => el_wyX hgv j hj) hA0
  obtain ⟨tY, eY, TY_⟩ := va_Tof (ty := .int) (N := 64) (f := fun j => .int (wyY j)) (A := fun q : Nat => s.heap.size ≤ q) (tm := .static "ManyEyes" "WAY_Y" "[I") (by decide) (hs _ (List.mem_of_getElem? (i := 72) rfl)) (eq_term_int (z := 64) (hs _ (List.mem_of_getElem? (i := 73) rfl))) (fun j hj => el_wyY hgv j hj) hA0
  have hZX := va_Zref (A := fun q : Nat => s.heap.size ≤ q) (hts _ tw_516) (htb _ tg_1) eX hA0
  have hZY := va_Zref (A := fun q : Nat => s.heap.size ≤ q) (hts _ tw_518) (htb _ tg_1) eY hA0
  refine ⟨(fun k => match k with | 0 => c0 | 1 => c1 | 2 => c2 | 3 => c3 | 4 => c4 | 5 => c5 | 6 => c6 | 7 => c7 | 8 => c8 | 9 => c9 | 10 => c10 | 11 => c11 | _ => 0, fun k => match k with | 0 => i0 | 1 => i1 | 2 => i2 | 3 => i3 | 4 => i4 | 5 => i5 | 6 => i6 | 7 => i7 | 8 => i8 | 9 => i9 | 10 => i10 | 11 => i11 | _ => fun _ => 0), cI, cJ, cZ, cY, tX, tY, ⟨⟨?_, ?_⟩, ?_, hov⟩, hZX, TX_, hZY, TY_⟩
  · intro k q hq
    match k, hq with
    | 0, hq => cases hq; exact k0
    | 1, hq => cases hq; exact k1
    | 2, hq => cases hq; exact k2
    | 3, hq => cases hq; exact k3
    | 4, hq => cases hq; exact k4
    | 5, hq => cases hq; exact k5
    | 6, hq => cases hq; exact k6
    | 7, hq => cases hq; exact k7
    | 8, hq => cases hq; exact k8
    | 9, hq => cases hq; exact k9
    | 10, hq => cases hq; exact k10
    | 11, hq => cases hq; exact k11
    | k + 12, hq => simp [vwCl] at hq
  · intro k q hq
    match k, hq with
    | 0, hq => cases hq; exact ⟨aI, fI⟩
    | 1, hq => cases hq; exact ⟨aJ, fJ⟩
    | 2, hq => cases hq; exact ⟨aZ, fZ⟩
    | 3, hq => cases hq; exact ⟨fun n z => ⟨fun k h => (by cases h), kY, kY1, comp, kY2⟩, fY⟩
    | k + 4, hq => simp at hq
  · intro w hw
    exact va_Nw.of (nestW_on w hw) (hts w (nestW_tbl w hw))
