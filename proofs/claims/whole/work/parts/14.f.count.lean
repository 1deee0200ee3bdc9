-- layer 2: how many bits
def bcN (x : Nat) : Nat :=
  (fun a => (fun b => (fun c => (fun d => (fun e => Nat.land e 63) (Nat.add d (Nat.shiftRight d 16))) (Nat.add c (Nat.shiftRight c 8))) (Nat.land (Nat.add b (Nat.shiftRight b 4)) 252645135)) (Nat.add (Nat.land a 858993459) (Nat.land (Nat.shiftRight a 2) 858993459))) (Nat.sub x (Nat.land (Nat.shiftRight x 1) 1431655765))
def bcA (p : Nat → Bool) : Nat → Bool
  | 0 => true
  | n + 1 => cond (p n) (bcA p n) false
def bcT (hi : Nat) : Bool := bcA (fun lo => Nat.beq (bcN (Nat.add (Nat.mul hi 256) lo)) (Nat.add (bcN (Nat.div (Nat.add (Nat.mul hi 256) lo) 2)) (Nat.mod lo 2))) 256
theorem bc_all : bcA bcT 512 = true := by decide +kernel
