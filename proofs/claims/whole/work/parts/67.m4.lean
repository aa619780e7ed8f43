/-! MATHEMATICS 4: rotations and complements turned back: what the table shows -/
def bfoQ (n x : Nat) : Nat := cond (Nat.beq x 0) (Nat.sub n 1) (Nat.sub x 1)
def rkQ (n c : Nat) : Nat := Nat.rec (motive := fun _ => Nat) 0 (fun x ih => cond (Nat.beq (rwQ c x) x) ih (Nat.succ ih)) n
def t3Q (n c t d e : Nat) : Bool := cond (allK (fun x => Nat.beq (aftQ n (nextQ n c (bfoQ n x))) (nextQ n t x)) n) (cond (allK (fun y => Nat.beq (aftQ n (prevQ n c y)) (nextQ n d y)) n) (cond (Nat.beq (Nat.succ (Nat.add (rkQ n c) (rkQ n e))) n) (cond (Nat.beq (coM n d) c) (Nat.beq (coM n (tuM n e)) c) false) false) false) false
def t3A (n k m : Nat) : Bool := allK (fun j => frc (tb n (Nat.add k j)) fun c => frc (tuM n c) fun t => frc (coM n t) fun d => frc (coM n c) fun e => t3Q n c t d e) m
theorem t3_1 : t3A 1 0 1 = true := by decide +kernel
theorem t3_2 : t3A 2 0 2 = true := by decide +kernel
theorem t3_3 : t3A 3 0 5 = true := by decide +kernel
theorem t3_4 : t3A 4 0 14 = true := by decide +kernel
theorem t3_5 : t3A 5 0 42 = true := by decide +kernel
theorem t3_6 : t3A 6 0 132 = true := by decide +kernel
theorem t3_7 : t3A 7 0 429 = true := by decide +kernel
theorem t3_8a : t3A 8 0 360 = true := by decide +kernel
theorem t3_8b : t3A 8 360 360 = true := by decide +kernel
theorem t3_8c : t3A 8 720 360 = true := by decide +kernel
theorem t3_8d : t3A 8 1080 350 = true := by decide +kernel
