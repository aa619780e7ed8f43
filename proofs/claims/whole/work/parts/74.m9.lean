/-! MATHEMATICS 9: pairs, the one below the other: what the table shows -/
def i2Q (n a d b : Nat) : Bool := frc (meM n b d) fun c => cond (Nat.beq (Nat.add (rkQ n c) (rkQ n a)) (rkQ n b)) (allK (fun x => frc (nextQ n b x) fun y => Nat.beq (nextQ n c x) (prevQ n a y)) n) false
def i2A (n k m : Nat) : Bool := allK (fun j => frc (tb n (Nat.add k j)) fun a => frc (mkQ n a) fun ma => frc (coM n a) fun d => allK (fun i => frc (tb n i) fun b => cond (leQ ma (mkQ n b)) (i2Q n a d b) true) (catN n)) m
theorem i2_1_0 : i2A 1 0 1 = true := by decide +kernel
theorem i2_2_0 : i2A 2 0 2 = true := by decide +kernel
theorem i2_3_0 : i2A 3 0 5 = true := by decide +kernel
theorem i2_4_0 : i2A 4 0 14 = true := by decide +kernel
theorem i2_5_0 : i2A 5 0 42 = true := by decide +kernel
theorem i2_6_0 : i2A 6 0 132 = true := by decide +kernel
theorem i2_8_1000 : i2A 8 1000 10 = true := by decide +kernel
