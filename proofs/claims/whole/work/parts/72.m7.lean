/-! MATHEMATICS 7: places, singles, largest blocks: what the table shows -/
def p5A (n k m : Nat) : Bool := allK (fun j => Nat.beq (plcF (cr n (tb n (Nat.add k j))) n) (Nat.add k j)) m
def k5A (n k m : Nat) : Bool := allK (fun j => Nat.beq (taC n (Nat.add k j)) (tb n (Nat.add k j))) m
def s5A (n k m : Nat) : Bool := allK (fun j => frc (tb n (Nat.add k j)) fun c => cond (Nat.beq (sglF (cr n c) n n) (alM n c n)) (Nat.beq (lgF (cr n c) n n) (mxM n c n)) false) m
theorem p5_1 : p5A 1 0 1 = true := by decide +kernel
theorem p5_2 : p5A 2 0 2 = true := by decide +kernel
theorem p5_3 : p5A 3 0 5 = true := by decide +kernel
theorem p5_4 : p5A 4 0 14 = true := by decide +kernel
theorem p5_5 : p5A 5 0 42 = true := by decide +kernel
theorem p5_6 : p5A 6 0 132 = true := by decide +kernel
theorem p5_7 : p5A 7 0 429 = true := by decide +kernel
theorem p5_8 : p5A 8 0 1430 = true := by decide +kernel
theorem k5_1 : k5A 1 0 1 = true := by decide +kernel
theorem k5_2 : k5A 2 0 2 = true := by decide +kernel
theorem k5_3 : k5A 3 0 5 = true := by decide +kernel
theorem k5_4 : k5A 4 0 14 = true := by decide +kernel
theorem k5_5 : k5A 5 0 42 = true := by decide +kernel
theorem k5_6 : k5A 6 0 132 = true := by decide +kernel
theorem k5_7 : k5A 7 0 429 = true := by decide +kernel
theorem k5_8 : k5A 8 0 1430 = true := by decide +kernel
theorem s5_1 : s5A 1 0 1 = true := by decide +kernel
theorem s5_2 : s5A 2 0 2 = true := by decide +kernel
theorem s5_3 : s5A 3 0 5 = true := by decide +kernel
theorem s5_4 : s5A 4 0 14 = true := by decide +kernel
theorem s5_5 : s5A 5 0 42 = true := by decide +kernel
theorem s5_6 : s5A 6 0 132 = true := by decide +kernel
theorem s5_7 : s5A 7 0 429 = true := by decide +kernel
theorem s5_8 : s5A 8 0 1430 = true := by decide +kernel
