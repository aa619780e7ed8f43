/-! MATHEMATICS 3: complements: what the table shows -/
def cmQ (n c x y : Nat) : Bool := allK (fun p => cond (Nat.ble p x) true (cond (Nat.ble p y) (Nat.ble (Nat.succ x) (rwQ c p)) (cond (Nat.ble (rwQ c p) x) true (Nat.ble (Nat.succ y) (rwQ c p))))) n
def bqB (a b : Bool) : Bool := cond a b (cond b false true)
def lwQ (n c : Nat) : Bool := Nat.beq (Nat.mod c (Nat.pow 8 (Nat.sub 8 n))) 0
def t1Q (n c d : Nat) : Bool := cond (wlQ n d) (cond (lwQ n d) (cond (allK (fun x => Nat.beq (prevQ n c (aftQ n x)) (nextQ n d x)) n) (allK (fun y => allK (fun x => bqB (Nat.beq (rwQ d x) (rwQ d y)) (cmQ n c x y)) y) n) false) false) false
def t1A (n k m : Nat) : Bool := allK (fun j => frc (tb n (Nat.add k j)) fun c => frc (coM n c) fun d => t1Q n c d) m
theorem t1_1 : t1A 1 0 1 = true := by decide +kernel
theorem t1_2 : t1A 2 0 2 = true := by decide +kernel
theorem t1_3 : t1A 3 0 5 = true := by decide +kernel
theorem t1_4 : t1A 4 0 14 = true := by decide +kernel
theorem t1_5 : t1A 5 0 42 = true := by decide +kernel
theorem t1_6 : t1A 6 0 132 = true := by decide +kernel
theorem t1_7 : t1A 7 0 429 = true := by decide +kernel
theorem t1_8a : t1A 8 0 360 = true := by decide +kernel
theorem t1_8b : t1A 8 360 360 = true := by decide +kernel
theorem t1_8c : t1A 8 720 360 = true := by decide +kernel
theorem t1_8d : t1A 8 1080 350 = true := by decide +kernel
