/-! MATHEMATICS 9: what lies above each partition: what the table shows -/
def moN (r : Nat → Nat) (n : Nat) : Nat → Nat
  | 0 => 1
  | x + 1 => if r x == x then moN r n x * catN (szF r n x - 1) else moN r n x
def moS (r : Nat → Nat) (n : Nat) : Nat → Bool
  | 0 => false
  | x + 1 => if r x == x then (if szF r n x % 2 = 1 then moS r n x else !moS r n x) else moS r n x
def copQ (n c : Nat) : Nat := (copF (cr n c) n n).2
def mkT (n i : Nat) : Nat := mkQ n (tb n i)
/-- two blocks, of the least points x and y, made one -/
def mgQ (n c x y : Nat) : Nat := Nat.rec (motive := fun _ => Nat) 0 (fun p ih => Nat.add ih (Nat.mul (cond (Nat.beq (rwQ c p) y) x (rwQ c p)) (Nat.pow 8 (Nat.sub 7 p)))) n
def clX (n c y : Nat) (rest : List Nat) (m : Nat) : Nat → List Nat := Nat.rec (motive := fun _ => Nat → List Nat) (fun _ => rest) (fun _ ih x => cond (Nat.beq (rwQ c x) x) (frc (mgQ n c x y) fun u => cond (wlQ n u) (numM n u :: ih (Nat.succ x)) (ih (Nat.succ x))) (ih (Nat.succ x))) m
def clY (n c : Nat) (m : Nat) : Nat → List Nat := Nat.rec (motive := fun _ => Nat → List Nat) (fun _ => []) (fun _ ih y => cond (Nat.beq (rwQ c y) y) (clX n c y (ih (Nat.succ y)) y 0) (ih (Nat.succ y))) m
def hdQ (l : List Nat) (i : Nat) (k : List Nat → Bool) : Bool := match l with
  | [] => false
  | h :: t => cond (Nat.beq h i) (k t) false
def niQ (l : List Nat) : Bool := match l with
  | [] => true
  | _ :: _ => false
/-- of b above a, with the complement d of a: c, the part of b in d -/
def i2R (n a b c : Nat) : Bool := cond (Nat.beq (Nat.add (rkQ n c) (rkQ n a)) (rkQ n b)) (allK (fun x => frc (nextQ n b x) fun y => Nat.beq (nextQ n c x) (prevQ n a y)) n) false
def wtQ (n c rd : Nat) : Nat := Nat.add (cond (Nat.beq (Nat.succ (rkQ n c)) rd) (Nat.add 4097 (Nat.mul 4722366482869645213696 (copQ n c))) 1) (Nat.mul (cond (moS (cr n c) n n) 281474976710656 16777216) (moN (cr n c) n n))
def pgQ (n a ma d rd ra : Nat) (fin : Nat → List Nat → Bool) (m : Nat) : Nat → Nat → List Nat → Bool := Nat.rec (motive := fun _ => Nat → Nat → List Nat → Bool) (fun _ acc l => fin acc l) (fun _ ih i acc l => cond (Nat.beq (Nat.land ma (mkT n i)) ma) (frc (tb n i) fun b => frc (meM n b d) fun c => cond (i2R n a b c) (cond (Nat.ble (moN (cr n c) n n) 4095) (frc (Nat.add acc (wtQ n c rd)) fun acc => cond (Nat.beq (rkQ n b) (Nat.succ ra)) (hdQ l i fun l => frc (Nat.succ i) fun i => ih i acc l) (frc (Nat.succ i) fun i => ih i acc l)) false) false) (frc (Nat.succ i) fun i => ih i acc l)) m
def fnQ (n d rd acc : Nat) (l : List Nat) : Bool := cond (niQ l) (cond (Nat.ble (sopF (cr n d) n n) 4095) (cond (Nat.ble (prsF (cr n d) n n) 4095) (Nat.beq (Nat.mod acc 16777216) (Nat.add (sopF (cr n d) n n) (Nat.mul 4096 (prsF (cr n d) n n)))) false) false) false
def fn2 (n d rd acc : Nat) : Bool := cond (Nat.beq (Nat.mod (Nat.div acc 16777216) 16777216) (Nat.add (Nat.mod (Nat.div acc 281474976710656) 16777216) (cond (Nat.beq rd 0) 1 0))) (Nat.beq (Nat.div acc 4722366482869645213696) (cond (Nat.beq rd 0) 0 (copQ n d))) false
def pgA (n k m : Nat) : Bool := allK (fun j => frc (Nat.add k j) fun j => frc (tb n j) fun a => frc (mkQ n a) fun ma => frc (coM n a) fun d => frc (rkQ n d) fun rd => frc (rkQ n a) fun ra => pgQ n a ma d rd ra (fun acc l => cond (fnQ n d rd acc l) (fn2 n d rd acc) false) (Nat.succ j) 0 0 (clY n a (Nat.sub n 1) 1)) m
theorem pg_1_0 : pgA 1 0 1 = true := by decide +kernel
theorem pg_2_0 : pgA 2 0 2 = true := by decide +kernel
theorem pg_3_0 : pgA 3 0 5 = true := by decide +kernel
theorem pg_4_0 : pgA 4 0 14 = true := by decide +kernel
theorem pg_5_0 : pgA 5 0 42 = true := by decide +kernel
theorem pg_6_0 : pgA 6 0 132 = true := by decide +kernel
theorem pg_7_0 : pgA 7 0 300 = true := by decide +kernel
theorem pg_7_300 : pgA 7 300 129 = true := by decide +kernel
theorem pg_8_0 : pgA 8 0 171 = true := by decide +kernel
theorem pg_8_171 : pgA 8 171 135 = true := by decide +kernel
theorem pg_8_306 : pgA 8 306 98 = true := by decide +kernel
theorem pg_8_404 : pgA 8 404 73 = true := by decide +kernel
theorem pg_8_477 : pgA 8 477 84 = true := by decide +kernel
theorem pg_8_561 : pgA 8 561 130 = true := by decide +kernel
theorem pg_8_691 : pgA 8 691 97 = true := by decide +kernel
theorem pg_8_788 : pgA 8 788 66 = true := by decide +kernel
theorem pg_8_854 : pgA 8 854 59 = true := by decide +kernel
theorem pg_8_913 : pgA 8 913 77 = true := by decide +kernel
