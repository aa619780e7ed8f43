/-! PART: its methods, over rows of numbers -/
abbrev iA (n : Nat) (r : Nat → Nat) : aE := .inl (0, (n, .inl (fun i => nI (r i))))
abbrev oP (n q : Nat) : aE := .inr (3, [.int (nI n), .ref q])
/-- the sum of the first n -/
def cnt (f : Nat → Nat) : Nat → Nat
  | 0 => 0
  | n + 1 => cnt f n + f n
def alln (p : Nat → Bool) : Nat → Bool
  | 0 => true
  | n + 1 => alln p n && p n
theorem alln_s {p : Nat → Bool} {x : Nat} (h1 : alln p x = true) (h2 : p x = true) : alln p (x + 1) = true := by
  show (alln p x && p x) = true
  rw [h1, h2]; rfl
theorem alln_f {p : Nat → Bool} {x : Nat} : ∀ {n : Nat}, x < n → p x = false → alln p n = false
  | 0, h, _ => absurd h (Nat.not_lt_zero _)
  | n + 1, h, e => by
    show (alln p n && p n) = false
    by_cases w : x = n
    · subst w; rw [e, Bool.and_false]
    · rw [alln_f (by omega) e, Bool.false_and]
theorem alln_iff {p : Nat → Bool} : ∀ {n : Nat}, alln p n = true ↔ ∀ x, x < n → p x = true
  | 0 => ⟨fun _ x hx => absurd hx (Nat.not_lt_zero _), fun _ => rfl⟩
  | n + 1 => by
    show (alln p n && p n) = true ↔ _
    rw [Bool.and_eq_true, alln_iff]
    exact ⟨fun q x hx => by rcases Nat.lt_or_ge x n with z | z; exact q.1 x z; rw [show x = n by omega]; exact q.2, fun q => ⟨fun x hx => q x (by omega), q n (by omega)⟩⟩
def fnd (p : Nat → Bool) (d : Nat) : Nat → Nat → Nat
  | 0, _ => d
  | k + 1, s => if p s then s else fnd p d k (s + 1)
def fndD (p : Nat → Bool) (d : Nat) : Nat → Nat → Nat
  | 0, _ => d
  | k + 1, s => if p s then s else fndD p d k (s - 1)
def upN (f : Nat → Nat) (k v : Nat) : Nat → Nat := fun i => if i = k then v else f i
theorem upd_nI (f : Nat → Nat) (k v : Nat) : upd (fun i => nI (f i)) k (nI v) = fun i => nI (upN f k v i) := by
  funext i
  by_cases q : i = k <;> simp [upd, upN, q]
def catN (i : Nat) : Nat := [1, 1, 2, 5, 14, 42, 132, 429, 1430].getD i 0
def lngN (i : Nat) : Nat := [1, 1, 1, 3, 16, 125, 1296, 16807, 262144].getD i 0
abbrev sA (r : Nat → Nat) : aE := .inl (6, (9, .inl (fun i => nI (r i))))
section PART
variable {N n p q : Nat} {h : aH} {r : Nat → Nat} {P : aP}
theorem slot_iff (x : Int32) : (∃ s, s < 6 ∧ x = nI s) ∨ (x < 0 ∨ nI 6 ≤ x) := by
  rcases pk_ix x (n := 6) (by omega) with c | c | ⟨j, hj, e⟩
  · exact Or.inr (Or.inl c)
  · exact Or.inr (Or.inr c)
  · exact Or.inl ⟨j, hj, e⟩
def slotB (x : Int32) : Bool := decide (0 ≤ x.toInt ∧ x.toInt < 6)
theorem slotB_t {s : Nat} (h : s < 6) : slotB (nI s) = true := by
  unfold slotB
  rw [nI_toInt (by omega)]
  exact decide_eq_true (by omega)
theorem slotB_f {x : Int32} (h : x < 0 ∨ nI 6 ≤ x) : slotB x = false := by
  unfold slotB
  refine decide_eq_false fun q => ?_
  rcases h with h | h
  · have := Int32.lt_iff_toInt_lt.mp h
    rw [show (0 : Int32).toInt = 0 from rfl] at this
    omega
  · have := Int32.le_iff_toInt_le.mp h
    rw [nI_toInt (by omega)] at this
    omega
theorem slotB_of {x : Int32} (h : slotB x = true) : ∃ s, s < 6 ∧ x = nI s := by
  rcases slot_iff x with q | q
  · exact q
  · rw [slotB_f q] at h; cases h
theorem c_isSlot {x : Int32} (hP : P (some (.int (nI (b01 (slotB x))))) N h) : AM X7_isSlot [.int x] N h P := by
  refine AM.of0 rfl (Nat.le_of_ble_eq_true rfl) rfl [some (.int x)] rfl ?_
  have F : slotB x = false → AW X7_isSlot 14 [some (.int x)] [] N (0, 0) h P := by
    intro e
    refine AW.iconst 15 dX7_isSlot_14 rfl (nI 0) rfl ?_
    refine AW.zret dX7_isSlot_15 rfl (by first | exact z_0 | exact z_1 | exact z_b01 _ | assumption) ?_
    rw [b01_f e] at hP
    exact hP
  refine AW.iload_n 1 dX7_isSlot_0 rfl (by rfl) ?_
  refine AW.if_lt 14 4 dX7_isSlot_1 (by decide) rfl (fun c => ?_) (fun c => ?_)
  · exact F (slotB_f (Or.inl c))
  · refine AW.iload_n 5 dX7_isSlot_4 rfl (by rfl) ?_
    refine AW.bipush 7 dX7_isSlot_5 rfl (nI 6) rfl ?_
    refine AW.icmp_ge 14 10 dX7_isSlot_7 (by decide) rfl (fun c2 => ?_) (fun c2 => ?_)
    · exact F (slotB_f (Or.inr c2))
    · refine AW.iconst 11 dX7_isSlot_10 rfl (nI 1) rfl ?_
      refine AW.goto 15 dX7_isSlot_11 (by decide) ?_
      refine AW.zret dX7_isSlot_15 rfl (by first | exact z_0 | exact z_1 | exact z_b01 _ | assumption) ?_
      have e : slotB x = true := by
        rcases slot_iff x with ⟨s, hs, e⟩ | q
        · rw [e]; exact slotB_t hs
        · exact absurd q (by rintro (z | z); exact c z; exact c2 z)
      rw [b01_t e] at hP
      exact hP
def chW (n k : Nat) : Nat → Nat
  | 0 => 1
  | i + 1 => chW n k i * (n - k + (i + 1)) / (i + 1)
def chF (n k : Nat) : Nat := if n < k then 0 else chW n k k
theorem chW_lt : ∀ n, n < 10 → ∀ k, k < 10 → ∀ i, i < 10 → chW n k i * (n - k + (i + 1)) < 2147483648 := by decide +kernel
theorem c_choose {k : Nat} (hn : n < 10) (hP : P (some (.int (nI (chF n k)))) N h) (hk : k < 10) : AM X7_choose [.int (nI n), .int (nI k)] N h P := by
  refine AM.of0 rfl (Nat.le_of_ble_eq_true rfl) rfl [some (.int (nI n)), some (.int (nI k)), none, none] rfl ?_
  have L : k ≤ n → ∀ j i, i + j = k → AW X7_choose 15 [some (.int (nI n)), some (.int (nI k)), some (.int (nI (chW n k i))), some (.int (nI (i + 1)))] [] N (0, 0) h P := by
    intro hkn j
    induction j with
    | zero =>
      intro i hi
      refine AW.iload_n 16 dX7_choose_15 rfl (by rfl) ?_
      refine AW.iload_n 17 dX7_choose_16 rfl (by rfl) ?_
      refine AW.ngt 36 20 dX7_choose_17 (by decide) rfl (by omega) (by omega) (fun c => ?_) (fun c => ?_)
      · refine AW.iload_n 37 dX7_choose_36 rfl (by rfl) ?_
        refine AW.iret dX7_choose_37 rfl ?_
        rw [chF, if_neg (by omega), show k = i by omega] at hP
        rw [show k = i by omega]
        exact hP
      · omega
    | succ j ih =>
      intro i hi
      refine AW.iload_n 16 dX7_choose_15 rfl (by rfl) ?_
      refine AW.iload_n 17 dX7_choose_16 rfl (by rfl) ?_
      refine AW.ngt 36 20 dX7_choose_17 (by decide) rfl (by omega) (by omega) (fun c => ?_) (fun c => ?_)
      · omega
      · have := chW_lt n hn k hk i (by omega)
        refine AW.iload_n 21 dX7_choose_20 rfl (by rfl) ?_
        refine AW.iload_n 22 dX7_choose_21 rfl (by rfl) ?_
        refine AW.iload_n 23 dX7_choose_22 rfl (by rfl) ?_
        first | refine AW.isubN 24 dX7_choose_23 rfl (by omega) ?_ | refine AW.isub 24 dX7_choose_23 rfl ?_
        refine AW.iload_n 25 dX7_choose_24 rfl (by rfl) ?_
        first | refine AW.iaddN 26 dX7_choose_25 rfl ?_ | refine AW.iadd 26 dX7_choose_25 rfl ?_
        first | refine AW.imulN 27 dX7_choose_26 rfl ?_ | refine AW.imul 27 dX7_choose_26 rfl ?_
        refine AW.iload_n 28 dX7_choose_27 rfl (by rfl) ?_
        refine AW.idivN 29 dX7_choose_28 rfl (by omega) (by omega) (by omega) ?_
        refine AW.istore_n 30 dX7_choose_29 rfl (Nat.le_of_ble_eq_true rfl) rfl ?_
        refine AW.iinc1 33 dX7_choose_30 rfl (by rfl) rfl ?_
        refine AW.goto 15 dX7_choose_33 (by decide) ?_
        exact ih (i + 1) (by omega)
  refine AW.iload_n 1 dX7_choose_0 rfl (by rfl) ?_
  refine AW.if_lt 9 4 dX7_choose_1 (by decide) rfl (fun c => ?_) (fun c => ?_)
  · exact absurd c (nI_pos (by omega))
  · refine AW.iload_n 5 dX7_choose_4 rfl (by rfl) ?_
    refine AW.iload_n 6 dX7_choose_5 rfl (by rfl) ?_
    refine AW.nle 11 9 dX7_choose_6 (by decide) rfl (by omega) (by omega) (fun c2 => ?_) (fun c2 => ?_)
    · refine AW.iconst 12 dX7_choose_11 rfl (nI 1) rfl ?_
      refine AW.istore_n 13 dX7_choose_12 rfl (Nat.le_of_ble_eq_true rfl) rfl ?_
      refine AW.iconst 14 dX7_choose_13 rfl (nI 1) rfl ?_
      refine AW.istore_n 15 dX7_choose_14 rfl (Nat.le_of_ble_eq_true rfl) rfl ?_
      exact L c2 k 0 (by omega)
    · refine AW.iconst 10 dX7_choose_9 rfl (nI 0) rfl ?_
      refine AW.iret dX7_choose_10 rfl ?_
      rw [chF, if_pos c2] at hP
      exact hP
theorem c_chooseM (hP : P (some (.int (nI 0))) N h) : AM X7_choose [.int (nI n), .int (nI 0 - nI 1)] N h P := by
  refine AM.of0 rfl (Nat.le_of_ble_eq_true rfl) rfl [some (.int (nI n)), some (.int (nI 0 - nI 1)), none, none] rfl ?_
  refine AW.iload_n 1 dX7_choose_0 rfl (by rfl) ?_
  refine AW.if_lt 9 4 dX7_choose_1 (by decide) rfl (fun c => ?_) (fun c => ?_)
  · refine AW.iconst 10 dX7_choose_9 rfl (nI 0) rfl ?_
    refine AW.iret dX7_choose_10 rfl ?_
    exact hP
  · exact absurd (by decide) c
theorem c_split (m : Nat) {rf : Nat → Int32} {n0 : Int32} (hp : h p = .inr (3, [.int n0, .ref q])) (hq : h q = .inl (0, (8, .inl rf))) (hpq : p ≠ q) (hP : P none N (hs (hs h p (oP m q)) q (iA 8 (fun i => if i < 8 then i else (rf i).toNatClampNeg)))) (hx : ∀ i, 8 ≤ i → rf i = nI (rf i).toNatClampNeg) : AM X3_split [.ref p, .int (nI m)] N h P := by
  refine AM.of0 rfl (Nat.le_of_ble_eq_true rfl) rfl [some (.ref p), some (.int (nI m)), none] rfl ?_
  refine AW.aload_n 1 dX3_split_0 rfl (by rfl) ?_
  refine AW.iload_n 2 dX3_split_1 rfl (by rfl) ?_
  refine AW.putfield 5 dX3_split_2 rfl fl_X3_19 (by assumption) (Nat.le_of_ble_eq_true rfl) (fun _ => ⟨rfl, rfl⟩) ?_
  refine AW.heap (hs (hs h p (oP m q)) q (.inl (0, (8, .inl (fun i => if i < 0 then nI i else rf i))))) ?_ ?_
  · funext z
    by_cases e : z = q
    · subst e; rw [hs_eq, hs_ne (Ne.symm hpq), hq]; simp
    · rw [hs_ne e]; rfl
  refine AW.iconst 6 dX3_split_5 rfl (nI 0) rfl ?_
  refine AW.istore_n 7 dX3_split_6 rfl (Nat.le_of_ble_eq_true rfl) rfl ?_
  have L : ∀ j i, i + j = 8 → AW X3_split 7 [some (.ref p), some (.int (nI m)), some (.int (nI i))] [] N (0, 0) (hs (hs h p (oP m q)) q (.inl (0, (8, .inl (fun z => if z < i then nI z else rf z))))) P := by
    intro j
    induction j with
    | zero =>
      intro i hi
      refine AW.iload_n 8 dX3_split_7 rfl (by rfl) ?_
      refine AW.bipush 10 dX3_split_8 rfl (nI 8) rfl ?_
      refine AW.nge 26 13 dX3_split_10 (by decide) rfl (by omega) (by omega) (fun c => ?_) (fun c => ?_)
      · refine AW.vret dX3_split_26 rfl ?_
        obtain rfl : i = 8 := by omega
        rw [show (fun z => if z < 8 then nI z else rf z) = (fun z => nI (if z < 8 then z else (rf z).toNatClampNeg)) from funext fun z => by by_cases e : z < 8 <;> simp only [e, if_true, if_false]; exact hx z (by omega)]
        exact hP
      · omega
    | succ j ih =>
      intro i hi
      refine AW.iload_n 8 dX3_split_7 rfl (by rfl) ?_
      refine AW.bipush 10 dX3_split_8 rfl (nI 8) rfl ?_
      refine AW.nge 26 13 dX3_split_10 (by decide) rfl (by omega) (by omega) (fun c => ?_) (fun c => ?_)
      · omega
      · have hp' : (hs (hs h p (oP m q)) q (.inl (0, (8, .inl (fun z => if z < i then nI z else rf z))))) p = oP m q := by rw [hs_ne hpq, hs_eq]
        have hq' := hs_eq (hs h p (oP m q)) q (.inl (0, (8, .inl (fun z => if z < i then nI z else rf z))))
        refine AW.aload_n 14 dX3_split_13 rfl (by rfl) ?_
        refine AW.getfield 17 dX3_split_14 rfl fl_X3_9 (by assumption) (by rfl) ?_
        refine AW.iload_n 18 dX3_split_17 rfl (by rfl) ?_
        refine AW.iload_n 19 dX3_split_18 rfl (by rfl) ?_
        refine AW.iastore 20 _ dX3_split_19 rfl (by assumption) (ix_nI (by omega)) (by omega) ?_
        refine AW.iinc1 23 dX3_split_20 rfl (by rfl) rfl ?_
        refine AW.goto 7 dX3_split_23 (by decide) ?_
        rw [hs_hs, show upd (fun z => if z < i then nI z else rf z) i (nI i) = (fun z => if z < i + 1 then nI z else rf z) from funext fun z => by
          by_cases e : z = i
          · subst e; simp [upd]
          · by_cases e2 : z < i
            · simp [upd, e, e2, Nat.lt_succ_of_lt e2]
            · simp [upd, e, e2, show ¬ z < i + 1 by omega]]
        exact ih (i + 1) (by omega)
  exact L 8 0 (by omega)
theorem c_isLowest {x : Nat} (hp : h p = oP n q) (hq : h q = iA 8 r) (hx : x < 8) (hr : r x < 8) (hP : P (some (.int (nI (b01 (r x == x))))) N h) : AM X3_isLowest [.ref p, .int (nI x)] N h P := by
  refine AM.of0 rfl (Nat.le_of_ble_eq_true rfl) rfl [some (.ref p), some (.int (nI x))] rfl ?_
  refine AW.aload_n 1 dX3_isLowest_0 rfl (by rfl) ?_
  refine AW.getfield 4 dX3_isLowest_1 rfl fl_X3_9 (by assumption) (by rfl) ?_
  refine AW.iload_n 5 dX3_isLowest_4 rfl (by rfl) ?_
  refine AW.iaload 6 _ dX3_isLowest_5 rfl (by assumption) (by first | exact Or.inl rfl | exact Or.inr rfl) (ix_nI (by omega)) (by omega) ?_
  refine AW.iload_n 7 dX3_isLowest_6 rfl (by rfl) ?_
  refine AW.nne 14 10 dX3_isLowest_7 (by decide) rfl (by omega) (by omega) (fun c => ?_) (fun c => ?_)
  · refine AW.iconst 15 dX3_isLowest_14 rfl (nI 0) rfl ?_
    refine AW.zret dX3_isLowest_15 rfl (by first | exact z_0 | exact z_1 | exact z_b01 _ | assumption) ?_
    rw [b01_f (by simp [c])] at hP
    exact hP
  · refine AW.iconst 11 dX3_isLowest_10 rfl (nI 1) rfl ?_
    refine AW.goto 15 dX3_isLowest_11 (by decide) ?_
    refine AW.zret dX3_isLowest_15 rfl (by first | exact z_0 | exact z_1 | exact z_b01 _ | assumption) ?_
    rw [b01_t (by simp [c])] at hP
    exact hP
theorem c_areTogether {x y : Nat} (hp : h p = oP n q) (hq : h q = iA 8 r) (hx : x < 8) (hy : y < 8) (hr : r x < 8) (hr2 : r y < 8) (hP : P (some (.int (nI (b01 (r x == r y))))) N h) : AM X3_areTogether [.ref p, .int (nI x), .int (nI y)] N h P := by
  refine AM.of0 rfl (Nat.le_of_ble_eq_true rfl) rfl [some (.ref p), some (.int (nI x)), some (.int (nI y))] rfl ?_
  refine AW.aload_n 1 dX3_areTogether_0 rfl (by rfl) ?_
  refine AW.getfield 4 dX3_areTogether_1 rfl fl_X3_9 (by assumption) (by rfl) ?_
  refine AW.iload_n 5 dX3_areTogether_4 rfl (by rfl) ?_
  refine AW.iaload 6 _ dX3_areTogether_5 rfl (by assumption) (by first | exact Or.inl rfl | exact Or.inr rfl) (ix_nI (by omega)) (by omega) ?_
  refine AW.aload_n 7 dX3_areTogether_6 rfl (by rfl) ?_
  refine AW.getfield 10 dX3_areTogether_7 rfl fl_X3_9 (by assumption) (by rfl) ?_
  refine AW.iload_n 11 dX3_areTogether_10 rfl (by rfl) ?_
  refine AW.iaload 12 _ dX3_areTogether_11 rfl (by assumption) (by first | exact Or.inl rfl | exact Or.inr rfl) (ix_nI (by omega)) (by omega) ?_
  refine AW.nne 19 15 dX3_areTogether_12 (by decide) rfl (by omega) (by omega) (fun c => ?_) (fun c => ?_)
  · refine AW.iconst 20 dX3_areTogether_19 rfl (nI 0) rfl ?_
    refine AW.zret dX3_areTogether_20 rfl (by first | exact z_0 | exact z_1 | exact z_b01 _ | assumption) ?_
    rw [b01_f (by simp [c])] at hP
    exact hP
  · refine AW.iconst 16 dX3_areTogether_15 rfl (nI 1) rfl ?_
    refine AW.goto 20 dX3_areTogether_16 (by decide) ?_
    refine AW.zret dX3_areTogether_20 rfl (by first | exact z_0 | exact z_1 | exact z_b01 _ | assumption) ?_
    rw [b01_t (by simp [c])] at hP
    exact hP
def rankF (r : Nat → Nat) (n : Nat) : Nat := cnt (fun x => if r x == x then 0 else 1) n
theorem c_rank (hp : h p = oP n q) (hq : h q = iA 8 r) (hn : n ≤ 8) (hr : ∀ x, x < n → r x < 8) (hP : P (some (.int (nI (rankF r n)))) N h) : AM X3_rank [.ref p] N h P := by
  refine AM.of0 rfl (Nat.le_of_ble_eq_true rfl) rfl [some (.ref p), none, none] rfl ?_
  refine AW.iconst 1 dX3_rank_0 rfl (nI 0) rfl ?_
  refine AW.istore_n 2 dX3_rank_1 rfl (Nat.le_of_ble_eq_true rfl) rfl ?_
  refine AW.iconst 3 dX3_rank_2 rfl (nI 0) rfl ?_
  refine AW.istore_n 4 dX3_rank_3 rfl (Nat.le_of_ble_eq_true rfl) rfl ?_
  have L : ∀ k x, x + k = n → AW X3_rank 4 [some (.ref p), some (.int (nI (rankF r x))), some (.int (nI x))] [] N (0, 0) h P := by
    intro k
    induction k with
    | zero =>
      intro x hx
      refine AW.iload_n 5 dX3_rank_4 rfl (by rfl) ?_
      refine AW.aload_n 6 dX3_rank_5 rfl (by rfl) ?_
      refine AW.getfield 9 dX3_rank_6 rfl fl_X3_19 (by assumption) (by rfl) ?_
      refine AW.nge 34 12 dX3_rank_9 (by decide) rfl (by omega) (by omega) (fun c => ?_) (fun c => ?_)
      · refine AW.iload_n 35 dX3_rank_34 rfl (by rfl) ?_
        refine AW.iret dX3_rank_35 rfl ?_
        rw [show n = x by omega] at hP
        exact hP
      · omega
    | succ k ih =>
      intro x hx
      refine AW.iload_n 5 dX3_rank_4 rfl (by rfl) ?_
      refine AW.aload_n 6 dX3_rank_5 rfl (by rfl) ?_
      refine AW.getfield 9 dX3_rank_6 rfl fl_X3_19 (by assumption) (by rfl) ?_
      refine AW.nge 34 12 dX3_rank_9 (by decide) rfl (by omega) (by omega) (fun c => ?_) (fun c => ?_)
      · omega
      · refine AW.iload_n 13 dX3_rank_12 rfl (by rfl) ?_
        refine AW.aload_n 14 dX3_rank_13 rfl (by rfl) ?_
        refine AW.iload_n 15 dX3_rank_14 rfl (by rfl) ?_
        refine AW.cV1 18 dX3_rank_15 rfl mi_X3_isLowest mv_X3_isLowest lk_X3_23 ⟨(Nat.le_of_ble_eq_true rfl), (Nat.le_of_ble_eq_true rfl)⟩ rfl (by assumption) rfl (Nat.le_of_ble_eq_true rfl) (c_isLowest hp hq (by omega) (hr x (by omega)) ?_)
        have J : ∀ b : Nat, b = (if r x == x then 0 else 1) → AW X3_rank 26 [some (.ref p), some (.int (nI (rankF r x))), some (.int (nI x))] [.int (nI b), .int (nI (rankF r x))] N (0, 0) h P := by
          intro b hb
          first | refine AW.iaddN 27 dX3_rank_26 rfl ?_ | refine AW.iadd 27 dX3_rank_26 rfl ?_
          refine AW.istore_n 28 dX3_rank_27 rfl (Nat.le_of_ble_eq_true rfl) rfl ?_
          refine AW.iinc1 31 dX3_rank_28 rfl (by rfl) rfl ?_
          refine AW.goto 4 dX3_rank_31 (by decide) ?_
          rw [show rankF r x + b = rankF r (x + 1) by rw [hb]; rfl]
          exact ih (x + 1) (by omega)
        refine AW.zeq 25 21 dX3_rank_18 (by decide) rfl (fun c2 => ?_) (fun c2 => ?_)
        · refine AW.iconst 26 dX3_rank_25 rfl (nI 1) rfl ?_
          exact J 1 (by rw [c2]; rfl)
        · refine AW.iconst 22 dX3_rank_21 rfl (nI 0) rfl ?_
          refine AW.goto 26 dX3_rank_22 (by decide) ?_
          exact J 0 (by rw [c2]; rfl)
  exact L n 0 (by omega)
def szF (r : Nat → Nat) (n x : Nat) : Nat := cnt (fun y => if x ≤ y && r y == x then 1 else 0) n
theorem szF_0 (r : Nat → Nat) (x : Nat) : ∀ k, k ≤ x → szF r k x = 0 := by
  intro k
  induction k with
  | zero => intro _; rfl
  | succ k ih =>
    intro hk
    show szF r k x + _ = 0
    rw [ih (by omega)]
    simp [show ¬ x ≤ k by omega]
theorem szF_le (r : Nat → Nat) (x : Nat) : ∀ k, szF r k x ≤ k := by
  intro k
  induction k with
  | zero => exact Nat.le_refl _
  | succ k ih =>
    show szF r k x + (if x ≤ k && r k == x then 1 else 0) ≤ k + 1
    by_cases c : (x ≤ k && r k == x) = true <;> simp [c] <;> omega
theorem c_sizeFrom {x : Nat} (hp : h p = oP n q) (hq : h q = iA 8 r) (hn : n ≤ 8) (hx : x ≤ n) (hr : ∀ x, x < n → r x < 8) (hP : P (some (.int (nI (szF r n x)))) N h) : AM X3_sizeFrom [.ref p, .int (nI x)] N h P := by
  refine AM.of0 rfl (Nat.le_of_ble_eq_true rfl) rfl [some (.ref p), some (.int (nI x)), none, none] rfl ?_
  refine AW.iconst 1 dX3_sizeFrom_0 rfl (nI 0) rfl ?_
  refine AW.istore_n 2 dX3_sizeFrom_1 rfl (Nat.le_of_ble_eq_true rfl) rfl ?_
  refine AW.iload_n 3 dX3_sizeFrom_2 rfl (by rfl) ?_
  refine AW.istore_n 4 dX3_sizeFrom_3 rfl (Nat.le_of_ble_eq_true rfl) rfl ?_
  have L : ∀ k y, y + k = n → x ≤ y → AW X3_sizeFrom 4 [some (.ref p), some (.int (nI x)), some (.int (nI (szF r y x))), some (.int (nI y))] [] N (0, 0) h P := by
    intro k
    induction k with
    | zero =>
      intro y hy hxy
      refine AW.iload_n 5 dX3_sizeFrom_4 rfl (by rfl) ?_
      refine AW.aload_n 6 dX3_sizeFrom_5 rfl (by rfl) ?_
      refine AW.getfield 9 dX3_sizeFrom_6 rfl fl_X3_19 (by assumption) (by rfl) ?_
      refine AW.nge 36 12 dX3_sizeFrom_9 (by decide) rfl (by omega) (by omega) (fun c => ?_) (fun c => ?_)
      · refine AW.iload_n 37 dX3_sizeFrom_36 rfl (by rfl) ?_
        refine AW.iret dX3_sizeFrom_37 rfl ?_
        rw [show n = y by omega] at hP
        exact hP
      · omega
    | succ k ih =>
      intro y hy hxy
      refine AW.iload_n 5 dX3_sizeFrom_4 rfl (by rfl) ?_
      refine AW.aload_n 6 dX3_sizeFrom_5 rfl (by rfl) ?_
      refine AW.getfield 9 dX3_sizeFrom_6 rfl fl_X3_19 (by assumption) (by rfl) ?_
      refine AW.nge 36 12 dX3_sizeFrom_9 (by decide) rfl (by omega) (by omega) (fun c => ?_) (fun c => ?_)
      · omega
      · have hry := hr y (by omega)
        refine AW.iload_n 13 dX3_sizeFrom_12 rfl (by rfl) ?_
        refine AW.aload_n 14 dX3_sizeFrom_13 rfl (by rfl) ?_
        refine AW.getfield 17 dX3_sizeFrom_14 rfl fl_X3_9 (by assumption) (by rfl) ?_
        refine AW.iload_n 18 dX3_sizeFrom_17 rfl (by rfl) ?_
        refine AW.iaload 19 _ dX3_sizeFrom_18 rfl (by assumption) (by first | exact Or.inl rfl | exact Or.inr rfl) (ix_nI (by omega)) (by omega) ?_
        refine AW.iload_n 20 dX3_sizeFrom_19 rfl (by rfl) ?_
        have J : ∀ b : Nat, b = (if x ≤ y && r y == x then 1 else 0) → AW X3_sizeFrom 28 [some (.ref p), some (.int (nI x)), some (.int (nI (szF r y x))), some (.int (nI y))] [.int (nI b), .int (nI (szF r y x))] N (0, 0) h P := by
          intro b hb
          first | refine AW.iaddN 29 dX3_sizeFrom_28 rfl ?_ | refine AW.iadd 29 dX3_sizeFrom_28 rfl ?_
          refine AW.istore_n 30 dX3_sizeFrom_29 rfl (Nat.le_of_ble_eq_true rfl) rfl ?_
          refine AW.iinc1 33 dX3_sizeFrom_30 rfl (by rfl) rfl ?_
          refine AW.goto 4 dX3_sizeFrom_33 (by decide) ?_
          rw [show szF r y x + b = szF r (y + 1) x by rw [hb]; rfl]
          exact ih (y + 1) (by omega) (by omega)
        refine AW.nne 27 23 dX3_sizeFrom_20 (by decide) rfl (by omega) (by omega) (fun c2 => ?_) (fun c2 => ?_)
        · refine AW.iconst 28 dX3_sizeFrom_27 rfl (nI 0) rfl ?_
          exact J 0 (by simp [c2])
        · refine AW.iconst 24 dX3_sizeFrom_23 rfl (nI 1) rfl ?_
          refine AW.goto 28 dX3_sizeFrom_24 (by decide) ?_
          exact J 1 (by simp [c2, hxy])
  have := L (n - x) x (by omega) (by omega)
  rw [szF_0 r x x (Nat.le_refl x)] at this
  exact this
def nextF (r : Nat → Nat) (n x : Nat) : Nat := fnd (fun y => r x == r y) (r x) (n - (x + 1)) (x + 1)
theorem c_next {x : Nat} (hp : h p = oP n q) (hq : h q = iA 8 r) (hn : n ≤ 8) (hx : x < n) (hr : ∀ x, x < n → r x < 8) (hP : P (some (.int (nI (nextF r n x)))) N h) : AM X3_next [.ref p, .int (nI x)] N h P := by
  refine AM.of0 rfl (Nat.le_of_ble_eq_true rfl) rfl [some (.ref p), some (.int (nI x)), none] rfl ?_
  refine AW.iload_n 1 dX3_next_0 rfl (by rfl) ?_
  refine AW.iconst 2 dX3_next_1 rfl (nI 1) rfl ?_
  first | refine AW.iaddN 3 dX3_next_2 rfl ?_ | refine AW.iadd 3 dX3_next_2 rfl ?_
  refine AW.istore_n 4 dX3_next_3 rfl (Nat.le_of_ble_eq_true rfl) rfl ?_
  have L : ∀ k y, y + k = n → x < y → P (some (.int (nI (fnd (fun y => r x == r y) (r x) k y)))) N h → AW X3_next 4 [some (.ref p), some (.int (nI x)), some (.int (nI y))] [] N (0, 0) h P := by
    intro k
    induction k with
    | zero =>
      intro y hy hxy hP
      refine AW.iload_n 5 dX3_next_4 rfl (by rfl) ?_
      refine AW.aload_n 6 dX3_next_5 rfl (by rfl) ?_
      refine AW.getfield 9 dX3_next_6 rfl fl_X3_19 (by assumption) (by rfl) ?_
      refine AW.nge 29 12 dX3_next_9 (by decide) rfl (by omega) (by omega) (fun c => ?_) (fun c => ?_)
      · refine AW.aload_n 30 dX3_next_29 rfl (by rfl) ?_
        refine AW.getfield 33 dX3_next_30 rfl fl_X3_9 (by assumption) (by rfl) ?_
        refine AW.iload_n 34 dX3_next_33 rfl (by rfl) ?_
        refine AW.iaload 35 _ dX3_next_34 rfl (by assumption) (by first | exact Or.inl rfl | exact Or.inr rfl) (ix_nI (by omega)) (by omega) ?_
        refine AW.iret dX3_next_35 rfl ?_
        exact hP
      · omega
    | succ k ih =>
      intro y hy hxy hP
      refine AW.iload_n 5 dX3_next_4 rfl (by rfl) ?_
      refine AW.aload_n 6 dX3_next_5 rfl (by rfl) ?_
      refine AW.getfield 9 dX3_next_6 rfl fl_X3_19 (by assumption) (by rfl) ?_
      refine AW.nge 29 12 dX3_next_9 (by decide) rfl (by omega) (by omega) (fun c => ?_) (fun c => ?_)
      · omega
      · refine AW.aload_n 13 dX3_next_12 rfl (by rfl) ?_
        refine AW.iload_n 14 dX3_next_13 rfl (by rfl) ?_
        refine AW.iload_n 15 dX3_next_14 rfl (by rfl) ?_
        refine AW.cV2 18 dX3_next_15 rfl mi_X3_areTogether mv_X3_areTogether lk_X3_27 ⟨(Nat.le_of_ble_eq_true rfl), (Nat.le_of_ble_eq_true rfl)⟩ rfl (by assumption) rfl (Nat.le_of_ble_eq_true rfl) (c_areTogether hp hq (by omega) (by omega) (hr x (by omega)) (hr y (by omega)) ?_)
        rw [fnd] at hP
        refine AW.zeq 23 21 dX3_next_18 (by decide) rfl (fun c2 => ?_) (fun c2 => ?_)
        · refine AW.iinc1 26 dX3_next_23 rfl (by rfl) rfl ?_
          refine AW.goto 4 dX3_next_26 (by decide) ?_
          rw [c2] at hP
          exact ih (y + 1) (by omega) (by omega) hP
        · refine AW.iload_n 22 dX3_next_21 rfl (by rfl) ?_
          refine AW.iret dX3_next_22 rfl ?_
          rw [c2] at hP
          exact hP
  exact L (n - (x + 1)) (x + 1) (by omega) (by omega) hP
def prevF (r : Nat → Nat) (n x : Nat) : Nat := fndD (fun y => r x == r y) (fndD (fun y => r x == r y) x (n - 1 - x) (n - 1)) x (x - 1)
theorem c_previous {x : Nat} (hp : h p = oP n q) (hq : h q = iA 8 r) (hn : n ≤ 8) (hx : x < n) (hr : ∀ x, x < n → r x < 8) (hP : P (some (.int (nI (prevF r n x)))) N h) : AM X3_previous [.ref p, .int (nI x)] N h P := by
  refine AM.of0 rfl (Nat.le_of_ble_eq_true rfl) rfl [some (.ref p), some (.int (nI x)), none] rfl ?_
  have L2 : ∀ k, x + k + 1 ≤ n → P (some (.int (nI (fndD (fun y => r x == r y) x k (x + k))))) N h → AW X3_previous 32 [some (.ref p), some (.int (nI x)), some (.int (nI (x + k)))] [] N (0, 0) h P := by
    intro k
    induction k with
    | zero =>
      intro hk hP
      refine AW.iload_n 33 dX3_previous_32 rfl (by rfl) ?_
      refine AW.iload_n 34 dX3_previous_33 rfl (by rfl) ?_
      refine AW.nle 54 37 dX3_previous_34 (by decide) rfl (by omega) (by omega) (fun c => ?_) (fun c => ?_)
      · refine AW.iload_n 55 dX3_previous_54 rfl (by rfl) ?_
        refine AW.iret dX3_previous_55 rfl ?_
        exact hP
      · omega
    | succ k ih =>
      intro hk hP
      refine AW.iload_n 33 dX3_previous_32 rfl (by rfl) ?_
      refine AW.iload_n 34 dX3_previous_33 rfl (by rfl) ?_
      refine AW.nle 54 37 dX3_previous_34 (by decide) rfl (by omega) (by omega) (fun c => ?_) (fun c => ?_)
      · omega
      · refine AW.aload_n 38 dX3_previous_37 rfl (by rfl) ?_
        refine AW.iload_n 39 dX3_previous_38 rfl (by rfl) ?_
        refine AW.iload_n 40 dX3_previous_39 rfl (by rfl) ?_
        refine AW.cV2 43 dX3_previous_40 rfl mi_X3_areTogether mv_X3_areTogether lk_X3_27 ⟨(Nat.le_of_ble_eq_true rfl), (Nat.le_of_ble_eq_true rfl)⟩ rfl (by assumption) rfl (Nat.le_of_ble_eq_true rfl) (c_areTogether hp hq (by omega) (by omega) (hr x (by omega)) (hr _ (by omega)) ?_)
        rw [fndD] at hP
        refine AW.zeq 48 46 dX3_previous_43 (by decide) rfl (fun c2 => ?_) (fun c2 => ?_)
        · rw [c2] at hP
          refine AW.iincm 51 dX3_previous_48 rfl (by rfl) rfl ?_
          refine AW.goto 32 dX3_previous_51 (by decide) ?_
          rw [show nI (x + (k + 1)) - nI 1 = nI (x + k) from nI_pred (x + k)]
          exact ih (by omega) hP
        · refine AW.iload_n 47 dX3_previous_46 rfl (by rfl) ?_
          refine AW.iret dX3_previous_47 rfl ?_
          rw [c2] at hP
          exact hP
  have L : ∀ k, k ≤ x → P (some (.int (nI (fndD (fun y => r x == r y) (fndD (fun y => r x == r y) x (n - 1 - x) (n - 1)) k (k - 1))))) N h → AW X3_previous 4 [some (.ref p), some (.int (nI x)), some (.int (nI k - nI 1))] [] N (0, 0) h P := by
    intro k
    induction k with
    | zero =>
      intro hk hP
      refine AW.iload_n 5 dX3_previous_4 rfl (by rfl) ?_
      refine AW.if_lt 25 8 dX3_previous_5 (by decide) rfl (fun c => ?_) (fun c => ?_)
      · refine AW.aload_n 26 dX3_previous_25 rfl (by rfl) ?_
        refine AW.getfield 29 dX3_previous_26 rfl fl_X3_19 (by assumption) (by rfl) ?_
        refine AW.iconst 30 dX3_previous_29 rfl (nI 1) rfl ?_
        first | refine AW.isubN 31 dX3_previous_30 rfl (by omega) ?_ | refine AW.isub 31 dX3_previous_30 rfl ?_
        refine AW.istore_n 32 dX3_previous_31 rfl (Nat.le_of_ble_eq_true rfl) rfl ?_
        have := L2 (n - 1 - x) (by omega)
        rw [show x + (n - 1 - x) = n - 1 by omega] at this
        exact this hP
      · exact absurd (by decide) c
    | succ k ih =>
      intro hk hP
      rw [show nI (k + 1) - nI 1 = nI k from nI_pred k]
      refine AW.iload_n 5 dX3_previous_4 rfl (by rfl) ?_
      refine AW.if_lt 25 8 dX3_previous_5 (by decide) rfl (fun c => ?_) (fun c => ?_)
      · exact absurd c (nI_pos (by omega))
      · refine AW.aload_n 9 dX3_previous_8 rfl (by rfl) ?_
        refine AW.iload_n 10 dX3_previous_9 rfl (by rfl) ?_
        refine AW.iload_n 11 dX3_previous_10 rfl (by rfl) ?_
        refine AW.cV2 14 dX3_previous_11 rfl mi_X3_areTogether mv_X3_areTogether lk_X3_27 ⟨(Nat.le_of_ble_eq_true rfl), (Nat.le_of_ble_eq_true rfl)⟩ rfl (by assumption) rfl (Nat.le_of_ble_eq_true rfl) (c_areTogether hp hq (by omega) (by omega) (hr x (by omega)) (hr _ (by omega)) ?_)
        rw [fndD] at hP
        refine AW.zeq 19 17 dX3_previous_14 (by decide) rfl (fun c2 => ?_) (fun c2 => ?_)
        · rw [Nat.add_sub_cancel, c2] at hP
          refine AW.iincm 22 dX3_previous_19 rfl (by rfl) rfl ?_
          refine AW.goto 4 dX3_previous_22 (by decide) ?_
          exact ih (by omega) hP
        · refine AW.iload_n 18 dX3_previous_17 rfl (by rfl) ?_
          refine AW.iret dX3_previous_18 rfl ?_
          rw [Nat.add_sub_cancel, c2] at hP
          exact hP
  refine AW.iload_n 1 dX3_previous_0 rfl (by rfl) ?_
  refine AW.iconst 2 dX3_previous_1 rfl (nI 1) rfl ?_
  first | refine AW.isubN 3 dX3_previous_2 rfl (by omega) ?_ | refine AW.isub 3 dX3_previous_2 rfl ?_
  refine AW.istore_n 4 dX3_previous_3 rfl (Nat.le_of_ble_eq_true rfl) rfl ?_
  exact L x (Nat.le_refl x) hP
theorem c_isUnder {p2 q2 : Nat} {r2 : Nat → Nat} (hp : h p = oP n q) (hq : h q = iA 8 r) (hp2 : h p2 = oP n q2) (hq2 : h q2 = iA 8 r2) (hn : n ≤ 8) (hr : ∀ x, x < n → r x < 8) (hr2 : ∀ x, x < 8 → r2 x < 8) (hP : P (some (.int (nI (b01 (alln (fun x => r2 x == r2 (r x)) n))))) N h) : AM X3_isUnder [.ref p, .ref p2] N h P := by
  refine AM.of0 rfl (Nat.le_of_ble_eq_true rfl) rfl [some (.ref p), some (.ref p2), none] rfl ?_
  refine AW.iconst 1 dX3_isUnder_0 rfl (nI 0) rfl ?_
  refine AW.istore_n 2 dX3_isUnder_1 rfl (Nat.le_of_ble_eq_true rfl) rfl ?_
  have L : ∀ k x, x + k = n → alln (fun x => r2 x == r2 (r x)) x = true → AW X3_isUnder 2 [some (.ref p), some (.ref p2), some (.int (nI x))] [] N (0, 0) h P := by
    intro k
    induction k with
    | zero =>
      intro x hx ha
      refine AW.iload_n 3 dX3_isUnder_2 rfl (by rfl) ?_
      refine AW.aload_n 4 dX3_isUnder_3 rfl (by rfl) ?_
      refine AW.getfield 7 dX3_isUnder_4 rfl fl_X3_19 (by assumption) (by rfl) ?_
      refine AW.nge 32 10 dX3_isUnder_7 (by decide) rfl (by omega) (by omega) (fun c => ?_) (fun c => ?_)
      · refine AW.iconst 33 dX3_isUnder_32 rfl (nI 1) rfl ?_
        refine AW.zret dX3_isUnder_33 rfl (by first | exact z_0 | exact z_1 | exact z_b01 _ | assumption) ?_
        rw [b01_t (by rw [show n = x by omega]; exact ha)] at hP
        exact hP
      · omega
    | succ k ih =>
      intro x hx ha
      refine AW.iload_n 3 dX3_isUnder_2 rfl (by rfl) ?_
      refine AW.aload_n 4 dX3_isUnder_3 rfl (by rfl) ?_
      refine AW.getfield 7 dX3_isUnder_4 rfl fl_X3_19 (by assumption) (by rfl) ?_
      refine AW.nge 32 10 dX3_isUnder_7 (by decide) rfl (by omega) (by omega) (fun c => ?_) (fun c => ?_)
      · omega
      · have hrx := hr x (by omega)
        refine AW.aload_n 11 dX3_isUnder_10 rfl (by rfl) ?_
        refine AW.iload_n 12 dX3_isUnder_11 rfl (by rfl) ?_
        refine AW.aload_n 13 dX3_isUnder_12 rfl (by rfl) ?_
        refine AW.getfield 16 dX3_isUnder_13 rfl fl_X3_9 (by assumption) (by rfl) ?_
        refine AW.iload_n 17 dX3_isUnder_16 rfl (by rfl) ?_
        refine AW.iaload 18 _ dX3_isUnder_17 rfl (by assumption) (by first | exact Or.inl rfl | exact Or.inr rfl) (ix_nI (by omega)) (by omega) ?_
        refine AW.cV2 21 dX3_isUnder_18 rfl mi_X3_areTogether mv_X3_areTogether lk_X3_27 ⟨(Nat.le_of_ble_eq_true rfl), (Nat.le_of_ble_eq_true rfl)⟩ rfl (by assumption) rfl (Nat.le_of_ble_eq_true rfl) (c_areTogether hp2 hq2 (by omega) (by omega) (hr2 x (by omega)) (hr2 _ hrx) ?_)
        refine AW.zne 26 24 dX3_isUnder_21 (by decide) rfl (fun c2 => ?_) (fun c2 => ?_)
        · refine AW.iinc1 29 dX3_isUnder_26 rfl (by rfl) rfl ?_
          refine AW.goto 2 dX3_isUnder_29 (by decide) ?_
          exact ih (x + 1) (by omega) (alln_s ha c2)
        · refine AW.iconst 25 dX3_isUnder_24 rfl (nI 0) rfl ?_
          refine AW.zret dX3_isUnder_25 rfl (by first | exact z_0 | exact z_1 | exact z_b01 _ | assumption) ?_
          have e := alln_f (p := fun x => r2 x == r2 (r x)) c c2
          rw [b01_f e] at hP
          exact hP
  exact L n 0 (by omega) rfl
def sglF (r : Nat → Nat) (n m : Nat) : Nat := cnt (fun x => if szF r n x == 1 then 1 else 0) m
theorem c_singles (hp : h p = oP n q) (hq : h q = iA 8 r) (hn : n ≤ 8) (hr : ∀ x, x < n → r x < 8) (hP : P (some (.int (nI (sglF r n n)))) N h) : AM X3_singles [.ref p] N h P := by
  refine AM.of0 rfl (Nat.le_of_ble_eq_true rfl) rfl [some (.ref p), none, none] rfl ?_
  refine AW.iconst 1 dX3_singles_0 rfl (nI 0) rfl ?_
  refine AW.istore_n 2 dX3_singles_1 rfl (Nat.le_of_ble_eq_true rfl) rfl ?_
  refine AW.iconst 3 dX3_singles_2 rfl (nI 0) rfl ?_
  refine AW.istore_n 4 dX3_singles_3 rfl (Nat.le_of_ble_eq_true rfl) rfl ?_
  have L : ∀ k x, x + k = n → AW X3_singles 4 [some (.ref p), some (.int (nI (sglF r n x))), some (.int (nI x))] [] N (0, 0) h P := by
    intro k
    induction k with
    | zero =>
      intro x hx
      refine AW.iload_n 5 dX3_singles_4 rfl (by rfl) ?_
      refine AW.aload_n 6 dX3_singles_5 rfl (by rfl) ?_
      refine AW.getfield 9 dX3_singles_6 rfl fl_X3_19 (by assumption) (by rfl) ?_
      refine AW.nge 35 12 dX3_singles_9 (by decide) rfl (by omega) (by omega) (fun c => ?_) (fun c => ?_)
      · refine AW.iload_n 36 dX3_singles_35 rfl (by rfl) ?_
        refine AW.iret dX3_singles_36 rfl ?_
        rw [show sglF r n n = sglF r n x by rw [show n = x by omega]] at hP
        exact hP
      · omega
    | succ k ih =>
      intro x hx
      refine AW.iload_n 5 dX3_singles_4 rfl (by rfl) ?_
      refine AW.aload_n 6 dX3_singles_5 rfl (by rfl) ?_
      refine AW.getfield 9 dX3_singles_6 rfl fl_X3_19 (by assumption) (by rfl) ?_
      refine AW.nge 35 12 dX3_singles_9 (by decide) rfl (by omega) (by omega) (fun c => ?_) (fun c => ?_)
      · omega
      · refine AW.iload_n 13 dX3_singles_12 rfl (by rfl) ?_
        refine AW.aload_n 14 dX3_singles_13 rfl (by rfl) ?_
        refine AW.iload_n 15 dX3_singles_14 rfl (by rfl) ?_
        refine AW.cV1 18 dX3_singles_15 rfl mi_X3_sizeFrom mv_X3_sizeFrom lk_X3_31 ⟨(Nat.le_of_ble_eq_true rfl), (Nat.le_of_ble_eq_true rfl)⟩ rfl (by assumption) rfl (Nat.le_of_ble_eq_true rfl) (c_sizeFrom hp hq hn (by omega) hr ?_)
        have hz := szF_le r x n
        have J : ∀ b : Nat, b = (if szF r n x == 1 then 1 else 0) → AW X3_singles 27 [some (.ref p), some (.int (nI (sglF r n x))), some (.int (nI x))] [.int (nI b), .int (nI (sglF r n x))] N (0, 0) h P := by
          intro b hb
          first | refine AW.iaddN 28 dX3_singles_27 rfl ?_ | refine AW.iadd 28 dX3_singles_27 rfl ?_
          refine AW.istore_n 29 dX3_singles_28 rfl (Nat.le_of_ble_eq_true rfl) rfl ?_
          refine AW.iinc1 32 dX3_singles_29 rfl (by rfl) rfl ?_
          refine AW.goto 4 dX3_singles_32 (by decide) ?_
          rw [show sglF r n x + b = sglF r n (x + 1) by rw [hb]; rfl]
          exact ih (x + 1) (by omega)
        refine AW.iconst 19 dX3_singles_18 rfl (nI 1) rfl ?_
        refine AW.nne 26 22 dX3_singles_19 (by decide) rfl (by omega) (by omega) (fun c2 => ?_) (fun c2 => ?_)
        · refine AW.iconst 27 dX3_singles_26 rfl (nI 0) rfl ?_
          exact J 0 (by simp [c2])
        · refine AW.iconst 23 dX3_singles_22 rfl (nI 1) rfl ?_
          refine AW.goto 27 dX3_singles_23 (by decide) ?_
          exact J 1 (by simp [c2])
  exact L n 0 (by omega)
def lgF (r : Nat → Nat) (n : Nat) : Nat → Nat
  | 0 => 0
  | x + 1 => if szF r n x ≤ lgF r n x then lgF r n x else szF r n x
theorem lgF_le (r : Nat → Nat) (n : Nat) : ∀ x, lgF r n x ≤ n := by
  intro x
  induction x with
  | zero => exact Nat.zero_le _
  | succ x ih =>
    have := szF_le r x n
    unfold lgF
    by_cases c : szF r n x ≤ lgF r n x <;> simp only [c, if_true, if_false] <;> omega
theorem c_largest (hp : h p = oP n q) (hq : h q = iA 8 r) (hn : n ≤ 8) (hr : ∀ x, x < n → r x < 8) (hP : P (some (.int (nI (lgF r n n)))) N h) : AM X3_largest [.ref p] N h P := by
  refine AM.of0 rfl (Nat.le_of_ble_eq_true rfl) rfl [some (.ref p), none, none, none] rfl ?_
  refine AW.iconst 1 dX3_largest_0 rfl (nI 0) rfl ?_
  refine AW.istore_n 2 dX3_largest_1 rfl (Nat.le_of_ble_eq_true rfl) rfl ?_
  refine AW.iconst 3 dX3_largest_2 rfl (nI 0) rfl ?_
  refine AW.istore_n 4 dX3_largest_3 rfl (Nat.le_of_ble_eq_true rfl) rfl ?_
  have L : ∀ k x, x + k = n → ∀ o, AW X3_largest 4 [some (.ref p), some (.int (nI (lgF r n x))), some (.int (nI x)), o] [] N (0, 0) h P := by
    intro k
    induction k with
    | zero =>
      intro x hx o
      refine AW.iload_n 5 dX3_largest_4 rfl (by rfl) ?_
      refine AW.aload_n 6 dX3_largest_5 rfl (by rfl) ?_
      refine AW.getfield 9 dX3_largest_6 rfl fl_X3_19 (by assumption) (by rfl) ?_
      refine AW.nge 35 12 dX3_largest_9 (by decide) rfl (by omega) (by omega) (fun c => ?_) (fun c => ?_)
      · refine AW.iload_n 36 dX3_largest_35 rfl (by rfl) ?_
        refine AW.iret dX3_largest_36 rfl ?_
        rw [show lgF r n n = lgF r n x by rw [show n = x by omega]] at hP
        exact hP
      · omega
    | succ k ih =>
      intro x hx o
      refine AW.iload_n 5 dX3_largest_4 rfl (by rfl) ?_
      refine AW.aload_n 6 dX3_largest_5 rfl (by rfl) ?_
      refine AW.getfield 9 dX3_largest_6 rfl fl_X3_19 (by assumption) (by rfl) ?_
      refine AW.nge 35 12 dX3_largest_9 (by decide) rfl (by omega) (by omega) (fun c => ?_) (fun c => ?_)
      · omega
      · refine AW.aload_n 13 dX3_largest_12 rfl (by rfl) ?_
        refine AW.iload_n 14 dX3_largest_13 rfl (by rfl) ?_
        refine AW.cV1 17 dX3_largest_14 rfl mi_X3_sizeFrom mv_X3_sizeFrom lk_X3_31 ⟨(Nat.le_of_ble_eq_true rfl), (Nat.le_of_ble_eq_true rfl)⟩ rfl (by assumption) rfl (Nat.le_of_ble_eq_true rfl) (c_sizeFrom hp hq hn (by omega) hr ?_)
        have hz := szF_le r x n
        have hz2 := lgF_le r n x
        refine AW.istore_n 18 dX3_largest_17 rfl (Nat.le_of_ble_eq_true rfl) rfl ?_
        refine AW.iload_n 19 dX3_largest_18 rfl (by rfl) ?_
        refine AW.iload_n 20 dX3_largest_19 rfl (by rfl) ?_
        refine AW.nle 27 23 dX3_largest_20 (by decide) rfl (by omega) (by omega) (fun c2 => ?_) (fun c2 => ?_)
        · refine AW.iload_n 28 dX3_largest_27 rfl (by rfl) ?_
          refine AW.istore_n 29 dX3_largest_28 rfl (Nat.le_of_ble_eq_true rfl) rfl ?_
          refine AW.iinc1 32 dX3_largest_29 rfl (by rfl) rfl ?_
          refine AW.goto 4 dX3_largest_32 (by decide) ?_
          have := ih (x + 1) (by omega) (some (.int (nI (szF r n x))))
          rw [show lgF r n (x + 1) = lgF r n x by rw [lgF, if_pos c2]] at this
          exact this
        · refine AW.iload_n 24 dX3_largest_23 rfl (by rfl) ?_
          refine AW.goto 28 dX3_largest_24 (by decide) ?_
          refine AW.istore_n 29 dX3_largest_28 rfl (Nat.le_of_ble_eq_true rfl) rfl ?_
          refine AW.iinc1 32 dX3_largest_29 rfl (by rfl) rfl ?_
          refine AW.goto 4 dX3_largest_32 (by decide) ?_
          have := ih (x + 1) (by omega) (some (.int (nI (szF r n x))))
          rw [show lgF r n (x + 1) = szF r n x by rw [lgF, if_neg (by omega)]] at this
          exact this
  exact L n 0 (by omega) none
def prsF (r : Nat → Nat) (n m : Nat) : Nat := cnt (fun x => chF (szF r n x) 2) m
theorem c_pairs (hp : h p = oP n q) (hq : h q = iA 8 r) (hn : n ≤ 8) (hr : ∀ x, x < n → r x < 8) (hP : P (some (.int (nI (prsF r n n)))) N h) : AM X3_pairs [.ref p] N h P := by
  refine AM.of0 rfl (Nat.le_of_ble_eq_true rfl) rfl [some (.ref p), none, none] rfl ?_
  refine AW.iconst 1 dX3_pairs_0 rfl (nI 0) rfl ?_
  refine AW.istore_n 2 dX3_pairs_1 rfl (Nat.le_of_ble_eq_true rfl) rfl ?_
  refine AW.iconst 3 dX3_pairs_2 rfl (nI 0) rfl ?_
  refine AW.istore_n 4 dX3_pairs_3 rfl (Nat.le_of_ble_eq_true rfl) rfl ?_
  have L : ∀ k x, x + k = n → AW X3_pairs 4 [some (.ref p), some (.int (nI (prsF r n x))), some (.int (nI x))] [] N (0, 0) h P := by
    intro k
    induction k with
    | zero =>
      intro x hx
      refine AW.iload_n 5 dX3_pairs_4 rfl (by rfl) ?_
      refine AW.aload_n 6 dX3_pairs_5 rfl (by rfl) ?_
      refine AW.getfield 9 dX3_pairs_6 rfl fl_X3_19 (by assumption) (by rfl) ?_
      refine AW.nge 30 12 dX3_pairs_9 (by decide) rfl (by omega) (by omega) (fun c => ?_) (fun c => ?_)
      · refine AW.iload_n 31 dX3_pairs_30 rfl (by rfl) ?_
        refine AW.iret dX3_pairs_31 rfl ?_
        rw [show prsF r n n = prsF r n x by rw [show n = x by omega]] at hP
        exact hP
      · omega
    | succ k ih =>
      intro x hx
      refine AW.iload_n 5 dX3_pairs_4 rfl (by rfl) ?_
      refine AW.aload_n 6 dX3_pairs_5 rfl (by rfl) ?_
      refine AW.getfield 9 dX3_pairs_6 rfl fl_X3_19 (by assumption) (by rfl) ?_
      refine AW.nge 30 12 dX3_pairs_9 (by decide) rfl (by omega) (by omega) (fun c => ?_) (fun c => ?_)
      · omega
      · refine AW.iload_n 13 dX3_pairs_12 rfl (by rfl) ?_
        refine AW.aload_n 14 dX3_pairs_13 rfl (by rfl) ?_
        refine AW.iload_n 15 dX3_pairs_14 rfl (by rfl) ?_
        refine AW.cV1 18 dX3_pairs_15 rfl mi_X3_sizeFrom mv_X3_sizeFrom lk_X3_31 ⟨(Nat.le_of_ble_eq_true rfl), (Nat.le_of_ble_eq_true rfl)⟩ rfl (by assumption) rfl (Nat.le_of_ble_eq_true rfl) (c_sizeFrom hp hq hn (by omega) hr ?_)
        have hz := szF_le r x n
        refine AW.iconst 19 dX3_pairs_18 rfl (nI 2) rfl ?_
        refine AW.cN2 22 dX3_pairs_19 rfl mi_X7_choose ms_X7_choose lk_X3_35 ⟨(Nat.le_of_ble_eq_true rfl), (Nat.le_of_ble_eq_true rfl)⟩ rfl (Nat.le_of_ble_eq_true rfl) (c_choose (by omega) ?_ (by omega))
        first | refine AW.iaddN 23 dX3_pairs_22 rfl ?_ | refine AW.iadd 23 dX3_pairs_22 rfl ?_
        refine AW.istore_n 24 dX3_pairs_23 rfl (Nat.le_of_ble_eq_true rfl) rfl ?_
        refine AW.iinc1 27 dX3_pairs_24 rfl (by rfl) rfl ?_
        refine AW.goto 4 dX3_pairs_27 (by decide) ?_
        exact ih (x + 1) (by omega)
  exact L n 0 (by omega)
def sopF (r : Nat → Nat) (n : Nat) : Nat → Nat
  | 0 => 1
  | x + 1 => sopF r n x * catN (szF r n x)
theorem c_sizeOfProduct (hC : h 0 = sA catN) (hp : h p = oP n q) (hq : h q = iA 8 r) (hn : n ≤ 8) (hr : ∀ x, x < n → r x < 8) (hP : P (some (.int (nI (sopF r n n)))) N h) : AM X3_sizeOfProduct [.ref p] N h P := by
  refine AM.of0 rfl (Nat.le_of_ble_eq_true rfl) rfl [some (.ref p), none, none] rfl ?_
  refine AW.iconst 1 dX3_sizeOfProduct_0 rfl (nI 1) rfl ?_
  refine AW.istore_n 2 dX3_sizeOfProduct_1 rfl (Nat.le_of_ble_eq_true rfl) rfl ?_
  refine AW.iconst 3 dX3_sizeOfProduct_2 rfl (nI 0) rfl ?_
  refine AW.istore_n 4 dX3_sizeOfProduct_3 rfl (Nat.le_of_ble_eq_true rfl) rfl ?_
  have L : ∀ k x, x + k = n → AW X3_sizeOfProduct 4 [some (.ref p), some (.int (nI (sopF r n x))), some (.int (nI x))] [] N (0, 0) h P := by
    intro k
    induction k with
    | zero =>
      intro x hx
      refine AW.iload_n 5 dX3_sizeOfProduct_4 rfl (by rfl) ?_
      refine AW.aload_n 6 dX3_sizeOfProduct_5 rfl (by rfl) ?_
      refine AW.getfield 9 dX3_sizeOfProduct_6 rfl fl_X3_19 (by assumption) (by rfl) ?_
      refine AW.nge 30 12 dX3_sizeOfProduct_9 (by decide) rfl (by omega) (by omega) (fun c => ?_) (fun c => ?_)
      · refine AW.iload_n 31 dX3_sizeOfProduct_30 rfl (by rfl) ?_
        refine AW.iret dX3_sizeOfProduct_31 rfl ?_
        rw [show sopF r n n = sopF r n x by rw [show n = x by omega]] at hP
        exact hP
      · omega
    | succ k ih =>
      intro x hx
      refine AW.iload_n 5 dX3_sizeOfProduct_4 rfl (by rfl) ?_
      refine AW.aload_n 6 dX3_sizeOfProduct_5 rfl (by rfl) ?_
      refine AW.getfield 9 dX3_sizeOfProduct_6 rfl fl_X3_19 (by assumption) (by rfl) ?_
      refine AW.nge 30 12 dX3_sizeOfProduct_9 (by decide) rfl (by omega) (by omega) (fun c => ?_) (fun c => ?_)
      · omega
      · refine AW.iload_n 13 dX3_sizeOfProduct_12 rfl (by rfl) ?_
        refine AW.getCat 16 dX3_sizeOfProduct_13 rfl fn_X3_42 ?_
        refine AW.aload_n 17 dX3_sizeOfProduct_16 rfl (by rfl) ?_
        refine AW.iload_n 18 dX3_sizeOfProduct_17 rfl (by rfl) ?_
        refine AW.cV1 21 dX3_sizeOfProduct_18 rfl mi_X3_sizeFrom mv_X3_sizeFrom lk_X3_31 ⟨(Nat.le_of_ble_eq_true rfl), (Nat.le_of_ble_eq_true rfl)⟩ rfl (by assumption) rfl (Nat.le_of_ble_eq_true rfl) (c_sizeFrom hp hq hn (by omega) hr ?_)
        have hz := szF_le r x n
        refine AW.iaload 22 _ dX3_sizeOfProduct_21 rfl (by assumption) (by first | exact Or.inl rfl | exact Or.inr rfl) (ix_nI (by omega)) (by omega) ?_
        first | refine AW.imulN 23 dX3_sizeOfProduct_22 rfl ?_ | refine AW.imul 23 dX3_sizeOfProduct_22 rfl ?_
        refine AW.istore_n 24 dX3_sizeOfProduct_23 rfl (Nat.le_of_ble_eq_true rfl) rfl ?_
        refine AW.iinc1 27 dX3_sizeOfProduct_24 rfl (by rfl) rfl ?_
        refine AW.goto 4 dX3_sizeOfProduct_27 (by decide) ?_
        exact ih (x + 1) (by omega)
  exact L n 0 (by omega)
def mopF (r : Nat → Nat) (n : Nat) : Nat → Int32
  | 0 => nI 1
  | x + 1 => if r x == x then mopF r n x * (if szF r n x % 2 = 1 then nI (catN (szF r n x - 1)) else - nI (catN (szF r n x - 1))) else mopF r n x
theorem szF_pos {r : Nat → Nat} {x : Nat} (e : r x = x) : ∀ k, x < k → 1 ≤ szF r k x := by
  intro k
  induction k with
  | zero => intro z; omega
  | succ k ih =>
    intro z
    show 1 ≤ szF r k x + (if x ≤ k && r k == x then 1 else 0)
    by_cases c : x = k
    · subst c; simp [e]
    · have := ih (by omega); omega
theorem c_moebiusOfProduct (hC : h 0 = sA catN) (hp : h p = oP n q) (hq : h q = iA 8 r) (hn : n ≤ 8) (hr : ∀ x, x < n → r x < 8) (hP : P (some (.int (mopF r n n))) N h) : AM X3_moebiusOfProduct [.ref p] N h P := by
  refine AM.of0 rfl (Nat.le_of_ble_eq_true rfl) rfl [some (.ref p), none, none, none] rfl ?_
  refine AW.iconst 1 dX3_moebiusOfProduct_0 rfl (nI 1) rfl ?_
  refine AW.istore_n 2 dX3_moebiusOfProduct_1 rfl (Nat.le_of_ble_eq_true rfl) rfl ?_
  refine AW.iconst 3 dX3_moebiusOfProduct_2 rfl (nI 0) rfl ?_
  refine AW.istore_n 4 dX3_moebiusOfProduct_3 rfl (Nat.le_of_ble_eq_true rfl) rfl ?_
  have L : ∀ k x, x + k = n → ∀ o, AW X3_moebiusOfProduct 4 [some (.ref p), some (.int (mopF r n x)), some (.int (nI x)), o] [] N (0, 0) h P := by
    intro k
    induction k with
    | zero =>
      intro x hx o
      refine AW.iload_n 5 dX3_moebiusOfProduct_4 rfl (by rfl) ?_
      refine AW.aload_n 6 dX3_moebiusOfProduct_5 rfl (by rfl) ?_
      refine AW.getfield 9 dX3_moebiusOfProduct_6 rfl fl_X3_19 (by assumption) (by rfl) ?_
      refine AW.nge 60 12 dX3_moebiusOfProduct_9 (by decide) rfl (by omega) (by omega) (fun c => ?_) (fun c => ?_)
      · refine AW.iload_n 61 dX3_moebiusOfProduct_60 rfl (by rfl) ?_
        refine AW.iret dX3_moebiusOfProduct_61 rfl ?_
        rw [show mopF r n n = mopF r n x by rw [show n = x by omega]] at hP
        exact hP
      · omega
    | succ k ih =>
      intro x hx o
      refine AW.iload_n 5 dX3_moebiusOfProduct_4 rfl (by rfl) ?_
      refine AW.aload_n 6 dX3_moebiusOfProduct_5 rfl (by rfl) ?_
      refine AW.getfield 9 dX3_moebiusOfProduct_6 rfl fl_X3_19 (by assumption) (by rfl) ?_
      refine AW.nge 60 12 dX3_moebiusOfProduct_9 (by decide) rfl (by omega) (by omega) (fun c => ?_) (fun c => ?_)
      · omega
      · refine AW.aload_n 13 dX3_moebiusOfProduct_12 rfl (by rfl) ?_
        refine AW.iload_n 14 dX3_moebiusOfProduct_13 rfl (by rfl) ?_
        refine AW.cV1 17 dX3_moebiusOfProduct_14 rfl mi_X3_isLowest mv_X3_isLowest lk_X3_23 ⟨(Nat.le_of_ble_eq_true rfl), (Nat.le_of_ble_eq_true rfl)⟩ rfl (by assumption) rfl (Nat.le_of_ble_eq_true rfl) (c_isLowest hp hq (by omega) (hr x (by omega)) ?_)
        refine AW.zeq 54 20 dX3_moebiusOfProduct_17 (by decide) rfl (fun c2 => ?_) (fun c2 => ?_)
        · refine AW.iinc1 57 dX3_moebiusOfProduct_54 rfl (by rfl) rfl ?_
          refine AW.goto 4 dX3_moebiusOfProduct_57 (by decide) ?_
          have := ih (x + 1) (by omega) o
          rw [show mopF r n (x + 1) = mopF r n x by rw [mopF, c2]; rfl] at this
          exact this
        · refine AW.aload_n 21 dX3_moebiusOfProduct_20 rfl (by rfl) ?_
          refine AW.iload_n 22 dX3_moebiusOfProduct_21 rfl (by rfl) ?_
          refine AW.cV1 25 dX3_moebiusOfProduct_22 rfl mi_X3_sizeFrom mv_X3_sizeFrom lk_X3_31 ⟨(Nat.le_of_ble_eq_true rfl), (Nat.le_of_ble_eq_true rfl)⟩ rfl (by assumption) rfl (Nat.le_of_ble_eq_true rfl) (c_sizeFrom hp hq hn (by omega) hr ?_)
          have hz := szF_le r x n
          have hz1 := szF_pos (eq_of_beq c2) n (by omega)
          refine AW.istore_n 26 dX3_moebiusOfProduct_25 rfl (Nat.le_of_ble_eq_true rfl) rfl ?_
          refine AW.iload_n 27 dX3_moebiusOfProduct_26 rfl (by rfl) ?_
          refine AW.iload_n 28 dX3_moebiusOfProduct_27 rfl (by rfl) ?_
          refine AW.iconst 29 dX3_moebiusOfProduct_28 rfl (nI 2) rfl ?_
          refine AW.iremN 30 dX3_moebiusOfProduct_29 rfl (by omega) (by omega) (by omega) ?_
          refine AW.iconst 31 dX3_moebiusOfProduct_30 rfl (nI 1) rfl ?_
          have J : ∀ b : Int32, b = (if szF r n x % 2 = 1 then nI (catN (szF r n x - 1)) else - nI (catN (szF r n x - 1))) → AW X3_moebiusOfProduct 52 [some (.ref p), some (.int (mopF r n x)), some (.int (nI x)), some (.int (nI (szF r n x)))] [.int b, .int (mopF r n x)] N (0, 0) h P := by
            intro b hb
            refine AW.imul 53 dX3_moebiusOfProduct_52 rfl ?_
            refine AW.istore_n 54 dX3_moebiusOfProduct_53 rfl (Nat.le_of_ble_eq_true rfl) rfl ?_
            refine AW.iinc1 57 dX3_moebiusOfProduct_54 rfl (by rfl) rfl ?_
            refine AW.goto 4 dX3_moebiusOfProduct_57 (by decide) ?_
            have := ih (x + 1) (by omega) (some (.int (nI (szF r n x))))
            rw [show mopF r n (x + 1) = mopF r n x * b by rw [mopF, c2, hb]; rfl] at this
            exact this
          refine AW.nne 44 34 dX3_moebiusOfProduct_31 (by decide) rfl (by omega) (by omega) (fun c3 => ?_) (fun c3 => ?_)
          · refine AW.getCat 47 dX3_moebiusOfProduct_44 rfl fn_X3_42 ?_
            refine AW.iload_n 48 dX3_moebiusOfProduct_47 rfl (by rfl) ?_
            refine AW.iconst 49 dX3_moebiusOfProduct_48 rfl (nI 1) rfl ?_
            first | refine AW.isubN 50 dX3_moebiusOfProduct_49 rfl (by omega) ?_ | refine AW.isub 50 dX3_moebiusOfProduct_49 rfl ?_
            refine AW.iaload 51 _ dX3_moebiusOfProduct_50 rfl (by assumption) (by first | exact Or.inl rfl | exact Or.inr rfl) (ix_nI (by omega)) (by omega) ?_
            refine AW.ineg 52 dX3_moebiusOfProduct_51 rfl ?_
            exact J _ (by rw [if_neg c3])
          · refine AW.getCat 37 dX3_moebiusOfProduct_34 rfl fn_X3_42 ?_
            refine AW.iload_n 38 dX3_moebiusOfProduct_37 rfl (by rfl) ?_
            refine AW.iconst 39 dX3_moebiusOfProduct_38 rfl (nI 1) rfl ?_
            first | refine AW.isubN 40 dX3_moebiusOfProduct_39 rfl (by omega) ?_ | refine AW.isub 40 dX3_moebiusOfProduct_39 rfl ?_
            refine AW.iaload 41 _ dX3_moebiusOfProduct_40 rfl (by assumption) (by first | exact Or.inl rfl | exact Or.inr rfl) (ix_nI (by omega)) (by omega) ?_
            refine AW.goto 52 dX3_moebiusOfProduct_41 (by decide) ?_
            exact J _ (by rw [if_pos c3])
  exact L n 0 (by omega) none
def copF (r : Nat → Nat) (n : Nat) : Nat → Nat × Nat
  | 0 => (0, 1)
  | x + 1 => if r x == x then ((copF r n x).1 + (szF r n x - 1), (copF r n x).2 * (chF ((copF r n x).1 + (szF r n x - 1)) (szF r n x - 1) * lngN (szF r n x))) else copF r n x
theorem c_chainsOfProduct (hC : h 1 = sA lngN) (hp : h p = oP n q) (hq : h q = iA 8 r) (hn : n ≤ 8) (hr : ∀ x, x < n → r x < 8) (hb : ∀ x, x ≤ n → (copF r n x).1 < 10) (hP : P (some (.int (nI (copF r n n).2))) N h) : AM X3_chainsOfProduct [.ref p] N h P := by
  refine AM.of0 rfl (Nat.le_of_ble_eq_true rfl) rfl [some (.ref p), none, none, none, none] rfl ?_
  refine AW.iconst 1 dX3_chainsOfProduct_0 rfl (nI 0) rfl ?_
  refine AW.istore_n 2 dX3_chainsOfProduct_1 rfl (Nat.le_of_ble_eq_true rfl) rfl ?_
  refine AW.iconst 3 dX3_chainsOfProduct_2 rfl (nI 1) rfl ?_
  refine AW.istore_n 4 dX3_chainsOfProduct_3 rfl (Nat.le_of_ble_eq_true rfl) rfl ?_
  refine AW.iconst 5 dX3_chainsOfProduct_4 rfl (nI 0) rfl ?_
  refine AW.istore_n 6 dX3_chainsOfProduct_5 rfl (Nat.le_of_ble_eq_true rfl) rfl ?_
  have L : ∀ k x, x + k = n → ∀ o, AW X3_chainsOfProduct 6 [some (.ref p), some (.int (nI (copF r n x).1)), some (.int (nI (copF r n x).2)), some (.int (nI x)), o] [] N (0, 0) h P := by
    intro k
    induction k with
    | zero =>
      intro x hx o
      refine AW.iload_n 7 dX3_chainsOfProduct_6 rfl (by rfl) ?_
      refine AW.aload_n 8 dX3_chainsOfProduct_7 rfl (by rfl) ?_
      refine AW.getfield 11 dX3_chainsOfProduct_8 rfl fl_X3_19 (by assumption) (by rfl) ?_
      refine AW.nge 60 14 dX3_chainsOfProduct_11 (by decide) rfl (by omega) (by omega) (fun c => ?_) (fun c => ?_)
      · refine AW.iload_n 61 dX3_chainsOfProduct_60 rfl (by rfl) ?_
        refine AW.iret dX3_chainsOfProduct_61 rfl ?_
        rw [show copF r n n = copF r n x by rw [show n = x by omega]] at hP
        exact hP
      · omega
    | succ k ih =>
      intro x hx o
      refine AW.iload_n 7 dX3_chainsOfProduct_6 rfl (by rfl) ?_
      refine AW.aload_n 8 dX3_chainsOfProduct_7 rfl (by rfl) ?_
      refine AW.getfield 11 dX3_chainsOfProduct_8 rfl fl_X3_19 (by assumption) (by rfl) ?_
      refine AW.nge 60 14 dX3_chainsOfProduct_11 (by decide) rfl (by omega) (by omega) (fun c => ?_) (fun c => ?_)
      · omega
      · refine AW.aload_n 15 dX3_chainsOfProduct_14 rfl (by rfl) ?_
        refine AW.iload_n 16 dX3_chainsOfProduct_15 rfl (by rfl) ?_
        refine AW.cV1 19 dX3_chainsOfProduct_16 rfl mi_X3_isLowest mv_X3_isLowest lk_X3_23 ⟨(Nat.le_of_ble_eq_true rfl), (Nat.le_of_ble_eq_true rfl)⟩ rfl (by assumption) rfl (Nat.le_of_ble_eq_true rfl) (c_isLowest hp hq (by omega) (hr x (by omega)) ?_)
        refine AW.zeq 54 22 dX3_chainsOfProduct_19 (by decide) rfl (fun c2 => ?_) (fun c2 => ?_)
        · refine AW.iinc1 57 dX3_chainsOfProduct_54 rfl (by rfl) rfl ?_
          refine AW.goto 6 dX3_chainsOfProduct_57 (by decide) ?_
          have := ih (x + 1) (by omega) o
          rw [show copF r n (x + 1) = copF r n x by rw [copF, c2]; rfl] at this
          exact this
        · refine AW.aload_n 23 dX3_chainsOfProduct_22 rfl (by rfl) ?_
          refine AW.iload_n 24 dX3_chainsOfProduct_23 rfl (by rfl) ?_
          refine AW.cV1 27 dX3_chainsOfProduct_24 rfl mi_X3_sizeFrom mv_X3_sizeFrom lk_X3_31 ⟨(Nat.le_of_ble_eq_true rfl), (Nat.le_of_ble_eq_true rfl)⟩ rfl (by assumption) rfl (Nat.le_of_ble_eq_true rfl) (c_sizeFrom hp hq hn (by omega) hr ?_)
          have hz := szF_le r x n
          have hz1 := szF_pos (eq_of_beq c2) n (by omega)
          have hbx := hb (x + 1) (by omega)
          have e1 : copF r n (x + 1) = ((copF r n x).1 + (szF r n x - 1), (copF r n x).2 * (chF ((copF r n x).1 + (szF r n x - 1)) (szF r n x - 1) * lngN (szF r n x))) := by rw [copF, c2]; rfl
          rw [e1] at hbx
          dsimp only at hbx
          refine AW.istore 29 dX3_chainsOfProduct_27 rfl (Nat.le_of_ble_eq_true rfl) rfl ?_
          refine AW.iload_n 30 dX3_chainsOfProduct_29 rfl (by rfl) ?_
          refine AW.iload 32 dX3_chainsOfProduct_30 rfl (by rfl) ?_
          refine AW.iconst 33 dX3_chainsOfProduct_32 rfl (nI 1) rfl ?_
          first | refine AW.isubN 34 dX3_chainsOfProduct_33 rfl (by omega) ?_ | refine AW.isub 34 dX3_chainsOfProduct_33 rfl ?_
          first | refine AW.iaddN 35 dX3_chainsOfProduct_34 rfl ?_ | refine AW.iadd 35 dX3_chainsOfProduct_34 rfl ?_
          refine AW.istore_n 36 dX3_chainsOfProduct_35 rfl (Nat.le_of_ble_eq_true rfl) rfl ?_
          refine AW.iload_n 37 dX3_chainsOfProduct_36 rfl (by rfl) ?_
          refine AW.iload_n 38 dX3_chainsOfProduct_37 rfl (by rfl) ?_
          refine AW.iload 40 dX3_chainsOfProduct_38 rfl (by rfl) ?_
          refine AW.iconst 41 dX3_chainsOfProduct_40 rfl (nI 1) rfl ?_
          first | refine AW.isubN 42 dX3_chainsOfProduct_41 rfl (by omega) ?_ | refine AW.isub 42 dX3_chainsOfProduct_41 rfl ?_
          refine AW.cN2 45 dX3_chainsOfProduct_42 rfl mi_X7_choose ms_X7_choose lk_X3_35 ⟨(Nat.le_of_ble_eq_true rfl), (Nat.le_of_ble_eq_true rfl)⟩ rfl (Nat.le_of_ble_eq_true rfl) (c_choose hbx ?_ (by omega))
          refine AW.getLong 48 dX3_chainsOfProduct_45 rfl fn_X3_39 ?_
          refine AW.iload 50 dX3_chainsOfProduct_48 rfl (by rfl) ?_
          refine AW.iaload 51 _ dX3_chainsOfProduct_50 rfl (by assumption) (by first | exact Or.inl rfl | exact Or.inr rfl) (ix_nI (by omega)) (by omega) ?_
          first | refine AW.imulN 52 dX3_chainsOfProduct_51 rfl ?_ | refine AW.imul 52 dX3_chainsOfProduct_51 rfl ?_
          first | refine AW.imulN 53 dX3_chainsOfProduct_52 rfl ?_ | refine AW.imul 53 dX3_chainsOfProduct_52 rfl ?_
          refine AW.istore_n 54 dX3_chainsOfProduct_53 rfl (Nat.le_of_ble_eq_true rfl) rfl ?_
          refine AW.iinc1 57 dX3_chainsOfProduct_54 rfl (by rfl) rfl ?_
          refine AW.goto 6 dX3_chainsOfProduct_57 (by decide) ?_
          have := ih (x + 1) (by omega) (some (.int (nI (szF r n x))))
          rw [e1] at this
          exact this
  exact L n 0 (by omega) none
theorem c_copy {p2 q2 : Nat} {n0 : Int32} {rf : Nat → Int32} (hp : h p = .inr (3, [.int n0, .ref q])) (hq : h q = .inl (0, (8, .inl rf))) (hp2 : h p2 = oP n q2) (hq2 : h q2 = iA 8 r) (hpq : p ≠ q) (h12 : p2 ≠ p ∧ p2 ≠ q ∧ q2 ≠ p ∧ q2 ≠ q) (hx : ∀ i, 8 ≤ i → rf i = nI (r i)) (hP : P none N (hs (hs h p (oP n q)) q (iA 8 r))) : AM X3_copy [.ref p, .ref p2] N h P := by
  obtain ⟨d1, d2, d3, d4⟩ := h12
  refine AM.of0 rfl (Nat.le_of_ble_eq_true rfl) rfl [some (.ref p), some (.ref p2), none] rfl ?_
  refine AW.aload_n 1 dX3_copy_0 rfl (by rfl) ?_
  refine AW.aload_n 2 dX3_copy_1 rfl (by rfl) ?_
  refine AW.getfield 5 dX3_copy_2 rfl fl_X3_19 (by assumption) (by rfl) ?_
  refine AW.putfield 8 dX3_copy_5 rfl fl_X3_19 (by assumption) (Nat.le_of_ble_eq_true rfl) (fun _ => ⟨rfl, rfl⟩) ?_
  refine AW.heap (hs (hs h p (oP n q)) q (.inl (0, (8, .inl (fun i => if i < 0 then nI (r i) else rf i))))) ?_ ?_
  · funext z
    by_cases e : z = q
    · subst e; rw [hs_eq, hs_ne (Ne.symm hpq), hq]; simp
    · rw [hs_ne e]; rfl
  refine AW.iconst 9 dX3_copy_8 rfl (nI 0) rfl ?_
  refine AW.istore_n 10 dX3_copy_9 rfl (Nat.le_of_ble_eq_true rfl) rfl ?_
  have L : ∀ j i, i + j = 8 → AW X3_copy 10 [some (.ref p), some (.ref p2), some (.int (nI i))] [] N (0, 0) (hs (hs h p (oP n q)) q (.inl (0, (8, .inl (fun z => if z < i then nI (r z) else rf z))))) P := by
    intro j
    induction j with
    | zero =>
      intro i hi
      refine AW.iload_n 11 dX3_copy_10 rfl (by rfl) ?_
      refine AW.bipush 13 dX3_copy_11 rfl (nI 8) rfl ?_
      refine AW.nge 34 16 dX3_copy_13 (by decide) rfl (by omega) (by omega) (fun c => ?_) (fun c => ?_)
      · refine AW.vret dX3_copy_34 rfl ?_
        obtain rfl : i = 8 := by omega
        rw [show (fun z => if z < 8 then nI (r z) else rf z) = (fun z => nI (r z)) from funext fun z => by by_cases e : z < 8 <;> simp only [e, if_true, if_false]; exact hx z (by omega)]
        exact hP
      · omega
    | succ j ih =>
      intro i hi
      refine AW.iload_n 11 dX3_copy_10 rfl (by rfl) ?_
      refine AW.bipush 13 dX3_copy_11 rfl (nI 8) rfl ?_
      refine AW.nge 34 16 dX3_copy_13 (by decide) rfl (by omega) (by omega) (fun c => ?_) (fun c => ?_)
      · omega
      · have hp' : (hs (hs h p (oP n q)) q (.inl (0, (8, .inl (fun z => if z < i then nI (r z) else rf z))))) p = oP n q := by rw [hs_ne hpq, hs_eq]
        have hq' := hs_eq (hs h p (oP n q)) q (.inl (0, (8, .inl (fun z => if z < i then nI (r z) else rf z))))
        have hp2' : (hs (hs h p (oP n q)) q (.inl (0, (8, .inl (fun z => if z < i then nI (r z) else rf z))))) p2 = oP n q2 := by rw [hs_ne d2, hs_ne d1, hp2]
        have hq2' : (hs (hs h p (oP n q)) q (.inl (0, (8, .inl (fun z => if z < i then nI (r z) else rf z))))) q2 = iA 8 r := by rw [hs_ne d4, hs_ne d3, hq2]
        refine AW.aload_n 17 dX3_copy_16 rfl (by rfl) ?_
        refine AW.getfield 20 dX3_copy_17 rfl fl_X3_9 (by assumption) (by rfl) ?_
        refine AW.iload_n 21 dX3_copy_20 rfl (by rfl) ?_
        refine AW.aload_n 22 dX3_copy_21 rfl (by rfl) ?_
        refine AW.getfield 25 dX3_copy_22 rfl fl_X3_9 (by assumption) (by rfl) ?_
        refine AW.iload_n 26 dX3_copy_25 rfl (by rfl) ?_
        refine AW.iaload 27 _ dX3_copy_26 rfl (by assumption) (by first | exact Or.inl rfl | exact Or.inr rfl) (ix_nI (by omega)) (by omega) ?_
        refine AW.iastore 28 _ dX3_copy_27 rfl (by assumption) (ix_nI (by omega)) (by omega) ?_
        refine AW.iinc1 31 dX3_copy_28 rfl (by rfl) rfl ?_
        refine AW.goto 10 dX3_copy_31 (by decide) ?_
        rw [hs_hs, show upd (fun z => if z < i then nI (r z) else rf z) i (nI (r i)) = (fun z => if z < i + 1 then nI (r z) else rf z) from funext fun z => by
          by_cases e : z = i
          · subst e; simp [upd]
          · by_cases e2 : z < i
            · simp [upd, e, e2, Nat.lt_succ_of_lt e2]
            · simp [upd, e, e2, show ¬ z < i + 1 by omega]]
        exact ih (i + 1) (by omega)
  exact L 8 0 (by omega)
/-- the last place where p holds, below n; 0 if none -/
def lstF (p : Nat → Bool) : Nat → Nat
  | 0 => 0
  | x + 1 => if p x then x else lstF p x
def lblI (r : Nat → Nat) (first d : Nat) : Nat → Nat
  | 0 => d
  | k + 1 => if r (first + k) == first then first + k else lblI r first d k
def lblF (r r2 : Nat → Nat) (n : Nat) : Nat :=
  let second := lstF (fun x => r x == x && !(r2 x == x)) n
  lblI r (r2 second) (r2 second) (second - r2 second)
theorem lstF_lt (p : Nat → Bool) : ∀ x, lstF p x < x ∨ lstF p x = 0
  | 0 => Or.inr rfl
  | x + 1 => by
    unfold lstF
    by_cases c : p x = true
    · rw [if_pos c]; exact Or.inl (by omega)
    · rw [if_neg c]; rcases lstF_lt p x with z | z
      · exact Or.inl (by omega)
      · exact Or.inr z
theorem c_labelTo {p2 q2 : Nat} {r2 : Nat → Nat} (hp : h p = oP n q) (hq : h q = iA 8 r) (hp2 : h p2 = oP n q2) (hq2 : h q2 = iA 8 r2) (hn : n ≤ 8) (hn1 : 1 ≤ n) (hr : ∀ x, x < 8 → r x < 8) (hr2 : ∀ x, x < 8 → r2 x ≤ x) (hP : P (some (.int (nI (lblF r r2 n)))) N h) : AM X3_labelTo [.ref p, .ref p2] N h P := by
  refine AM.of0 rfl (Nat.le_of_ble_eq_true rfl) rfl [some (.ref p), some (.ref p2), none, none, none, none] rfl ?_
  have I : ∀ sec, sec < 8 → P (some (.int (nI (lblI r (r2 sec) (r2 sec) (sec - r2 sec))))) N h → ∀ o, AW X3_labelTo 36 [some (.ref p), some (.ref p2), some (.int (nI sec)), o, none, none] [] N (0, 0) h P := by
    intro sec hsec hP o
    have hrs := hr2 sec hsec
    refine AW.aload_n 37 dX3_labelTo_36 rfl (by rfl) ?_
    refine AW.getfield 40 dX3_labelTo_37 rfl fl_X3_9 (by assumption) (by rfl) ?_
    refine AW.iload_n 41 dX3_labelTo_40 rfl (by rfl) ?_
    refine AW.iaload 42 _ dX3_labelTo_41 rfl (by assumption) (by first | exact Or.inl rfl | exact Or.inr rfl) (ix_nI (by omega)) (by omega) ?_
    refine AW.istore_n 43 dX3_labelTo_42 rfl (Nat.le_of_ble_eq_true rfl) rfl ?_
    refine AW.iload_n 44 dX3_labelTo_43 rfl (by rfl) ?_
    refine AW.istore 46 dX3_labelTo_44 rfl (Nat.le_of_ble_eq_true rfl) rfl ?_
    refine AW.iload_n 47 dX3_labelTo_46 rfl (by rfl) ?_
    refine AW.istore 49 dX3_labelTo_47 rfl (Nat.le_of_ble_eq_true rfl) rfl ?_
    have L : ∀ j k, k + j = sec - r2 sec → AW X3_labelTo 49 [some (.ref p), some (.ref p2), some (.int (nI sec)), some (.int (nI (r2 sec))), some (.int (nI (lblI r (r2 sec) (r2 sec) k))), some (.int (nI (r2 sec + k)))] [] N (0, 0) h P := by
      intro j
      induction j with
      | zero =>
        intro k hk
        refine AW.iload 51 dX3_labelTo_49 rfl (by rfl) ?_
        refine AW.iload_n 52 dX3_labelTo_51 rfl (by rfl) ?_
        refine AW.nge 76 55 dX3_labelTo_52 (by decide) rfl (by omega) (by omega) (fun c => ?_) (fun c => ?_)
        · refine AW.iload 78 dX3_labelTo_76 rfl (by rfl) ?_
          refine AW.iret dX3_labelTo_78 rfl ?_
          rw [show k = sec - r2 sec by omega]
          exact hP
        · omega
      | succ j ih =>
        intro k hk
        refine AW.iload 51 dX3_labelTo_49 rfl (by rfl) ?_
        refine AW.iload_n 52 dX3_labelTo_51 rfl (by rfl) ?_
        refine AW.nge 76 55 dX3_labelTo_52 (by decide) rfl (by omega) (by omega) (fun c => ?_) (fun c => ?_)
        · omega
        · have := hr (r2 sec + k) (by omega)
          refine AW.aload_n 56 dX3_labelTo_55 rfl (by rfl) ?_
          refine AW.getfield 59 dX3_labelTo_56 rfl fl_X3_9 (by assumption) (by rfl) ?_
          refine AW.iload 61 dX3_labelTo_59 rfl (by rfl) ?_
          refine AW.iaload 62 _ dX3_labelTo_61 rfl (by assumption) (by first | exact Or.inl rfl | exact Or.inr rfl) (ix_nI (by omega)) (by omega) ?_
          refine AW.iload_n 63 dX3_labelTo_62 rfl (by rfl) ?_
          refine AW.nne 70 66 dX3_labelTo_63 (by decide) rfl (by omega) (by omega) (fun c2 => ?_) (fun c2 => ?_)
          · refine AW.iinc1 73 dX3_labelTo_70 rfl (by rfl) rfl ?_
            refine AW.goto 49 dX3_labelTo_73 (by decide) ?_
            have := ih (k + 1) (by omega)
            rw [show lblI r (r2 sec) (r2 sec) (k + 1) = lblI r (r2 sec) (r2 sec) k by rw [lblI, if_neg (by simp [c2])]] at this
            exact this
          · refine AW.iload 68 dX3_labelTo_66 rfl (by rfl) ?_
            refine AW.istore 70 dX3_labelTo_68 rfl (Nat.le_of_ble_eq_true rfl) rfl ?_
            refine AW.iinc1 73 dX3_labelTo_70 rfl (by rfl) rfl ?_
            refine AW.goto 49 dX3_labelTo_73 (by decide) ?_
            have := ih (k + 1) (by omega)
            rw [show lblI r (r2 sec) (r2 sec) (k + 1) = r2 sec + k by rw [lblI, if_pos (by simp [c2])]] at this
            exact this
    exact L (sec - r2 sec) 0 (by omega)
  refine AW.iconst 1 dX3_labelTo_0 rfl (nI 0) rfl ?_
  refine AW.istore_n 2 dX3_labelTo_1 rfl (Nat.le_of_ble_eq_true rfl) rfl ?_
  refine AW.iconst 3 dX3_labelTo_2 rfl (nI 0) rfl ?_
  refine AW.istore_n 4 dX3_labelTo_3 rfl (Nat.le_of_ble_eq_true rfl) rfl ?_
  have L : ∀ k x, x + k = n → AW X3_labelTo 4 [some (.ref p), some (.ref p2), some (.int (nI (lstF (fun x => r x == x && !(r2 x == x)) x))), some (.int (nI x)), none, none] [] N (0, 0) h P := by
    intro k
    induction k with
    | zero =>
      intro x hx
      refine AW.iload_n 5 dX3_labelTo_4 rfl (by rfl) ?_
      refine AW.aload_n 6 dX3_labelTo_5 rfl (by rfl) ?_
      refine AW.getfield 9 dX3_labelTo_6 rfl fl_X3_19 (by assumption) (by rfl) ?_
      refine AW.nge 36 12 dX3_labelTo_9 (by decide) rfl (by omega) (by omega) (fun c => ?_) (fun c => ?_)
      · rw [show x = n by omega]
        refine I _ ?_ hP _
        rcases lstF_lt (fun x => r x == x && !(r2 x == x)) n with z | z <;> omega
      · omega
    | succ k ih =>
      intro x hx
      refine AW.iload_n 5 dX3_labelTo_4 rfl (by rfl) ?_
      refine AW.aload_n 6 dX3_labelTo_5 rfl (by rfl) ?_
      refine AW.getfield 9 dX3_labelTo_6 rfl fl_X3_19 (by assumption) (by rfl) ?_
      refine AW.nge 36 12 dX3_labelTo_9 (by decide) rfl (by omega) (by omega) (fun c => ?_) (fun c => ?_)
      · omega
      · refine AW.aload_n 13 dX3_labelTo_12 rfl (by rfl) ?_
        refine AW.iload_n 14 dX3_labelTo_13 rfl (by rfl) ?_
        refine AW.cV1 17 dX3_labelTo_14 rfl mi_X3_isLowest mv_X3_isLowest lk_X3_23 ⟨(Nat.le_of_ble_eq_true rfl), (Nat.le_of_ble_eq_true rfl)⟩ rfl (by assumption) rfl (Nat.le_of_ble_eq_true rfl) (c_isLowest hp hq (by omega) (hr x (by omega)) ?_)
        have := ih (x + 1) (by omega)
        rw [show lstF (fun x => r x == x && !(r2 x == x)) (x + 1) = if r x == x && !(r2 x == x) then x else lstF (fun x => r x == x && !(r2 x == x)) x from rfl] at this
        refine AW.zeq 30 20 dX3_labelTo_17 (by decide) rfl (fun c2 => ?_) (fun c2 => ?_)
        · refine AW.iinc1 33 dX3_labelTo_30 rfl (by rfl) rfl ?_
          refine AW.goto 4 dX3_labelTo_33 (by decide) ?_
          rw [c2] at this
          exact this
        · have hb := hr2 x (by omega)
          refine AW.aload_n 21 dX3_labelTo_20 rfl (by rfl) ?_
          refine AW.iload_n 22 dX3_labelTo_21 rfl (by rfl) ?_
          refine AW.cV1 25 dX3_labelTo_22 rfl mi_X3_isLowest mv_X3_isLowest lk_X3_23 ⟨(Nat.le_of_ble_eq_true rfl), (Nat.le_of_ble_eq_true rfl)⟩ rfl (by assumption) rfl (Nat.le_of_ble_eq_true rfl) (c_isLowest hp2 hq2 (by omega) (by omega) ?_)
          rw [c2] at this
          refine AW.zne 30 28 dX3_labelTo_25 (by decide) rfl (fun c3 => ?_) (fun c3 => ?_)
          · refine AW.iinc1 33 dX3_labelTo_30 rfl (by rfl) rfl ?_
            refine AW.goto 4 dX3_labelTo_33 (by decide) ?_
            rw [c3] at this
            exact this
          · refine AW.iload_n 29 dX3_labelTo_28 rfl (by rfl) ?_
            refine AW.istore_n 30 dX3_labelTo_29 rfl (Nat.le_of_ble_eq_true rfl) rfl ?_
            refine AW.iinc1 33 dX3_labelTo_30 rfl (by rfl) rfl ?_
            refine AW.goto 4 dX3_labelTo_33 (by decide) ?_
            rw [c3] at this
            exact this
  exact L n 0 (by omega)
end PART
