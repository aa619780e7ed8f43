/-! THE MODEL (reference), first part: bits, rows of a code, groups -/
theorem or_nI (a b : Nat) : nI a ||| nI b = nI (a ||| b) := by
  apply Int32.toBitVec_inj.1
  show BitVec.ofNat 32 a ||| BitVec.ofNat 32 b = BitVec.ofNat 32 (a ||| b)
  apply BitVec.eq_of_getLsbD_eq
  intro i hi
  simp [hi]
theorem or_sum {a k : Nat} (b : Nat) (h : a < 2 ^ k) : nI (2 ^ k * b) ||| nI a = nI (2 ^ k * b + a) := by rw [or_nI, Nat.two_pow_add_eq_or_of_lt h]
theorem andnot_nI {s hi d : Nat} (hs : s < 28) (hd : d < 8) : nI (2 ^ (s + 3) * hi + 2 ^ s * d) &&& (nI (7 * 2 ^ s) ^^^ (-1)) = nI (2 ^ (s + 3) * hi) := by
  apply Int32.toBitVec_inj.1
  show BitVec.ofNat 32 (2 ^ (s + 3) * hi + 2 ^ s * d) &&& (BitVec.ofNat 32 (7 * 2 ^ s) ^^^ (-1 : Int32).toBitVec) = BitVec.ofNat 32 (2 ^ (s + 3) * hi)
  apply BitVec.eq_of_getLsbD_eq
  intro i h32
  have h1 : (-1 : Int32).toBitVec.getLsbD i = true := by
    have : (-1 : Int32).toBitVec = BitVec.allOnes 32 := by decide
    rw [this, BitVec.getLsbD_allOnes]
    exact decide_eq_true h32
  rw [BitVec.getLsbD_and, BitVec.getLsbD_xor, h1, BitVec.getLsbD_ofNat, BitVec.getLsbD_ofNat, BitVec.getLsbD_ofNat]
  simp only [h32, decide_true, Bool.true_and]
  have e1 : 2 ^ (s + 3) * hi + 2 ^ s * d = 2 ^ s * (2 ^ 3 * hi + d) := by rw [Nat.pow_add, Nat.mul_add, Nat.mul_assoc]
  have e2 : 2 ^ (s + 3) * hi = 2 ^ s * (2 ^ 3 * hi) := by rw [Nat.pow_add, Nat.mul_assoc]
  rw [e1, e2, Nat.mul_comm 7]
  simp only [Nat.testBit_two_pow_mul]
  by_cases c : s ≤ i
  · simp only [c, decide_true, Bool.true_and]
    rw [Nat.testBit_two_pow_mul_add _ hd]
    by_cases c2 : i - s < 3
    · have hz : i - s = 0 ∨ i - s = 1 ∨ i - s = 2 := by omega
      rcases hz with z | z | z <;> rw [z]
      · rw [if_pos (by decide), show (7 : Nat).testBit 0 = true by decide]; simp
      · rw [if_pos (by decide), show (7 : Nat).testBit 1 = true by decide]; simp
      · rw [if_pos (by decide), show (7 : Nat).testBit 2 = true by decide]; simp
    · rw [if_neg c2]
      have : (7 : Nat).testBit (i - s) = false := Nat.testBit_lt_two_pow (Nat.lt_of_lt_of_le (by decide : 7 < 2 ^ 3) (Nat.pow_le_pow_right (by decide) (by omega)))
      rw [this]
      simp [show 3 ≤ i - s by omega]
  · simp [c]
theorem sh_mod : ∀ s, s < 32 → ((nI s &&& 31).toBitVec.smod 32).toNat = s := by decide +kernel
section REF0
variable {Y : aY} {pc : Nat} {ls : List (Option Value)} {st : List Value} {N : Nat} {u : Nat × Nat} {h : aH} {P : aP}
theorem AW.ishrN {a s : Nat} (q : Nat) (hd : decode Y.2.1 pc = .ok (.ishr, 1)) (hq : pc + 1 = q) (ha : a < 2147483648) (hs : s < 32) (k : AW Y q ls (.int (nI (a / 2 ^ s)) :: st) N u h P) : AW Y pc ls (.int (nI s) :: .int (nI a) :: st) N u h P := AW.ishr q hd hq (by rw [pk_shrN ha _ s (sh_mod s hs)]; exact k)
theorem AW.ishlN {a s : Nat} (q : Nat) (hd : decode Y.2.1 pc = .ok (.ishl, 1)) (hq : pc + 1 = q) (hs : s < 32) (ha : a * 2 ^ s < 4294967296) (k : AW Y q ls (.int (nI (a * 2 ^ s)) :: st) N u h P) : AW Y pc ls (.int (nI s) :: .int (nI a) :: st) N u h P := AW.ishl q hd hq (by rw [pk_shlN _ s (sh_mod s hs) ha]; exact k)
theorem AW.iand7 {a : Nat} (q : Nat) (hd : decode Y.2.1 pc = .ok (.iand, 1)) (hq : pc + 1 = q) (ha : a < 2147483648) (k : AW Y q ls (.int (nI (a % 8)) :: st) N u h P) : AW Y pc ls (.int (nI 7) :: .int (nI a) :: st) N u h P := AW.iand q hd hq (by rw [pk_andN (k := 3) (Nat.lt_trans ha (by decide)) (by decide)]; exact k)
end REF0
/-- a number of a code's row -/
def rw8 (c x : Nat) : Nat := c / 8 ^ (7 - x) % 8
theorem rw8_lt (c x : Nat) : rw8 c x < 8 := Nat.mod_lt _ (by decide)
theorem cr_rw {n c x : Nat} (h : x < n) : cr n c x = rw8 c x := by rw [cr, if_pos h]; rfl
theorem pow_83 (x : Nat) (h : x < 8) : (2 : Nat) ^ (21 - 3 * x) = 8 ^ (7 - x) := by
  rw [show (8 : Nat) = 2 ^ 3 from rfl, ← Nat.pow_mul]
  congr 1
  omega
/-- the model's fields -/
def modO (ps ty la ma at_ fa od : Int32) (d : Int64) : aE := .inr (8, [.ref 197, .ref 198, .ref 199, .int ps, .ref 200, .ref 201, .int ty, .ref 202, .int la, .int ma, .ref 203, .ref 204, .ref 205, .ref 206, .ref 207, .ref 208, .ref 209, .int at_, .int fa, .int od, .ref 210, .ref 211, .long d])
def nowF (σ : aS) (i : Nat) : Int32 := if i = 0 then nI σ.1 else if i < 7 then nI (σ.2.1 (i - 1)) else if i < 15 then σ.2.2 (i - 7) else nI 0
/-- what the row methods see of the model: its object, n, the groups -/
def GrpAt (h : aH) (n : Nat) (g : Nat → Nat) : Prop := (∃ ps ty la ma at_ fa od d, h 196 = modO ps ty la ma at_ fa od d) ∧ (∃ f, h 197 = .inl (0, (15, .inl f)) ∧ f 0 = nI n) ∧ h 202 = iA 8 g ∧ 1 ≤ n ∧ n ≤ 8 ∧ ∀ i, i < 8 → g i < 64
theorem GrpAt.grp {h : aH} {n : Nat} {g g' : Nat → Nat} (G : GrpAt h n g) (hg : ∀ i, i < 8 → g' i < 64) : GrpAt (hs h 202 (iA 8 g')) n g' := by
  obtain ⟨⟨ps, ty, la, ma, at_, fa, od, d, g1⟩, ⟨f, g2, g3⟩, g4, g5, g6, -⟩ := G
  exact ⟨⟨ps, ty, la, ma, at_, fa, od, d, by rw [hs_ne (by decide), g1]⟩, ⟨f, by rw [hs_ne (by decide), g2], g3⟩, hs_eq _ _ _, g5, g6, hg⟩
section REF1
variable {N n : Nat} {h : aH} {P : aP} {g : Nat → Nat}
theorem c_in {x a b : Int32} (hP : P (some (.int (nI (b01 (decide (a ≤ x) && decide (x ≤ b)))))) N h) : AM X8_in [.int x, .int a, .int b] N h P := by
  refine AM.of0 rfl (Nat.le_of_ble_eq_true rfl) rfl [some (.int x), some (.int a), some (.int b)] rfl ?_
  refine AW.iload_n 1 dX8_in_0 rfl (by rfl) ?_
  refine AW.iload_n 2 dX8_in_1 rfl (by rfl) ?_
  refine AW.icmp_lt 14 5 dX8_in_2 (by decide) rfl (fun c => ?_) (fun c => ?_)
  · rw [b01_f (by rw [decide_eq_false (Int32.not_le.mpr c)]; rfl)] at hP
    refine AW.iconst 15 dX8_in_14 rfl (nI 0) rfl ?_
    refine AW.zret dX8_in_15 rfl (by first | exact z_0 | exact z_1 | exact z_b01 _ | assumption) ?_
    exact hP
  · refine AW.iload_n 6 dX8_in_5 rfl (by rfl) ?_
    refine AW.iload_n 7 dX8_in_6 rfl (by rfl) ?_
    refine AW.icmp_gt 14 10 dX8_in_7 (by decide) rfl (fun c2 => ?_) (fun c2 => ?_)
    · rw [b01_f (by rw [decide_eq_false (p := x ≤ b) (Int32.not_le.mpr c2), Bool.and_false])] at hP
      refine AW.iconst 15 dX8_in_14 rfl (nI 0) rfl ?_
      refine AW.zret dX8_in_15 rfl (by first | exact z_0 | exact z_1 | exact z_b01 _ | assumption) ?_
      exact hP
    · rw [b01_t (by rw [decide_eq_true (Int32.not_lt.mp c), decide_eq_true (Int32.not_lt.mp c2)]; rfl)] at hP
      refine AW.iconst 11 dX8_in_10 rfl (nI 1) rfl ?_
      refine AW.goto 15 dX8_in_11 (by decide) ?_
      refine AW.zret dX8_in_15 rfl (by first | exact z_0 | exact z_1 | exact z_b01 _ | assumption) ?_
      exact hP
theorem c_rowOf {c x : Nat} (hx : x < 8) (hc : c < 16777216) (hP : P (some (.int (nI (rw8 c x)))) N h) : AM X8_rowOf [.int (nI c), .int (nI x)] N h P := by
  refine AM.of0 rfl (Nat.le_of_ble_eq_true rfl) rfl [some (.int (nI c)), some (.int (nI x))] rfl ?_
  refine AW.iload_n 1 dX8_rowOf_0 rfl (by rfl) ?_
  refine AW.bipush 3 dX8_rowOf_1 rfl (nI 21) rfl ?_
  refine AW.iconst 4 dX8_rowOf_3 rfl (nI 3) rfl ?_
  refine AW.iload_n 5 dX8_rowOf_4 rfl (by rfl) ?_
  first | refine AW.imulN 6 dX8_rowOf_5 rfl ?_ | refine AW.imul 6 dX8_rowOf_5 rfl ?_
  first | refine AW.isubN 7 dX8_rowOf_6 rfl (by omega) ?_ | refine AW.isub 7 dX8_rowOf_6 rfl ?_
  refine AW.ishrN 8 dX8_rowOf_7 rfl (by omega) (by omega) ?_
  refine AW.bipush 10 dX8_rowOf_8 rfl (nI 7) rfl ?_
  have := Nat.div_le_self c (2 ^ (21 - 3 * x))
  refine AW.iand7 11 dX8_rowOf_10 rfl (by omega) ?_
  rw [pow_83 x hx]
  refine AW.iret dX8_rowOf_11 rfl ?_
  exact hP
def mrgF (g : Nat → Nat) (one other : Nat) : Nat → Nat := fun x => if x < 8 ∧ g x = other then one else g x
theorem c_uniteG {one other : Nat} (G : GrpAt h n g) (h1 : one < 64) (h2 : other < 64) (hP : P none N (hs h 202 (iA 8 (mrgF g one other)))) : AM X8_unite [.ref 196, .int (nI one), .int (nI other)] N h P := by
  obtain ⟨⟨ps, ty, la, ma, at_, fa, od, d, g1⟩, ⟨f, g2, g3⟩, g4, g5, g6, g7⟩ := G
  refine AM.of0 rfl (Nat.le_of_ble_eq_true rfl) rfl [some (.ref 196), some (.int (nI one)), some (.int (nI other)), none] rfl ?_
  refine AW.iconst 1 dX8_unite_0 rfl (nI 0) rfl ?_
  refine AW.istore_n 2 dX8_unite_1 rfl (Nat.le_of_ble_eq_true rfl) rfl ?_
  have L : ∀ k x, x + k = 8 → AW X8_unite 2 [some (.ref 196), some (.int (nI one)), some (.int (nI other)), some (.int (nI x))] [] N (0, 0) (hs h 202 (iA 8 (fun i => if i < x ∧ g i = other then one else g i))) P := by
    intro k
    induction k with
    | zero =>
      intro x hx
      refine AW.iload_n 3 dX8_unite_2 rfl (by rfl) ?_
      refine AW.bipush 5 dX8_unite_3 rfl (nI 8) rfl ?_
      refine AW.nge 40 8 dX8_unite_5 (by decide) rfl (by omega) (by omega) (fun c => ?_) (fun c => ?_)
      · obtain rfl : x = 8 := by omega
        refine AW.vret dX8_unite_40 rfl ?_
        exact hP
      · omega
    | succ k ih =>
      intro x hx
      have x196 : hs h 202 (iA 8 (fun i => if i < x ∧ g i = other then one else g i)) 196 = modO ps ty la ma at_ fa od d := by rw [hs_ne (by decide), g1]
      have x202 : hs h 202 (iA 8 (fun i => if i < x ∧ g i = other then one else g i)) 202 = iA 8 (fun i => if i < x ∧ g i = other then one else g i) := hs_eq _ _ _
      have hgx := g7 x (by omega)
      refine AW.iload_n 3 dX8_unite_2 rfl (by rfl) ?_
      refine AW.bipush 5 dX8_unite_3 rfl (nI 8) rfl ?_
      refine AW.nge 40 8 dX8_unite_5 (by decide) rfl (by omega) (by omega) (fun c => ?_) (fun c => ?_)
      · omega
      · have J : ∀ v, v = (if g x = other then one else g x) → AW X8_unite 33 [some (.ref 196), some (.int (nI one)), some (.int (nI other)), some (.int (nI x))] [.int (nI v), .int (nI x), .ref 202] N (0, 0) (hs h 202 (iA 8 (fun i => if i < x ∧ g i = other then one else g i))) P := by
          intro v hv
          refine AW.iastore 34 _ dX8_unite_33 rfl (by assumption) (ix_nI (by omega)) (by omega) ?_
          refine AW.iinc1 37 dX8_unite_34 rfl (by rfl) rfl ?_
          refine AW.goto 2 dX8_unite_37 (by decide) ?_
          rw [hs_hs, upd_nI, show upN (fun i => if i < x ∧ g i = other then one else g i) x v = (fun i => if i < x + 1 ∧ g i = other then one else g i) from funext fun i => by
            unfold upN
            by_cases e : i = x
            · subst e; rw [if_pos rfl, hv]; simp
            · rw [if_neg e]
              by_cases e2 : i < x
              · simp [e2, Nat.lt_succ_of_lt e2]
              · simp [e2, show ¬ i < x + 1 by omega]]
          exact ih (x + 1) (by omega)
        refine AW.aload_n 9 dX8_unite_8 rfl (by rfl) ?_
        refine AW.getfield 12 dX8_unite_9 rfl fl_X8_25 (by assumption) (by rfl) ?_
        refine AW.iload_n 13 dX8_unite_12 rfl (by rfl) ?_
        refine AW.aload_n 14 dX8_unite_13 rfl (by rfl) ?_
        refine AW.getfield 17 dX8_unite_14 rfl fl_X8_25 (by assumption) (by rfl) ?_
        refine AW.iload_n 18 dX8_unite_17 rfl (by rfl) ?_
        refine AW.iaload 19 _ dX8_unite_18 rfl (by assumption) (by first | exact Or.inl rfl | exact Or.inr rfl) (ix_nI (by omega)) (by omega) ?_
        rw [show (fun i => if i < x ∧ g i = other then one else g i) x = g x by simp]
        refine AW.iload_n 20 dX8_unite_19 rfl (by rfl) ?_
        refine AW.nne 27 23 dX8_unite_20 (by decide) rfl (by omega) (by omega) (fun c2 => ?_) (fun c2 => ?_)
        · refine AW.aload_n 28 dX8_unite_27 rfl (by rfl) ?_
          refine AW.getfield 31 dX8_unite_28 rfl fl_X8_25 (by assumption) (by rfl) ?_
          refine AW.iload_n 32 dX8_unite_31 rfl (by rfl) ?_
          refine AW.iaload 33 _ dX8_unite_32 rfl (by assumption) (by first | exact Or.inl rfl | exact Or.inr rfl) (ix_nI (by omega)) (by omega) ?_
          rw [show (fun i => if i < x ∧ g i = other then one else g i) x = g x by simp]
          exact J _ (by rw [if_neg c2])
        · refine AW.iload_n 24 dX8_unite_23 rfl (by rfl) ?_
          refine AW.goto 33 dX8_unite_24 (by decide) ?_
          exact J _ (by rw [if_pos c2])
  have := L 8 0 (by omega)
  rw [show (fun i => if i < 0 ∧ g i = other then one else g i) = g from funext fun i => by simp, hs_self g4] at this
  exact this
end REF1
