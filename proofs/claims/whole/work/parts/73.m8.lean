/-! MATHEMATICS 8: turns, takes, of (0 to 3) -/
theorem p5_use {n k m : Nat} (h : p5A n k m = true) : ∀ j, k ≤ j → j < k + m → plcF (cr n (tb n j)) n = j := by
  intro j h1 h2
  have := Nat.eq_of_beq_eq_true (allK_iff h (j - k) (by omega))
  rw [show Nat.add k (j - k) = j by show k + (j - k) = j; omega] at this
  exact this
theorem k5_use {n k m : Nat} (h : k5A n k m = true) : ∀ j, k ≤ j → j < k + m → taC n j = tb n j := by
  intro j h1 h2
  have := Nat.eq_of_beq_eq_true (allK_iff h (j - k) (by omega))
  rw [show Nat.add k (j - k) = j by show k + (j - k) = j; omega] at this
  exact this
theorem s5_use {n k m : Nat} (h : s5A n k m = true) : ∀ j, k ≤ j → j < k + m → sglF (cr n (tb n j)) n n = alM n (tb n j) n ∧ lgF (cr n (tb n j)) n n = mxM n (tb n j) n := by
  intro j h1 h2
  have := cond_and (frc_t (allK_iff h (j - k) (by omega)))
  rw [show Nat.add k (j - k) = j by show k + (j - k) = j; omega] at this
  exact ⟨Nat.eq_of_beq_eq_true this.1, Nat.eq_of_beq_eq_true this.2⟩
theorem p5_all {n k : Nat} (h1 : 1 ≤ n) (h2 : n ≤ 8) (hk : k < catN n) : plcF (cr n (tb n k)) n = k := by
  have : n = 1 ∨ n = 2 ∨ n = 3 ∨ n = 4 ∨ n = 5 ∨ n = 6 ∨ n = 7 ∨ n = 8 := by omega
  rcases this with rfl | rfl | rfl | rfl | rfl | rfl | rfl | rfl
  · exact p5_use p5_1 k (Nat.zero_le _) (by rw [Nat.zero_add]; exact hk)
  · exact p5_use p5_2 k (Nat.zero_le _) (by rw [Nat.zero_add]; exact hk)
  · exact p5_use p5_3 k (Nat.zero_le _) (by rw [Nat.zero_add]; exact hk)
  · exact p5_use p5_4 k (Nat.zero_le _) (by rw [Nat.zero_add]; exact hk)
  · exact p5_use p5_5 k (Nat.zero_le _) (by rw [Nat.zero_add]; exact hk)
  · exact p5_use p5_6 k (Nat.zero_le _) (by rw [Nat.zero_add]; exact hk)
  · exact p5_use p5_7 k (Nat.zero_le _) (by rw [Nat.zero_add]; exact hk)
  · exact p5_use p5_8 k (Nat.zero_le _) (by rw [Nat.zero_add]; exact hk)
theorem k5_all {n k : Nat} (h1 : 1 ≤ n) (h2 : n ≤ 8) (hk : k < catN n) : taC n k = tb n k := by
  have : n = 1 ∨ n = 2 ∨ n = 3 ∨ n = 4 ∨ n = 5 ∨ n = 6 ∨ n = 7 ∨ n = 8 := by omega
  rcases this with rfl | rfl | rfl | rfl | rfl | rfl | rfl | rfl
  · exact k5_use k5_1 k (Nat.zero_le _) (by rw [Nat.zero_add]; exact hk)
  · exact k5_use k5_2 k (Nat.zero_le _) (by rw [Nat.zero_add]; exact hk)
  · exact k5_use k5_3 k (Nat.zero_le _) (by rw [Nat.zero_add]; exact hk)
  · exact k5_use k5_4 k (Nat.zero_le _) (by rw [Nat.zero_add]; exact hk)
  · exact k5_use k5_5 k (Nat.zero_le _) (by rw [Nat.zero_add]; exact hk)
  · exact k5_use k5_6 k (Nat.zero_le _) (by rw [Nat.zero_add]; exact hk)
  · exact k5_use k5_7 k (Nat.zero_le _) (by rw [Nat.zero_add]; exact hk)
  · exact k5_use k5_8 k (Nat.zero_le _) (by rw [Nat.zero_add]; exact hk)
theorem s5_all {n k : Nat} (h1 : 1 ≤ n) (h2 : n ≤ 8) (hk : k < catN n) : sglF (cr n (tb n k)) n n = alM n (tb n k) n ∧ lgF (cr n (tb n k)) n n = mxM n (tb n k) n := by
  have : n = 1 ∨ n = 2 ∨ n = 3 ∨ n = 4 ∨ n = 5 ∨ n = 6 ∨ n = 7 ∨ n = 8 := by omega
  rcases this with rfl | rfl | rfl | rfl | rfl | rfl | rfl | rfl
  · exact s5_use s5_1 k (Nat.zero_le _) (by rw [Nat.zero_add]; exact hk)
  · exact s5_use s5_2 k (Nat.zero_le _) (by rw [Nat.zero_add]; exact hk)
  · exact s5_use s5_3 k (Nat.zero_le _) (by rw [Nat.zero_add]; exact hk)
  · exact s5_use s5_4 k (Nat.zero_le _) (by rw [Nat.zero_add]; exact hk)
  · exact s5_use s5_5 k (Nat.zero_le _) (by rw [Nat.zero_add]; exact hk)
  · exact s5_use s5_6 k (Nat.zero_le _) (by rw [Nat.zero_add]; exact hk)
  · exact s5_use s5_7 k (Nat.zero_le _) (by rw [Nat.zero_add]; exact hk)
  · exact s5_use s5_8 k (Nat.zero_le _) (by rw [Nat.zero_add]; exact hk)
section M8
variable {n a b c : Nat} {σ : aS} {X : aX}
theorem plc_eq (h1 : 1 ≤ n) (h2 : n ≤ 8) (g : GdC n c) : plcF (cr n c) n = numM n c := by
  obtain ⟨k, hk, rfl⟩ := tb_all h1 h2 g
  rw [p5_all h1 h2 hk, numM_tb h2 hk]
theorem E_turn (g : GdS σ) (s a : Int32) : turnR σ s a = turnM σ s a ∧ GdS (turnM σ s a).2 := by
  unfold turnR turnM
  by_cases c : (inB 6 s && inB 6 a) = true
  · rw [if_pos c, if_pos c]
    rw [Bool.and_eq_true] at c
    have ga := g.2.2.1 _ (inB_cl (by omega) c.2)
    have gt := tuM_good g.2.1 ga
    rw [tuC_eq g.1 g.2.1 ga, plc_eq g.1 g.2.1 gt]
    exact ⟨rfl, g.up gt⟩
  · rw [if_neg c, if_neg c]
    exact ⟨rfl, g⟩
theorem E_take (g : GdS σ) (s k : Int32) : takeR σ s k = takeM σ s k ∧ GdS (takeM σ s k).2 := by
  unfold takeR takeM
  by_cases c : (inB 6 s && inB (catN σ.1) k) = true
  · rw [if_pos c, if_pos c]
    rw [Bool.and_eq_true] at c
    have l := catN_le σ.1 g.2.1
    have hk := inB_cl (by omega) c.2
    rw [k5_all g.1 g.2.1 hk]
    exact ⟨putR_eq, g.up (GdC_tb g.1 g.2.1 hk)⟩
  · rw [if_neg c, if_neg c]
    exact ⟨rfl, g⟩
theorem sgl_eq (h1 : 1 ≤ n) (h2 : n ≤ 8) (g : GdC n c) : sglF (cr n c) n n = alM n c n ∧ lgF (cr n c) n n = mxM n c n := by
  obtain ⟨k, hk, rfl⟩ := tb_all h1 h2 g
  exact s5_all h1 h2 hk
end M8
/-! masks: the pairs of points in one block -/
def mkR (n c y : Nat) : Nat → Nat := fun x => Nat.rec (motive := fun _ => Nat) 0 (fun x ih => cond (Nat.beq (rwQ c x) (rwQ c y)) (Nat.lor ih (Nat.pow 2 (Nat.add (Nat.mul 8 y) x))) ih) x
def mkQ (n c : Nat) : Nat := Nat.rec (motive := fun _ => Nat) 0 (fun y ih => Nat.lor ih (mkR n c y y)) n
theorem mkR_bit {n c y i : Nat} : ∀ m, Nat.testBit (mkR n c y m) i = true ↔ ∃ x, x < m ∧ i = 8 * y + x ∧ rw8 c x = rw8 c y := by
  intro m
  induction m with
  | zero => exact ⟨fun h => absurd h (by show ¬ Nat.testBit 0 i = true; simp), fun ⟨x, h, _⟩ => absurd h (Nat.not_lt_zero _)⟩
  | succ m ih =>
    show Nat.testBit (cond (Nat.beq (rwQ c m) (rwQ c y)) (Nat.lor (mkR n c y m) (Nat.pow 2 (Nat.add (Nat.mul 8 y) m))) (mkR n c y m)) i = true ↔ _
    rw [rwQ_eq, rwQ_eq, nb_eq]
    by_cases e : rw8 c m = rw8 c y
    · rw [decide_eq_true e, cond_true]
      show Nat.testBit (mkR n c y m ||| 2 ^ (8 * y + m)) i = true ↔ _
      rw [Nat.testBit_or, Bool.or_eq_true, ih, Nat.testBit_two_pow, decide_eq_true_iff]
      constructor
      · rintro (⟨x, h1, h2, h3⟩ | h)
        · exact ⟨x, by omega, h2, h3⟩
        · exact ⟨m, by omega, h.symm, e⟩
      · rintro ⟨x, h1, h2, h3⟩
        rcases Nat.lt_or_ge x m with z | z
        · exact Or.inl ⟨x, z, h2, h3⟩
        · exact Or.inr (by rw [h2, show x = m by omega])
    · rw [decide_eq_false e, cond_false, ih]
      constructor
      · rintro ⟨x, h1, h2, h3⟩
        exact ⟨x, by omega, h2, h3⟩
      · rintro ⟨x, h1, h2, h3⟩
        rcases Nat.lt_or_ge x m with z | z
        · exact ⟨x, z, h2, h3⟩
        · rw [show x = m by omega] at h3; exact absurd h3 e
theorem mkQ_bit {n c i : Nat} : Nat.testBit (mkQ n c) i = true ↔ ∃ x y, x < y ∧ y < n ∧ i = 8 * y + x ∧ rw8 c x = rw8 c y := by
  have L : ∀ m, Nat.testBit (Nat.rec (motive := fun _ => Nat) 0 (fun y ih => Nat.lor ih (mkR n c y y)) m) i = true ↔ ∃ x y, x < y ∧ y < m ∧ i = 8 * y + x ∧ rw8 c x = rw8 c y := by
    intro m
    induction m with
    | zero => exact ⟨fun h => absurd h (by show ¬ Nat.testBit 0 i = true; simp), fun ⟨x, y, _, h, _⟩ => absurd h (Nat.not_lt_zero _)⟩
    | succ m ih =>
      show Nat.testBit ((Nat.rec (motive := fun _ => Nat) 0 (fun y ih => Nat.lor ih (mkR n c y y)) m) ||| mkR n c m m) i = true ↔ _
      rw [Nat.testBit_or, Bool.or_eq_true, ih, mkR_bit]
      constructor
      · rintro (⟨x, y, h1, h2, h3, h4⟩ | ⟨x, h1, h2, h3⟩)
        · exact ⟨x, y, h1, by omega, h3, h4⟩
        · exact ⟨x, m, h1, by omega, h2, h3⟩
      · rintro ⟨x, y, h1, h2, h3, h4⟩
        rcases Nat.lt_or_ge y m with z | z
        · exact Or.inl ⟨x, y, h1, z, h3, h4⟩
        · obtain rfl : y = m := by omega
          exact Or.inr ⟨x, h1, h3, h4⟩
  exact L n
def leQ (ma mb : Nat) : Bool := Nat.beq (Nat.land ma mb) ma
theorem leQ_iff {n a b : Nat} (h2 : n ≤ 8) : leQ (mkQ n a) (mkQ n b) = true ↔ Le n a b := by
  have E : leQ (mkQ n a) (mkQ n b) = true ↔ mkQ n a &&& mkQ n b = mkQ n a := ⟨Nat.eq_of_beq_eq_true, fun e => by show Nat.beq (mkQ n a &&& mkQ n b) (mkQ n a) = true; rw [e]; exact Nat.beq_refl _⟩
  rw [E]
  constructor
  · intro e
    have A : ∀ x y, x < y → y < n → rw8 a x = rw8 a y → rw8 b x = rw8 b y := by
      intro x y hx hy h
      have t : Nat.testBit (mkQ n a) (8 * y + x) = true := mkQ_bit.mpr ⟨x, y, hx, hy, rfl, h⟩
      rw [← e, Nat.testBit_and, Bool.and_eq_true] at t
      obtain ⟨x', y', q1, q2, q3, q4⟩ := mkQ_bit.mp t.2
      obtain rfl : y' = y := by omega
      obtain rfl : x' = x := by omega
      exact q4
    intro x y hx hy h
    rcases Nat.lt_trichotomy x y with z | z | z
    · exact A x y z hy h
    · rw [z]
    · exact (A y x z hx h.symm).symm
  · intro h
    apply Nat.eq_of_testBit_eq
    intro i
    rw [Nat.testBit_and]
    rcases t : Nat.testBit (mkQ n a) i
    · rfl
    · obtain ⟨x, y, q1, q2, q3, q4⟩ := mkQ_bit.mp t
      rw [mkQ_bit.mpr ⟨x, y, q1, q2, q3, h x y (by omega) q2 q4⟩]
      rfl
