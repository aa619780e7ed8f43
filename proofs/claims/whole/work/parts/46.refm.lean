/-! THE MODEL, twenty-third part: the last term of a moment's sum is its number -/
theorem pwF_0 {m : Nat → Int64} (h : m 0 = 1) : ∀ s, pwF m s 0 = 1 := by
  intro s
  induction s with
  | zero => rfl
  | succ s ih =>
    show (0 : Int64) + m 0 * pwF m s (0 - 0) = 1
    rw [show (0 - 0 : Nat) = 0 from rfl, ih, h]
    decide
theorem chF_nn : ∀ n, n < 8 → (nI (chF n n)).toInt64 = 1 := by decide +kernel
theorem tmF_nn {kind i : Nat} {m : Nat → Int64} (h : m 0 = 1) (h1 : 1 ≤ i) (h2 : i ≤ 8) : tmF kind i i m = 1 := by
  unfold tmF
  split
  · rw [Nat.sub_self, pwF_0 h]
  · rw [Nat.sub_self, h, chF_nn _ (by omega)]
    decide
/-- the model's sum for a moment -/
theorem mom_sum {kind i : Nat} {x m : Nat → Int64} (hk : kind ≠ 0) (h : m 0 = 1) (h1 : 1 ≤ i) (h2 : i ≤ 8) : sumL (fun t => x (t + 1) * tmF kind i (t + 1) m) i = x i + remF kind i x m := by
  obtain ⟨j, rfl⟩ : ∃ j, i = j + 1 := ⟨i - 1, by omega⟩
  show sumL (fun t => x (t + 1) * tmF kind (j + 1) (t + 1) m) j + x (j + 1) * tmF kind (j + 1) (j + 1) m = _
  rw [tmF_nn h h1 h2, remF, if_neg hk, Int64.mul_one, Int64.add_comm]
  rfl
