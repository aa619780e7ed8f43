/-! THE MODEL, twenty-sixth part: asOf, as -/
theorem cumF_s {kind i : Nat} {m : Nat → Int64} (h1 : 1 ≤ i) (h2 : i ≤ 8) : cumF kind m 8 i = m i - remF kind i (cumF kind m 8) m := by
  obtain ⟨j, rfl⟩ : ∃ j, i = j + 1 := ⟨i - 1, by omega⟩
  rw [cumF_le (Nat.le_refl (j + 1)) h2]
  show upL (cumF kind m j) (j + 1) (m (j + 1) - remF kind (j + 1) (cumF kind m j) m) (j + 1) = _
  rw [upL, if_pos rfl]
  congr 1
  exact remF_congr (fun i _ hi => (cumF_le (by omega) (by omega)).symm) (fun _ _ => rfl)
theorem l_sub3 (a b c : Int64) : a - b - c = a - (b + c) := by
  rw [Int64.sub_eq_add_neg, Int64.sub_eq_add_neg, Int64.sub_eq_add_neg, Int64.neg_add, Int64.sub_eq_add_neg, Int64.add_assoc]
theorem l_addsub (a b : Int64) : a + b - b = a := by
  rw [Int64.sub_eq_add_neg, Int64.add_assoc, ← Int64.sub_eq_add_neg, Int64.sub_self, Int64.add_zero]
theorem asF_jj {j : Nat} {x : Nat → Int32} : ∀ i, 1 ≤ i → i ≤ 8 → asF j j x i = xsF x i := by
  intro i
  induction i using Nat.strongRecOn with
  | ind i ih =>
    intro h1 h2
    unfold asF at ih ⊢
    rw [cumF_s h1 h2, momF_s h1 h2, remF_congr (c := cumF j (momF j (xsF x) 8) 8) (c' := xsF x) (fun z z1 z2 => ih z z2 z1 (by omega)) (fun _ _ => rfl), l_addsub]
