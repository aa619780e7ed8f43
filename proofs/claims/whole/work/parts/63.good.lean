/-! GOOD STATES: every slot holds a noncrossing partition, every number is small -/
def GdC (n c : Nat) : Prop := c < 16777216 ∧ c % 8 ^ (8 - n) = 0 ∧ wlM n c = true
def GdN (x : Nat → Int32) : Prop := ∀ i, i < 8 → -9 ≤ (x i).toInt ∧ (x i).toInt ≤ 9
def GdS (σ : aS) : Prop := 1 ≤ σ.1 ∧ σ.1 ≤ 8 ∧ (∀ s, s < 6 → GdC σ.1 (σ.2.1 s)) ∧ GdN σ.2.2
def GdX (X : aX) : Prop := GdS X.1 ∧ ∀ j, j < X.2.1.1 → GdS (X.2.1.2 j)
theorem GdX.bad {X : aX} (g : GdX X) : GdX (badX X).2 := g
theorem GdX.no {X : aX} (g : GdX X) : GdX (noX X).2 := g
theorem GdX.ful {X : aX} (g : GdX X) : GdX (fulX X).2 := g
theorem GdX.stlG {X : aX} {r : Int32 × aS} (g : GdX X) (h : GdS r.2) : GdX (stl X r).2 := by
  unfold stl
  split
  · exact ⟨h, g.2⟩
  · refine ⟨h, fun j hj => ?_⟩
    have hj : j < hdU X.2.1.1 := hj
    show GdS (if j = 0 then X.1 else X.2.1.2 (j - 1))
    split
    · exact g.1
    · have : hdU X.2.1.1 ≤ X.2.1.1 + 1 := by unfold hdU; split <;> omega
      exact g.2 _ (by omega)
theorem GdX.back {X : aX} (g : GdX X) : GdX (backR X).2 := by
  unfold backR
  split
  · exact g
  · refine ⟨g.2 0 (by omega), fun j hj => ?_⟩
    have hj : j < X.2.1.1 - 1 := hj
    exact g.2 (j + 1) (by omega)
theorem GdX.type {X : aX} (g : GdX X) (c : Int32) : GdX (typeR X c).2 := by
  unfold typeR
  split
  · split
    · exact g
    · exact g
  · exact g
theorem GdX.told {X : aX} (g : GdX X) (w : Int32) : GdX (toldR X w).2 := by
  unfold toldR
  split <;> exact g
theorem GdX.as {X : aX} (g : GdX X) (j k n : Int32) : GdX (asR X j k n).2 := by
  unfold asR
  split <;> exact g
theorem G_num {σ : aS} (g : GdS σ) (n v : Int32) : GdS (numR σ n v).2 := by
  unfold numR
  split
  · rename_i c
    rw [Bool.and_eq_true] at c
    have c2 := of_decide_eq_true (show decide (-9 ≤ v.toInt ∧ v.toInt ≤ 9) = true from c.2)
    refine ⟨g.1, g.2.1, g.2.2.1, fun i hi => ?_⟩
    show -9 ≤ (if i = cl n - 1 then v else σ.2.2 i).toInt ∧ (if i = cl n - 1 then v else σ.2.2 i).toInt ≤ 9
    split
    · exact c2
    · exact g.2.2.2 i hi
  · exact g
theorem A_num {σ : aS} (g : GdS σ) (n v : Int32) : (numR σ n v).1 = -2 ∨ 0 ≤ (numR σ n v).1.toInt := by
  unfold numR
  split
  · rename_i c
    rw [Bool.and_eq_true] at c
    have c1 := of_decide_eq_true (show decide (1 ≤ n.toInt ∧ n.toInt ≤ 8) = true from c.1)
    have e : cl n = n.toInt.toNat := by
      obtain ⟨l, hl, rfl⟩ : ∃ l, l ≤ 8 ∧ n = nI l := by
        refine ⟨n.toInt.toNat, by omega, ?_⟩
        apply Int32.toInt_inj.mp
        rw [nI_toInt (by omega)]
        omega
      rw [cl_nI (by omega), nI_toInt (by omega)]
      rfl
    have h := g.2.2.2 (cl n - 1) (by omega)
    refine Or.inr ?_
    show 0 ≤ (σ.2.2 (cl n - 1) + nI 100).toInt
    rw [Int32.toInt_add, nI_toInt (by omega), Int.bmod_eq_of_le (by omega) (by omega)]
    omega
  · exact Or.inl rfl
