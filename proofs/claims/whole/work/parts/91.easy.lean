/-! THE TWO SIDES: what follows at once -/
section EASY
variable {σ : aS} {X : aX}
theorem GdX.of (g : GdX X) (s w : Int32) : GdX (ofM X s w).2 := by unfold ofM; split <;> exact g
theorem GdX.row (g : GdX X) (s w : Int32) : GdX (rowM X s w).2 := by unfold rowM; split <;> exact g
theorem GdX.below (g : GdX X) (s w : Int32) : GdX (belowM X s w).2 := by unfold belowM; split <;> exact g
theorem GdX.count (g : GdX X) (w : Int32) : GdX (countM X w).2 := by unfold countM; split <;> exact g
theorem GdX.evens (g : GdX X) : GdX (evensM X).2 := by unfold evensM; split <;> exact g
theorem GdX.covers (g : GdX X) (s w : Int32) : GdX (coversM X s w).2 := by unfold coversM; split <;> exact g
theorem GdX.mark (g : GdX X) (s w : Int32) : GdX (markM X s w).2 := by
  unfold markM
  split
  · split <;> exact g
  · exact g
theorem GdX.int (g : GdX X) (f : Nat → Nat → Nat → Int32) (s w : Int32) : GdX (intM f X s w).2 := by
  unfold intM
  split
  · split <;> exact g
  · exact g
theorem GdX.marked (g : GdX X) (w : Int32) : GdX (markedM X w).2 := by unfold markedM; split <;> exact g
theorem E_car (g : GdS σ) (L : Nat) (f : Nat → Int32) : carR σ L f = carM σ L f ∧ GdS (carM σ L f).2 := by
  unfold carR carM
  repeat' split
  · exact ⟨rfl, G_point g _⟩
  · exact E_unite g _ _ _
  · exact E_meet g _ _ _
  · exact E_join g _ _ _
  · exact E_comp g _ _
  · exact E_turn g _ _
  · exact E_take g _ _
  · exact ⟨rfl, G_num g _ _⟩
theorem E_rn (lt : Nat → Int32) (vl : Nat → Nat → Int32) : ∀ k i σ, GdS σ → rnO lt vl k i σ = rnM lt vl k i σ ∧ GdS (rnM lt vl k i σ).2 := by
  intro k
  induction k with
  | zero => intro i σ g; exact ⟨rfl, g⟩
  | succ k ih =>
    intro i σ g
    obtain ⟨e, g'⟩ := E_car g (cl (lt i)) (vl i)
    rw [rnO, rnM, e]
    split
    · exact ⟨rfl, g⟩
    · exact ih (i + 1) _ g'
theorem E_do (g : GdX X) (t : Option Nat × Nat × (Nat → Int32) × (Nat → Nat → Int32)) : doR X t = doM X t := by
  unfold doR doM
  rewrite [(E_rn t.2.2.1 t.2.2.2 t.2.1 0 X.1 g.1).1]
  rfl
theorem G_do (g : GdX X) (t : Option Nat × Nat × (Nat → Int32) × (Nat → Nat → Int32)) : GdX (doM X t).2 := by
  have h := (E_rn t.2.2.1 t.2.2.2 t.2.1 0 X.1 g.1).2
  unfold doM
  split
  · exact g
  · split
    · exact g
    · refine ⟨h, fun j hj => ?_⟩
      have hj : j < hdU X.2.1.1 := hj
      show GdS (if j = 0 then X.1 else X.2.1.2 (j - 1))
      split
      · exact g.1
      · have : hdU X.2.1.1 ≤ X.2.1.1 + 1 := by unfold hdU; split <;> omega
        exact g.2 _ (by omega)
end EASY
