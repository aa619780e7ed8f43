/-! THE TWO SIDES ARE ONE: what is still owed -/
section OWED
variable {σ : aS} {X : aX}
theorem G_point (g : GdS σ) (k : Int32) : GdS (pointR σ k).2 := sorry
theorem E_unite (g : GdS σ) (s x y : Int32) : uniteR σ s x y = uniteM σ s x y ∧ GdS (uniteM σ s x y).2 := sorry
theorem E_meet (g : GdS σ) (s a b : Int32) : meetR σ s a b = meetM σ s a b ∧ GdS (meetM σ s a b).2 := sorry
theorem E_join (g : GdS σ) (s a b : Int32) : joinR σ s a b = joinM σ s a b ∧ GdS (joinM σ s a b).2 := sorry
theorem E_comp (g : GdS σ) (s a : Int32) : compR σ s a = compM σ s a ∧ GdS (compM σ s a).2 := sorry
theorem E_turn (g : GdS σ) (s a : Int32) : turnR σ s a = turnM σ s a ∧ GdS (turnM σ s a).2 := sorry
theorem E_take (g : GdS σ) (s k : Int32) : takeR σ s k = takeM σ s k ∧ GdS (takeM σ s k).2 := sorry
theorem V_ok (g : GdS σ) : VdS σ := sorry
theorem J_ok (g : GdS σ) : ∀ a, a < 6 → ∀ x y, x < σ.1 → y < σ.1 → ∀ z, z < σ.1 → joinF (cr σ.1 (σ.2.1 a)) (pairF x y) σ.1 z ≤ z := sorry
theorem E_of (g : GdX X) (s w : Int32) : ofR X s w = ofM X s w := sorry
theorem E_row (g : GdX X) (s w : Int32) : rowR X s w = rowM X s w := sorry
theorem E_below (g : GdX X) (a b : Int32) : belowR X a b = belowM X a b := sorry
theorem E_count (g : GdX X) (w : Int32) : countR X w = countM X w := sorry
theorem E_evens (g : GdX X) : evensR X = evensM X := sorry
theorem E_covers (g : GdX X) (s i : Int32) : coversR X s i = coversM X s i := sorry
theorem E_mark (g : GdX X) (a b : Int32) : markR X a b = markM X a b := sorry
theorem E_chains (g : GdX X) (a b : Int32) : intR chnF X a b = intM (fun n a b => chM n a b none) X a b := sorry
theorem E_signed (g : GdX X) (a b : Int32) : intR sgnF X a b = intM sgM X a b := sorry
theorem E_between (g : GdX X) (a b : Int32) : intR btwF X a b = intM btM X a b := sorry
theorem E_marked (g : GdX X) (v : Int32) : markedR X v = markedM X v := sorry
theorem E_dig (g : GdX X) : digR X = digMD X 2413 := sorry
theorem G_00 : GdX X00 := sorry
end OWED
