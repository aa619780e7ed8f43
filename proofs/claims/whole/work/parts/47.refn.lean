/-! THE MODEL, twenty-fourth part: asOf -/
def SrB (h H : aH) (m c p : Nat → Int64) : Prop := H 207 = lA 9 m ∧ H 208 = lA 9 c ∧ H 209 = lA 81 p ∧ ∀ z, z ≠ 207 → z ≠ 208 → z ≠ 209 → H z = h z
section REFN
variable {N n : Nat} {h : aH} {P : aP} {X : aX}
theorem RfAt.ser {H : aH} {m c p : Nat → Int64} (K : RfAt h X) (S : SrB h H m c p) : RfAt H X := by
  obtain ⟨s1, s2, s3, s4⟩ := S
  have e : ∀ z, z < 207 ∨ 210 ≤ z → H z = h z := fun z hz => s4 z (by omega) (by omega) (by omega)
  obtain ⟨la, ma, at_, fa, od, d, k1, l⟩ := K.1
  obtain ⟨t1, t2, t3, t4, t5, t6, t7, t8⟩ := K.2.2.2.2.2.2.2.1
  obtain ⟨g, g1, g2⟩ := K.2.2.2.2.2.2.1
  have x : ∀ n a, (a < 207 ∨ 210 ≤ a) → xA n h a → xA n H a := fun n a ha ⟨f, hf⟩ => ⟨f, by rw [e a ha, hf]⟩
  exact K.same (fun z hz => e z (by omega)) ⟨la, ma, at_, fa, od, d, by rw [e _ (by omega), k1], l.same (e _ (by omega)) (e _ (by omega))⟩ ⟨g, by rw [e _ (by omega), g1], g2⟩ ⟨x _ _ (by omega) t1, x _ _ (by omega) t2, x _ _ (by omega) t3, ⟨m, s1⟩, ⟨c, s2⟩, ⟨p, s3⟩, x _ _ (by omega) t7, x _ _ (by omega) t8⟩
theorem SrB.frm {H : aH} {m c p : Nat → Int64} (S : SrB h H m c p) : FrM h H := ⟨fun z hz => S.2.2.2 z (by omega) (by omega) (by omega), fun x y z w ⟨ps, ty, la, ma, q⟩ => ⟨ps, ty, la, ma, by rw [S.2.2.2 196 (by decide) (by decide) (by decide), q]⟩⟩
end REFN
