/-! THE MODEL, second part: packed, crossings, joined, met, turned, complement -/
def lsD (g : Nat → Nat) (v : Nat) : Nat → Nat → Nat
  | 0, acc => acc
  | k + 1, acc => lsD g v k (if g k = v then k else acc)
theorem lsD_le (g : Nat → Nat) (v : Nat) : ∀ k acc b, k ≤ b + 1 → acc ≤ b → lsD g v k acc ≤ b := by
  intro k
  induction k with
  | zero => intro acc b _ h; exact h
  | succ k ih => intro acc b hk h; unfold lsD; split; exact ih _ _ (by omega) (by omega); exact ih _ _ (by omega) h
def pkR (g : Nat → Nat) (x : Nat) : Nat := lsD g (g x) (x + 1) x
def pkF (n : Nat) (g : Nat → Nat) : Nat := enc (pkR g) n
theorem pkR_le (g : Nat → Nat) (x : Nat) : pkR g x ≤ x := lsD_le g _ _ _ _ (Nat.le_refl _) (Nat.le_refl _)
theorem enc_q {r : Nat → Nat} : ∀ m, m ≤ 8 → ∃ q, enc r m = 2 ^ (24 - 3 * m) * q := by
  intro m
  induction m with
  | zero => intro _; exact ⟨0, rfl⟩
  | succ m ih =>
    intro hm
    obtain ⟨q, hq⟩ := ih (by omega)
    refine ⟨8 * q + r m, ?_⟩
    show enc r m + r m * 8 ^ (7 - m) = _
    rw [hq, ← pow_83 m (by omega), show 24 - 3 * m = (21 - 3 * m) + 3 by omega, show 24 - 3 * (m + 1) = 21 - 3 * m by omega, Nat.pow_add, Nat.mul_add, Nat.mul_assoc, Nat.mul_comm (r m), show (2 : Nat) ^ 3 = 8 from rfl]
theorem enc_or {r : Nat → Nat} {m k : Nat} (hm : m < 8) (hk : k < 8) (h : k = r m) : nI (enc r m) ||| nI (k * 2 ^ (21 - 3 * m)) = nI (enc r (m + 1)) := by
  obtain ⟨q, hq⟩ := @enc_q r m (by omega)
  have : k * 2 ^ (21 - 3 * m) < 2 ^ (24 - 3 * m) := by
    rw [show 24 - 3 * m = 3 + (21 - 3 * m) by omega, Nat.pow_add]
    exact Nat.mul_lt_mul_of_pos_right hk (Nat.pow_pos (by decide))
  rw [hq, or_sum q this, ← hq, h, pow_83 m hm]
  rfl
theorem enc_lt {r : Nat → Nat} : ∀ m, m ≤ 8 → (∀ i, i < m → r i < 8) → enc r m + 8 ^ (8 - m) ≤ 16777216 := by
  intro m
  induction m with
  | zero => intro _ _; show 0 + 8 ^ (8 - 0) ≤ _; decide +kernel
  | succ m ih =>
    intro hm h
    have := ih (by omega) (fun i hi => h i (by omega))
    have h2 := h m (by omega)
    show enc r m + r m * 8 ^ (7 - m) + 8 ^ (8 - (m + 1)) ≤ _
    rw [show 8 - m = (7 - m) + 1 by omega, Nat.pow_succ] at this
    rw [show 8 - (m + 1) = 7 - m by omega]
    have h3 : r m * 8 ^ (7 - m) ≤ 7 * 8 ^ (7 - m) := Nat.mul_le_mul_right _ (by omega)
    omega
theorem pkF_lt {n : Nat} (hn : n ≤ 8) (g : Nat → Nat) : pkF n g < 16777216 := by
  have := @enc_lt (pkR g) n hn (fun i hi => by have := pkR_le g i; omega)
  have h2 : 0 < 8 ^ (8 - n) := Nat.pow_pos (by decide)
  unfold pkF
  omega
section REF2
variable {N n : Nat} {h : aH} {P : aP} {g : Nat → Nat}
theorem c_packed (G : GrpAt h n g) (hP : P (some (.int (nI (pkF n g)))) N h) : AM X8_packed [.ref 196] N h P := by
  obtain ⟨⟨ps, ty, la, ma, at_, fa, od, d, g1⟩, ⟨f, g2, g3⟩, g4, g5, g6, g7⟩ := G
  refine AM.of0 rfl (Nat.le_of_ble_eq_true rfl) rfl [some (.ref 196), none, none, none, none] rfl ?_
  refine AW.iconst 1 dX8_packed_0 rfl (nI 0) rfl ?_
  refine AW.istore_n 2 dX8_packed_1 rfl (Nat.le_of_ble_eq_true rfl) rfl ?_
  refine AW.iconst 3 dX8_packed_2 rfl (nI 0) rfl ?_
  refine AW.istore_n 4 dX8_packed_3 rfl (Nat.le_of_ble_eq_true rfl) rfl ?_
  have L : ∀ k x, x + k = n → ∀ v3 v4, AW X8_packed 4 [some (.ref 196), some (.int (nI (enc (pkR g) x))), some (.int (nI x)), v3, v4] [] N (0, 0) h P := by
    intro k
    induction k with
    | zero =>
      intro x hx v3 v4
      refine AW.iload_n 5 dX8_packed_4 rfl (by rfl) ?_
      refine AW.aload_n 6 dX8_packed_5 rfl (by rfl) ?_
      refine AW.getfield 9 dX8_packed_6 rfl fl_X8_7 (by assumption) (by rfl) ?_
      refine AW.iconst 10 dX8_packed_9 rfl (nI 0) rfl ?_
      refine AW.iaload 11 _ dX8_packed_10 rfl (by assumption) (by first | exact Or.inl rfl | exact Or.inr rfl) (ix_nI (by omega)) (by omega) ?_
      rw [g3]
      refine AW.nge 70 14 dX8_packed_11 (by decide) rfl (by omega) (by omega) (fun c => ?_) (fun c => ?_)
      · obtain rfl : x = n := by omega
        refine AW.iload_n 71 dX8_packed_70 rfl (by rfl) ?_
        refine AW.iret dX8_packed_71 rfl ?_
        exact hP
      · omega
    | succ k ih =>
      intro x hx v3 v4
      refine AW.iload_n 5 dX8_packed_4 rfl (by rfl) ?_
      refine AW.aload_n 6 dX8_packed_5 rfl (by rfl) ?_
      refine AW.getfield 9 dX8_packed_6 rfl fl_X8_7 (by assumption) (by rfl) ?_
      refine AW.iconst 10 dX8_packed_9 rfl (nI 0) rfl ?_
      refine AW.iaload 11 _ dX8_packed_10 rfl (by assumption) (by first | exact Or.inl rfl | exact Or.inr rfl) (ix_nI (by omega)) (by omega) ?_
      rw [g3]
      refine AW.nge 70 14 dX8_packed_11 (by decide) rfl (by omega) (by omega) (fun c => ?_) (fun c => ?_)
      · omega
      · refine AW.iload_n 15 dX8_packed_14 rfl (by rfl) ?_
        refine AW.istore_n 16 dX8_packed_15 rfl (Nat.le_of_ble_eq_true rfl) rfl ?_
        refine AW.iload_n 17 dX8_packed_16 rfl (by rfl) ?_
        refine AW.istore 19 dX8_packed_17 rfl (Nat.le_of_ble_eq_true rfl) rfl ?_
        have M : ∀ y acc, y ≤ x + 1 → lsD g (g x) y acc = pkR g x → AW X8_packed 19 [some (.ref 196), some (.int (nI (enc (pkR g) x))), some (.int (nI x)), some (.int (nI acc)), some (.int (nI y - nI 1))] [] N (0, 0) h P := by
          intro y
          induction y with
          | zero =>
            intro acc _ ha
            refine AW.iload 21 dX8_packed_19 rfl (by rfl) ?_
            refine AW.if_lt 53 24 dX8_packed_21 (by decide) rfl (fun c2 => ?_) (fun c2 => ?_)
            · refine AW.iload_n 54 dX8_packed_53 rfl (by rfl) ?_
              refine AW.iload_n 55 dX8_packed_54 rfl (by rfl) ?_
              refine AW.bipush 57 dX8_packed_55 rfl (nI 21) rfl ?_
              refine AW.iconst 58 dX8_packed_57 rfl (nI 3) rfl ?_
              refine AW.iload_n 59 dX8_packed_58 rfl (by rfl) ?_
              first | refine AW.imulN 60 dX8_packed_59 rfl ?_ | refine AW.imul 60 dX8_packed_59 rfl ?_
              first | refine AW.isubN 61 dX8_packed_60 rfl (by omega) ?_ | refine AW.isub 61 dX8_packed_60 rfl ?_
              refine AW.ishlN 62 dX8_packed_61 rfl (by omega) ?_ ?_
              · have := pkR_le g x
                rw [← ha] at this
                have h1 : (2 : Nat) ^ (21 - 3 * x) ≤ 2 ^ 21 := Nat.pow_le_pow_right (by decide) (by omega)
                have h2 := Nat.mul_le_mul this h1
                have h3 : x * 2 ^ 21 ≤ 7 * 2 ^ 21 := Nat.mul_le_mul_right _ (by omega)
                show acc * _ < _
                have : lsD g (g x) 0 acc = acc := rfl
                rw [this] at h2
                omega
              · refine AW.ior 63 dX8_packed_62 rfl ?_
                rw [enc_or (k := acc) (by omega) (by have := pkR_le g x; rw [← ha] at this; have e : lsD g (g x) 0 acc = acc := rfl; omega) ha]
                refine AW.istore_n 64 dX8_packed_63 rfl (Nat.le_of_ble_eq_true rfl) rfl ?_
                refine AW.iinc1 67 dX8_packed_64 rfl (by rfl) rfl ?_
                refine AW.goto 4 dX8_packed_67 (by decide) ?_
                exact ih (x + 1) (by omega) _ _
            · exact absurd c2 (by decide)
          | succ y ihy =>
            intro acc hy ha
            rw [show nI (y + 1) - nI 1 = nI y from nI_pred y]
            have gy := g7 y (by omega)
            have gx := g7 x (by omega)
            refine AW.iload 21 dX8_packed_19 rfl (by rfl) ?_
            refine AW.if_lt 53 24 dX8_packed_21 (by decide) rfl (fun c2 => ?_) (fun c2 => ?_)
            · exact absurd c2 (by rw [Int32.lt_iff_toInt_lt, nI_toInt (by omega)]; exact Int.not_lt.mpr (Int.natCast_nonneg y))
            · refine AW.aload_n 25 dX8_packed_24 rfl (by rfl) ?_
              refine AW.getfield 28 dX8_packed_25 rfl fl_X8_25 (by assumption) (by rfl) ?_
              refine AW.iload 30 dX8_packed_28 rfl (by rfl) ?_
              refine AW.iaload 31 _ dX8_packed_30 rfl (by assumption) (by first | exact Or.inl rfl | exact Or.inr rfl) (ix_nI (by omega)) (by omega) ?_
              refine AW.aload_n 32 dX8_packed_31 rfl (by rfl) ?_
              refine AW.getfield 35 dX8_packed_32 rfl fl_X8_25 (by assumption) (by rfl) ?_
              refine AW.iload_n 36 dX8_packed_35 rfl (by rfl) ?_
              refine AW.iaload 37 _ dX8_packed_36 rfl (by assumption) (by first | exact Or.inl rfl | exact Or.inr rfl) (ix_nI (by omega)) (by omega) ?_
              have J : ∀ v, v = (if g y = g x then y else acc) → AW X8_packed 46 [some (.ref 196), some (.int (nI (enc (pkR g) x))), some (.int (nI x)), some (.int (nI acc)), some (.int (nI y))] [.int (nI v)] N (0, 0) h P := by
                intro v hv
                refine AW.istore_n 47 dX8_packed_46 rfl (Nat.le_of_ble_eq_true rfl) rfl ?_
                refine AW.iincm 50 dX8_packed_47 rfl (by rfl) rfl ?_
                refine AW.goto 19 dX8_packed_50 (by decide) ?_
                refine ihy v (by omega) ?_
                rw [hv]
                exact ha
              refine AW.nne 45 40 dX8_packed_37 (by decide) rfl (by omega) (by omega) (fun c3 => ?_) (fun c3 => ?_)
              · refine AW.iload_n 46 dX8_packed_45 rfl (by rfl) ?_
                exact J _ (by rw [if_neg c3])
              · refine AW.iload 42 dX8_packed_40 rfl (by rfl) ?_
                refine AW.goto 46 dX8_packed_42 (by decide) ?_
                exact J _ (by rw [if_pos c3])
        have := M (x + 1) x (Nat.le_refl _) rfl
        rw [show nI (x + 1) - nI 1 = nI x from nI_pred x] at this
        exact this
  exact L n 0 (by omega) none none
/-- is there a crossing from a b c d on; then the groups of a and b are one -/
def x4F (g : Nat → Nat) (b : Nat) : Nat → Nat → Bool
  | 0, _ => false
  | k + 1, d => if g b = g d then true else x4F g b k (d + 1)
def x3F (g : Nat → Nat) (a b : Nat) : Nat → Nat → Bool
  | 0, _ => false
  | k + 1, c => if g a = g b then false else if g a = g c ∧ x4F g b k (c + 1) = true then true else x3F g a b k (c + 1)
def x2F (g : Nat → Nat) (a : Nat) : Nat → Nat → Option Nat
  | 0, _ => none
  | k + 1, b => if x3F g a b k (b + 1) = true then some b else x2F g a k (b + 1)
def x1F (g : Nat → Nat) : Nat → Nat → Option (Nat × Nat)
  | 0, _ => none
  | k + 1, a => match x2F g a k (a + 1) with | some b => some (a, b) | none => x1F g k (a + 1)
def crsF (n : Nat) (g : Nat → Nat) : Option (Nat × Nat) := x1F g n 0
theorem c_uniteX (G : GrpAt h n g) (h0 : crsF n g = none → P (some (.int (nI 0))) N h) (h1 : ∀ a b, a < n → b < n → crsF n g = some (a, b) → P (some (.int (nI 1))) N (hs h 202 (iA 8 (mrgF g (g a) (g b))))) : AM X8_uniteCrossing [.ref 196] N h P := by
  obtain ⟨⟨ps, ty, la, ma, at_, fa, od, d, g1⟩, ⟨f, g2, g3⟩, g4, g5, g6, g7⟩ := id G
  refine AM.of0 rfl (Nat.le_of_ble_eq_true rfl) rfl [some (.ref 196), none, none, none, none, none] rfl ?_
  refine AW.aload_n 1 dX8_uniteCrossing_0 rfl (by rfl) ?_
  refine AW.getfield 4 dX8_uniteCrossing_1 rfl fl_X8_7 (by assumption) (by rfl) ?_
  refine AW.iconst 5 dX8_uniteCrossing_4 rfl (nI 0) rfl ?_
  refine AW.iaload 6 _ dX8_uniteCrossing_5 rfl (by assumption) (by first | exact Or.inl rfl | exact Or.inr rfl) (ix_nI (by omega)) (by omega) ?_
  rw [g3]
  refine AW.istore_n 7 dX8_uniteCrossing_6 rfl (Nat.le_of_ble_eq_true rfl) rfl ?_
  refine AW.iconst 8 dX8_uniteCrossing_7 rfl (nI 0) rfl ?_
  refine AW.istore_n 9 dX8_uniteCrossing_8 rfl (Nat.le_of_ble_eq_true rfl) rfl ?_
  have A : ∀ k a, a + k = n → (x1F g k a = crsF n g) → ∀ v3 v4 v5, AW X8_uniteCrossing 9 [some (.ref 196), some (.int (nI n)), some (.int (nI a)), v3, v4, v5] [] N (0, 0) h P := by
    intro k
    induction k with
    | zero =>
      intro a ha hx v3 v4 v5
      refine AW.iload_n 10 dX8_uniteCrossing_9 rfl (by rfl) ?_
      refine AW.iload_n 11 dX8_uniteCrossing_10 rfl (by rfl) ?_
      refine AW.nge 135 14 dX8_uniteCrossing_11 (by decide) rfl (by omega) (by omega) (fun c => ?_) (fun c => ?_)
      · refine AW.iconst 136 dX8_uniteCrossing_135 rfl (nI 0) rfl ?_
        refine AW.zret dX8_uniteCrossing_136 rfl (by first | exact z_0 | exact z_1 | exact z_b01 _ | assumption) ?_
        exact h0 hx.symm
      · omega
    | succ k ihA =>
      intro a ha hx v3 v4 v5
      rw [x1F] at hx
      have ga := g7 a (by omega)
      refine AW.iload_n 10 dX8_uniteCrossing_9 rfl (by rfl) ?_
      refine AW.iload_n 11 dX8_uniteCrossing_10 rfl (by rfl) ?_
      refine AW.nge 135 14 dX8_uniteCrossing_11 (by decide) rfl (by omega) (by omega) (fun c => ?_) (fun c => ?_)
      · omega
      · refine AW.iload_n 15 dX8_uniteCrossing_14 rfl (by rfl) ?_
        refine AW.iconst 16 dX8_uniteCrossing_15 rfl (nI 1) rfl ?_
        first | refine AW.iaddN 17 dX8_uniteCrossing_16 rfl ?_ | refine AW.iadd 17 dX8_uniteCrossing_16 rfl ?_
        refine AW.istore_n 18 dX8_uniteCrossing_17 rfl (Nat.le_of_ble_eq_true rfl) rfl ?_
        have B : ∀ k2 b, b + k2 = n → (x2F g a k2 b = x2F g a k (a + 1)) → ∀ v4 v5, AW X8_uniteCrossing 18 [some (.ref 196), some (.int (nI n)), some (.int (nI a)), some (.int (nI b)), v4, v5] [] N (0, 0) h P := by
          intro k2
          induction k2 with
          | zero =>
            intro b hb e v4 v5
            rw [← e] at hx
            refine AW.iload_n 19 dX8_uniteCrossing_18 rfl (by rfl) ?_
            refine AW.iload_n 20 dX8_uniteCrossing_19 rfl (by rfl) ?_
            refine AW.nge 129 23 dX8_uniteCrossing_20 (by decide) rfl (by omega) (by omega) (fun c2 => ?_) (fun c2 => ?_)
            · refine AW.iinc1 132 dX8_uniteCrossing_129 rfl (by rfl) rfl ?_
              refine AW.goto 9 dX8_uniteCrossing_132 (by decide) ?_
              exact ihA (a + 1) (by omega) hx _ _ _
            · omega
          | succ k2 ihB =>
            intro b hb e v4 v5
            rw [x2F] at e
            have gb := g7 b (by omega)
            refine AW.iload_n 19 dX8_uniteCrossing_18 rfl (by rfl) ?_
            refine AW.iload_n 20 dX8_uniteCrossing_19 rfl (by rfl) ?_
            refine AW.nge 129 23 dX8_uniteCrossing_20 (by decide) rfl (by omega) (by omega) (fun c2 => ?_) (fun c2 => ?_)
            · omega
            · refine AW.iload_n 24 dX8_uniteCrossing_23 rfl (by rfl) ?_
              refine AW.iconst 25 dX8_uniteCrossing_24 rfl (nI 1) rfl ?_
              first | refine AW.iaddN 26 dX8_uniteCrossing_25 rfl ?_ | refine AW.iadd 26 dX8_uniteCrossing_25 rfl ?_
              refine AW.istore 28 dX8_uniteCrossing_26 rfl (Nat.le_of_ble_eq_true rfl) rfl ?_
              have Z : x3F g a b k2 (b + 1) = false → ∀ v4 v5, AW X8_uniteCrossing 123 [some (.ref 196), some (.int (nI n)), some (.int (nI a)), some (.int (nI b)), v4, v5] [] N (0, 0) h P := by
                intro e3 v4 v5
                rw [e3, if_neg (by decide)] at e
                refine AW.iinc1 126 dX8_uniteCrossing_123 rfl (by rfl) rfl ?_
                refine AW.goto 18 dX8_uniteCrossing_126 (by decide) ?_
                exact ihB (b + 1) (by omega) e _ _
              have C : ∀ k3 c, c + k3 = n → (x3F g a b k3 c = x3F g a b k2 (b + 1)) → ∀ v5, AW X8_uniteCrossing 28 [some (.ref 196), some (.int (nI n)), some (.int (nI a)), some (.int (nI b)), some (.int (nI c)), v5] [] N (0, 0) h P := by
                intro k3
                induction k3 with
                | zero =>
                  intro c hc e3 v5
                  refine AW.iload 30 dX8_uniteCrossing_28 rfl (by rfl) ?_
                  refine AW.iload_n 31 dX8_uniteCrossing_30 rfl (by rfl) ?_
                  refine AW.nge 123 34 dX8_uniteCrossing_31 (by decide) rfl (by omega) (by omega) (fun c3 => ?_) (fun c3 => ?_)
                  · exact Z e3.symm _ _
                  · omega
                | succ k3 ihC =>
                  intro c hc e3 v5
                  rw [x3F] at e3
                  have gc := g7 c (by omega)
                  refine AW.iload 30 dX8_uniteCrossing_28 rfl (by rfl) ?_
                  refine AW.iload_n 31 dX8_uniteCrossing_30 rfl (by rfl) ?_
                  refine AW.nge 123 34 dX8_uniteCrossing_31 (by decide) rfl (by omega) (by omega) (fun c3 => ?_) (fun c3 => ?_)
                  · omega
                  · refine AW.aload_n 35 dX8_uniteCrossing_34 rfl (by rfl) ?_
                    refine AW.getfield 38 dX8_uniteCrossing_35 rfl fl_X8_25 (by assumption) (by rfl) ?_
                    refine AW.iload_n 39 dX8_uniteCrossing_38 rfl (by rfl) ?_
                    refine AW.iaload 40 _ dX8_uniteCrossing_39 rfl (by assumption) (by first | exact Or.inl rfl | exact Or.inr rfl) (ix_nI (by omega)) (by omega) ?_
                    refine AW.aload_n 41 dX8_uniteCrossing_40 rfl (by rfl) ?_
                    refine AW.getfield 44 dX8_uniteCrossing_41 rfl fl_X8_25 (by assumption) (by rfl) ?_
                    refine AW.iload_n 45 dX8_uniteCrossing_44 rfl (by rfl) ?_
                    refine AW.iaload 46 _ dX8_uniteCrossing_45 rfl (by assumption) (by first | exact Or.inl rfl | exact Or.inr rfl) (ix_nI (by omega)) (by omega) ?_
                    refine AW.neq 123 49 dX8_uniteCrossing_46 (by decide) rfl (by omega) (by omega) (fun c4 => ?_) (fun c4 => ?_)
                    · rw [if_pos c4] at e3
                      exact Z e3.symm _ _
                    · rw [if_neg c4] at e3
                      refine AW.iload 51 dX8_uniteCrossing_49 rfl (by rfl) ?_
                      refine AW.iconst 52 dX8_uniteCrossing_51 rfl (nI 1) rfl ?_
                      first | refine AW.iaddN 53 dX8_uniteCrossing_52 rfl ?_ | refine AW.iadd 53 dX8_uniteCrossing_52 rfl ?_
                      refine AW.istore 55 dX8_uniteCrossing_53 rfl (Nat.le_of_ble_eq_true rfl) rfl ?_
                      have D : ∀ k4 d, d + k4 = n → (x4F g b k4 d = x4F g b k3 (c + 1)) → AW X8_uniteCrossing 55 [some (.ref 196), some (.int (nI n)), some (.int (nI a)), some (.int (nI b)), some (.int (nI c)), some (.int (nI d))] [] N (0, 0) h P := by
                        intro k4
                        induction k4 with
                        | zero =>
                          intro d hd e4
                          rw [← e4, if_neg (fun z => absurd z.2 (by rw [x4F]; decide))] at e3
                          refine AW.iload 57 dX8_uniteCrossing_55 rfl (by rfl) ?_
                          refine AW.iload_n 58 dX8_uniteCrossing_57 rfl (by rfl) ?_
                          refine AW.nge 117 61 dX8_uniteCrossing_58 (by decide) rfl (by omega) (by omega) (fun c5 => ?_) (fun c5 => ?_)
                          · refine AW.iinc1 120 dX8_uniteCrossing_117 rfl (by rfl) rfl ?_
                            refine AW.goto 28 dX8_uniteCrossing_120 (by decide) ?_
                            exact ihC (c + 1) (by omega) e3 _
                          · omega
                        | succ k4 ihD =>
                          intro d hd e4
                          rw [x4F] at e4
                          have gd := g7 d (by omega)
                          refine AW.iload 57 dX8_uniteCrossing_55 rfl (by rfl) ?_
                          refine AW.iload_n 58 dX8_uniteCrossing_57 rfl (by rfl) ?_
                          refine AW.nge 117 61 dX8_uniteCrossing_58 (by decide) rfl (by omega) (by omega) (fun c5 => ?_) (fun c5 => ?_)
                          · omega
                          · refine AW.aload_n 62 dX8_uniteCrossing_61 rfl (by rfl) ?_
                            refine AW.getfield 65 dX8_uniteCrossing_62 rfl fl_X8_25 (by assumption) (by rfl) ?_
                            refine AW.iload_n 66 dX8_uniteCrossing_65 rfl (by rfl) ?_
                            refine AW.iaload 67 _ dX8_uniteCrossing_66 rfl (by assumption) (by first | exact Or.inl rfl | exact Or.inr rfl) (ix_nI (by omega)) (by omega) ?_
                            refine AW.aload_n 68 dX8_uniteCrossing_67 rfl (by rfl) ?_
                            refine AW.getfield 71 dX8_uniteCrossing_68 rfl fl_X8_25 (by assumption) (by rfl) ?_
                            refine AW.iload 73 dX8_uniteCrossing_71 rfl (by rfl) ?_
                            refine AW.iaload 74 _ dX8_uniteCrossing_73 rfl (by assumption) (by first | exact Or.inl rfl | exact Or.inr rfl) (ix_nI (by omega)) (by omega) ?_
                            refine AW.nne 117 77 dX8_uniteCrossing_74 (by decide) rfl (by omega) (by omega) (fun c6 => ?_) (fun c6 => ?_)
                            · rw [if_neg (fun z => c6 z.1)] at e3
                              refine AW.iinc1 120 dX8_uniteCrossing_117 rfl (by rfl) rfl ?_
                              refine AW.goto 28 dX8_uniteCrossing_120 (by decide) ?_
                              exact ihC (c + 1) (by omega) e3 _
                            · refine AW.aload_n 78 dX8_uniteCrossing_77 rfl (by rfl) ?_
                              refine AW.getfield 81 dX8_uniteCrossing_78 rfl fl_X8_25 (by assumption) (by rfl) ?_
                              refine AW.iload_n 82 dX8_uniteCrossing_81 rfl (by rfl) ?_
                              refine AW.iaload 83 _ dX8_uniteCrossing_82 rfl (by assumption) (by first | exact Or.inl rfl | exact Or.inr rfl) (ix_nI (by omega)) (by omega) ?_
                              refine AW.aload_n 84 dX8_uniteCrossing_83 rfl (by rfl) ?_
                              refine AW.getfield 87 dX8_uniteCrossing_84 rfl fl_X8_25 (by assumption) (by rfl) ?_
                              refine AW.iload 89 dX8_uniteCrossing_87 rfl (by rfl) ?_
                              refine AW.iaload 90 _ dX8_uniteCrossing_89 rfl (by assumption) (by first | exact Or.inl rfl | exact Or.inr rfl) (ix_nI (by omega)) (by omega) ?_
                              refine AW.nne 111 93 dX8_uniteCrossing_90 (by decide) rfl (by omega) (by omega) (fun c7 => ?_) (fun c7 => ?_)
                              · rw [if_neg c7] at e4
                                refine AW.iinc1 114 dX8_uniteCrossing_111 rfl (by rfl) rfl ?_
                                refine AW.goto 55 dX8_uniteCrossing_114 (by decide) ?_
                                exact ihD (d + 1) (by omega) e4
                              · rw [if_pos c7] at e4
                                rw [if_pos ⟨c6, e4.symm⟩] at e3
                                rw [← e3, if_pos rfl] at e
                                rw [← e] at hx
                                refine AW.aload_n 94 dX8_uniteCrossing_93 rfl (by rfl) ?_
                                refine AW.aload_n 95 dX8_uniteCrossing_94 rfl (by rfl) ?_
                                refine AW.getfield 98 dX8_uniteCrossing_95 rfl fl_X8_25 (by assumption) (by rfl) ?_
                                refine AW.iload_n 99 dX8_uniteCrossing_98 rfl (by rfl) ?_
                                refine AW.iaload 100 _ dX8_uniteCrossing_99 rfl (by assumption) (by first | exact Or.inl rfl | exact Or.inr rfl) (ix_nI (by omega)) (by omega) ?_
                                refine AW.aload_n 101 dX8_uniteCrossing_100 rfl (by rfl) ?_
                                refine AW.getfield 104 dX8_uniteCrossing_101 rfl fl_X8_25 (by assumption) (by rfl) ?_
                                refine AW.iload_n 105 dX8_uniteCrossing_104 rfl (by rfl) ?_
                                refine AW.iaload 106 _ dX8_uniteCrossing_105 rfl (by assumption) (by first | exact Or.inl rfl | exact Or.inr rfl) (ix_nI (by omega)) (by omega) ?_
                                refine AW.cV2 109 dX8_uniteCrossing_106 rfl mi_X8_unite mv_X8_unite lk_X8_60 ⟨(Nat.le_of_ble_eq_true rfl), (Nat.le_of_ble_eq_true rfl)⟩ rfl (by assumption) rfl (Nat.le_of_ble_eq_true rfl) (c_uniteG G ga gb ?_)
                                refine AW.iconst 110 dX8_uniteCrossing_109 rfl (nI 1) rfl ?_
                                refine AW.zret dX8_uniteCrossing_110 rfl (by first | exact z_0 | exact z_1 | exact z_b01 _ | assumption) ?_
                                exact h1 a b (by omega) (by omega) hx.symm
                      exact D k3 (c + 1) (by omega) rfl
              exact C k2 (b + 1) (by omega) rfl _
        exact B k (a + 1) (by omega) rfl _ _
  exact A n 0 (by omega) rfl none none none
end REF2
