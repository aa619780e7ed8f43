/-! MATHEMATICS 6: the changes -/
theorem inB_cl {m : Nat} {x : Int32} (hm : m < 2147483648) (h : inB m x = true) : cl x < m := by
  rcases inB_cases hm x with ⟨j, hj, rfl, -⟩ | ⟨-, e⟩
  · rw [cl_nI (by omega)]; exact hj
  · rw [e] at h; cases h
theorem alln_congr {p q : Nat → Bool} : ∀ n, (∀ x, x < n → p x = q x) → alln p n = alln q n := by
  intro n
  induction n with
  | zero => intro _; rfl
  | succ n ih => intro h; show (alln p n && p n) = (alln q n && q n); rw [ih (fun x hx => h x (by omega)), h n (by omega)]
section M6
variable {n a b c : Nat} {σ : aS} {X : aX}
theorem rank_eq : rankF (cr n c) n = rkM n c := by
  refine cnt_congr n (fun x hx => ?_)
  show (if cr n c x == x then 0 else 1) = (if rw8 c x = x then 0 else 1)
  rw [cr_rw8 hx]
  by_cases e : rw8 c x = x <;> simp [e]
theorem und_eq (ga : GdC n a) : undF n a b = blM n a b := by
  refine alln_congr n (fun x hx => ?_)
  show (cr n b x == cr n b (cr n a x)) = (rw8 b x == rw8 b (rw8 a x))
  rw [cr_rw8 hx, cr_rw8 hx, cr_rw8 (ga.lt hx)]
theorem putR_eq {s k : Nat} : putR σ s k = putM σ s k := by
  unfold putR putM
  rw [rank_eq]
theorem GdS.up (g : GdS σ) {s c : Nat} (h : GdC σ.1 c) : GdS (upC σ s c) := by
  refine ⟨g.1, g.2.1, fun t ht => ?_, g.2.2.2⟩
  show GdC σ.1 (if t = s then c else σ.2.1 t)
  split
  · exact h
  · exact g.2.2.1 t ht
theorem E_meet (g : GdS σ) (s a b : Int32) : meetR σ s a b = meetM σ s a b ∧ GdS (meetM σ s a b).2 := by
  unfold meetR meetM
  by_cases c : (inB 6 s && (inB 6 a && inB 6 b)) = true
  · rw [if_pos c, if_pos c]
    rw [Bool.and_eq_true, Bool.and_eq_true] at c
    have ga := g.2.2.1 _ (inB_cl (by omega) c.2.1)
    have gb := g.2.2.1 _ (inB_cl (by omega) c.2.2)
    rw [meC_eq g.2.1 ga gb]
    exact ⟨putR_eq, g.up (meM_good g.2.1 ga gb)⟩
  · rw [if_neg c, if_neg c]
    exact ⟨rfl, g⟩
theorem E_join (g : GdS σ) (s a b : Int32) : joinR σ s a b = joinM σ s a b ∧ GdS (joinM σ s a b).2 := by
  unfold joinR joinM
  by_cases c : (inB 6 s && (inB 6 a && inB 6 b)) = true
  · rw [if_pos c, if_pos c]
    rw [Bool.and_eq_true, Bool.and_eq_true] at c
    have ga := g.2.2.1 _ (inB_cl (by omega) c.2.1)
    have gb := g.2.2.1 _ (inB_cl (by omega) c.2.2)
    rw [joM_eq g.1 g.2.1 ga gb]
    exact ⟨putR_eq, g.up (joM_good g.2.1)⟩
  · rw [if_neg c, if_neg c]
    exact ⟨rfl, g⟩
theorem E_comp (g : GdS σ) (s a : Int32) : compR σ s a = compM σ s a ∧ GdS (compM σ s a).2 := by
  unfold compR compM
  by_cases c : (inB 6 s && inB 6 a) = true
  · rw [if_pos c, if_pos c]
    rw [Bool.and_eq_true] at c
    have ga := g.2.2.1 _ (inB_cl (by omega) c.2)
    rw [coC_eq g.1 g.2.1 ga]
    exact ⟨putR_eq, g.up (co_good g.1 g.2.1 ga)⟩
  · rw [if_neg c, if_neg c]
    exact ⟨rfl, g⟩
/-! the partition with one pair -/
theorem pu_row {x y i : Nat} : pkR (upN (fun i => i) x y) i = if x < y then (if i = y then x else i) else (if i = x then y else i) := by
  have a1 := pkR_le (upN (fun i => i) x y) i
  have a2 : (if pkR (upN (fun i => i) x y) i = x then y else pkR (upN (fun i => i) x y) i) = (if i = x then y else i) := pkR_g (upN (fun i => i) x y) i
  have a4 : x ≤ i → y = (if i = x then y else i) → pkR (upN (fun i => i) x y) i ≤ x := fun h e => pkR_min (upN (fun i => i) x y) i x h (by show (if x = x then y else x) = _; rw [if_pos rfl]; exact e)
  have a5 : y ≤ i → y = (if i = x then y else i) → pkR (upN (fun i => i) x y) i ≤ y := fun h e => pkR_min (upN (fun i => i) x y) i y h (by show (if y = x then y else y) = _; rw [ite_self]; exact e)
  generalize pkR (upN (fun i => i) x y) i = p at a1 a2 a4 a5 ⊢
  by_cases e1 : i = x
  · rw [if_pos e1] at a2 a4 a5
    by_cases e2 : p = x
    · rw [if_pos e2] at a2
      repeat' split
      all_goals omega
    · rw [if_neg e2] at a2
      repeat' split
      all_goals omega
  · rw [if_neg e1] at a2 a4 a5
    by_cases e2 : p = x
    · rw [if_pos e2] at a2
      repeat' split
      all_goals omega
    · rw [if_neg e2] at a2
      repeat' split
      all_goals omega
theorem puM_good {x y : Nat} (hn : n ≤ 8) : GdC n (puM n x y) := by
  refine GdC_pk hn ?_
  intro p q r s h1 h2 h3 h4 h5 h6
  have h5 : (if p = x then y else p) = (if r = x then y else r) := h5
  have h6 : (if q = x then y else q) = (if s = x then y else s) := h6
  show (if p = x then y else p) = (if q = x then y else q)
  by_cases e1 : p = x
  · rw [if_pos e1, if_neg (by omega)] at h5
    rw [if_neg (by omega), if_neg (by omega)] at h6
    omega
  · rw [if_neg e1] at h5
    by_cases e2 : r = x
    · rw [if_pos e2] at h5
      rw [if_neg (by omega), if_neg (by omega)] at h6
      omega
    · rw [if_neg e2] at h5
      omega
theorem pu_cr {x y : Nat} (hn : n ≤ 8) (hx : x < n) (hy : y < n) : cr n (puM n x y) = pairF x y := by
  funext i
  by_cases hi : i < n
  · rw [cr_rw8 hi, puM, rw8_pk hn hi, pu_row]
    unfold pairF
    by_cases c : x < y
    · rw [if_pos c, if_pos c]
      unfold upN
      by_cases e : i = y
      · rw [if_pos e, if_pos e]
      · rw [if_neg e, if_neg e, idn, if_pos (by omega)]
    · rw [if_neg c, if_neg c]
      unfold upN
      by_cases e : i = x
      · rw [if_pos e, if_pos e]
      · rw [if_neg e, if_neg e, idn, if_pos (by omega)]
  · rw [cr, if_neg hi]
    unfold pairF
    by_cases c : x < y
    · rw [if_pos c]
      show _ = (if i = y then x else idn i)
      rw [if_neg (by omega)]
    · rw [if_neg c]
      show _ = (if i = x then y else idn i)
      rw [if_neg (by omega)]
theorem puC_eq {x y : Nat} (h1 : 1 ≤ n) (h2 : n ≤ 8) (ga : GdC n a) (hx : x < n) (hy : y < n) : puC n a x y = joM n a (puM n x y) := by
  rw [← joM_eq h1 h2 ga (puM_good h2)]
  unfold puC joC
  rw [pu_cr h2 hx hy]
theorem E_unite (g : GdS σ) (s x y : Int32) : uniteR σ s x y = uniteM σ s x y ∧ GdS (uniteM σ s x y).2 := by
  unfold uniteR uniteM
  by_cases c : (inB 6 s && (inB σ.1 x && inB σ.1 y)) = true
  · rw [if_pos c, if_pos c]
    rw [Bool.and_eq_true, Bool.and_eq_true] at c
    have h8 := g.2.1
    have ga := g.2.2.1 _ (inB_cl (by omega) c.1)
    rw [puC_eq g.1 g.2.1 ga (inB_cl (by omega) c.2.1) (inB_cl (by omega) c.2.2)]
    exact ⟨putR_eq, g.up (joM_good g.2.1)⟩
  · rw [if_neg c, if_neg c]
    exact ⟨rfl, g⟩
theorem J_ok (g : GdS σ) : ∀ a, a < 6 → ∀ x y, x < σ.1 → y < σ.1 → ∀ z, z < σ.1 → joinF (cr σ.1 (σ.2.1 a)) (pairF x y) σ.1 z ≤ z := by
  intro a ha x y hx hy z hz
  have ga := g.2.2.1 a ha
  have e : cr σ.1 (puC σ.1 (σ.2.1 a) x y) = joinF (cr σ.1 (σ.2.1 a)) (pairF x y) σ.1 := cr_un g.2.1
  rw [← e, puC_eq g.1 g.2.1 ga hx hy, cr_rw8 hz]
  exact (joM_good g.2.1).le hz
theorem V_ok (g : GdS σ) : VdS σ := by
  intro a ha
  have ga := g.2.2.1 a ha
  refine ⟨fun x hx => by rw [cr_rw8 hx]; exact ga.le hx, fun x hx => ?_⟩
  rw [tuC_eq g.1 g.2.1 ga, cr_rw8 hx]
  exact (tuM_good g.2.1 ga).le hx
theorem id_good : ∀ k, k ≤ 8 → GdC k (idC k) := by
  have : ∀ k, k ≤ 8 → idC k < 16777216 ∧ idC k % 8 ^ (8 - k) = 0 ∧ wlQ k (idC k) = true := by decide +kernel
  intro k hk
  obtain ⟨q1, q2, q3⟩ := this k hk
  rw [wlQ_eq] at q3
  exact ⟨q1, q2, q3⟩
theorem G_point (g : GdS σ) (k : Int32) : GdS (pointR σ k).2 := by
  unfold pointR
  split
  · rename_i c
    have c1 := of_decide_eq_true (show decide (1 ≤ k.toInt ∧ k.toInt ≤ 8) = true from c)
    obtain ⟨l, hl, h1, rfl⟩ : ∃ l, l ≤ 8 ∧ 1 ≤ l ∧ k = nI l := by
      refine ⟨k.toInt.toNat, by omega, by omega, ?_⟩
      apply Int32.toInt_inj.mp
      rw [nI_toInt (by omega)]
      omega
    show GdS (cl (nI l), fun _ => idC (cl (nI l)), σ.2.2)
    rw [cl_nI (by omega)]
    exact ⟨h1, hl, fun _ _ => id_good l hl, g.2.2.2⟩
  · exact g
theorem G_00 : GdX X00 := ⟨⟨by decide, by decide, fun _ _ => id_good 4 (by decide), fun _ _ => (by decide : -9 ≤ (nI 0).toInt ∧ (nI 0).toInt ≤ 9)⟩, fun j hj => absurd hj (Nat.not_lt_zero _)⟩
/-! the queries that follow at once -/
theorem E_row (g : GdX X) (s w : Int32) : rowR X s w = rowM X s w := by
  unfold rowR rowM
  by_cases c : (inB 6 s && inB X.1.1 w) = true
  · rw [if_pos c, if_pos c]
    rw [Bool.and_eq_true] at c
    have h8 := g.1.2.1
    rw [cr_rw8 (inB_cl (by omega) c.2)]
  · rw [if_neg c, if_neg c]
theorem E_below (g : GdX X) (a b : Int32) : belowR X a b = belowM X a b := by
  unfold belowR belowM
  by_cases c : (inB 6 a && inB 6 b) = true
  · rw [if_pos c, if_pos c]
    rw [Bool.and_eq_true] at c
    rw [und_eq (g.1.2.2.1 _ (inB_cl (by omega) c.1))]
  · rw [if_neg c, if_neg c]
end M6
