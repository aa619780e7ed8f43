/-! STATE, PAST, BOARD. A state of the class is (n, codes of the slots, numbers); a code packs a row, three bits a point, the first highest -/
abbrev aS : Type := Nat × (Nat → Nat) × (Nat → Int32)
def cr (n c x : Nat) : Nat := if x < n then c / 8 ^ (7 - x) % 8 else idn x
def enc (r : Nat → Nat) (n : Nat) : Nat := cnt (fun x => r x * 8 ^ (7 - x)) n
theorem cr_lt (n c : Nat) : ∀ x, x < 8 → cr n c x < 8 := fun x hx => by unfold cr idn; split; exact Nat.mod_lt _ (by decide); exact hx
theorem cr_0 {n : Nat} (c : Nat) (hn : n ≤ 8) : ∀ x, 8 ≤ x → cr n c x = 0 := fun x hx => by rw [cr, if_neg (by omega), idn, if_neg (by omega)]
def statO (a n : Nat) : aE := .inr (6, [.int (nI n), .ref (a + 1), .ref (a + 14)])
def partsO (a : Nat) : aE := .inl (4, (6, .inr (.inr (.inr (.inr (fun i => if i < 6 then some (a + 2 + 2 * i) else none))))))
def StateAt (h : aH) (a : Nat) (σ : aS) : Prop := h a = statO a σ.1 ∧ h (a + 1) = partsO a ∧ (∀ s, s < 6 → h (a + 2 + 2 * s) = oP σ.1 (a + 2 + 2 * s + 1) ∧ h (a + 2 + 2 * s + 1) = iA 8 (cr σ.1 (σ.2.1 s))) ∧ h (a + 14) = .inl (0, (8, .inl σ.2.2)) ∧ 1 ≤ σ.1 ∧ σ.1 ≤ 8 ∧ ∀ j, 8 ≤ j → σ.2.2 j = nI 0
theorem StateAt.same {h h' : aH} {a : Nat} {σ : aS} (S : StateAt h a σ) (e : ∀ z, a ≤ z → z < a + 15 → h' z = h z) : StateAt h' a σ := by
  obtain ⟨s1, s2, s3, s4, s5⟩ := S
  exact ⟨by rw [e a (by omega) (by omega), s1], by rw [e _ (by omega) (by omega), s2], fun s hs => ⟨by rw [e _ (by omega) (by omega), (s3 s hs).1], by rw [e _ (by omega) (by omega), (s3 s hs).2]⟩, by rw [e _ (by omega) (by omega), s4], s5⟩
theorem StateAt.ext {h : aH} {a : Nat} {σ τ : aS} (S : StateAt h a σ) (h1 : σ.1 = τ.1) (h2 : ∀ s, s < 6 → σ.2.1 s = τ.2.1 s) (h3 : σ.2.2 = τ.2.2) : StateAt h a τ := by
  obtain ⟨s1, s2, s3, s4, s5⟩ := S
  rw [h1, h3] at s5
  rw [h1] at s1
  exact ⟨s1, s2, fun s hs => by rw [← h1, ← h2 s hs]; exact s3 s hs, by rw [← h3]; exact s4, s5⟩
section BOARD
variable {N : Nat} {h : aH} {P : aP}
theorem c_stCopy {a b : Nat} {σ τ : aS} (S : StateAt h a σ) (T : StateAt h b τ) (hd : a + 15 ≤ b ∨ b + 15 ≤ a) (hP : ∀ h', StateAt h' a τ → (∀ z, z < a ∨ a + 15 ≤ z → h' z = h z) → P none N h') : AM X6_copy [.ref a, .ref b] N h P := by
  obtain ⟨s1, s2, s3, s4, s5⟩ := S
  obtain ⟨t1, t2, t3, t4, t5⟩ := T
  refine AM.of0 rfl (Nat.le_of_ble_eq_true rfl) rfl [some (.ref a), some (.ref b), none] rfl ?_
  refine AW.aload_n 1 dX6_copy_0 rfl (by rfl) ?_
  refine AW.aload_n 2 dX6_copy_1 rfl (by rfl) ?_
  refine AW.getfield 5 dX6_copy_2 rfl fl_X6_9 (by assumption) (by rfl) ?_
  refine AW.putfield 8 dX6_copy_5 rfl fl_X6_9 (by assumption) (Nat.le_of_ble_eq_true rfl) (fun _ => ⟨rfl, rfl⟩) ?_
  refine AW.iconst 9 dX6_copy_8 rfl (nI 0) rfl ?_
  refine AW.istore_n 10 dX6_copy_9 rfl (Nat.le_of_ble_eq_true rfl) rfl ?_
  have L2 : ∀ h1 : aH, h1 a = statO a τ.1 → h1 (a + 1) = partsO a → (∀ s, s < 6 → h1 (a + 2 + 2 * s) = oP τ.1 (a + 2 + 2 * s + 1) ∧ h1 (a + 2 + 2 * s + 1) = iA 8 (cr τ.1 (τ.2.1 s))) → (∀ z, z < a ∨ a + 15 ≤ z → h1 z = h z) → ∀ k i, i + k = 8 → ∀ f, (∀ j, j < i → f j = τ.2.2 j) → (∀ j, 8 ≤ j → f j = σ.2.2 j) → AW X6_copy 39 [some (.ref a), some (.ref b), some (.int (nI i))] [] N (0, 0) (hs h1 (a + 14) (.inl (0, (8, .inl f)))) P := by
    intro h1 g1 g2 g3 g4 k
    induction k with
    | zero =>
      intro i hi f hf hf8
      refine AW.iload_n 40 dX6_copy_39 rfl (by rfl) ?_
      refine AW.bipush 42 dX6_copy_40 rfl (nI 8) rfl ?_
      refine AW.nge 63 45 dX6_copy_42 (by decide) rfl (by omega) (by omega) (fun c => ?_) (fun c => ?_)
      · refine AW.vret dX6_copy_63 rfl ?_
        have e : f = τ.2.2 := funext fun j => by
          rcases Nat.lt_or_ge j 8 with z | z
          · exact hf j (by omega)
          · rw [hf8 j z, s5.2.2 j z, t5.2.2 j z]
        subst e
        refine hP _ ⟨by rw [hs_ne (by omega), g1], by rw [hs_ne (by omega), g2], fun s hs => ⟨by rw [hs_ne (by omega), (g3 s hs).1], by rw [hs_ne (by omega), (g3 s hs).2]⟩, by rw [hs_eq], t5⟩ (fun z hz => by rw [hs_ne (by omega), g4 z hz])
      · omega
    | succ k ih =>
      intro i hi f hf hf8
      have xa : hs h1 (a + 14) (.inl (0, (8, .inl f))) a = statO a τ.1 := by rw [hs_ne (by omega), g1]
      have xb : hs h1 (a + 14) (.inl (0, (8, .inl f))) b = statO b τ.1 := by rw [hs_ne (by omega), g4 b (by omega), t1]
      have xa14 : hs h1 (a + 14) (.inl (0, (8, .inl f))) (a + 14) = .inl (0, (8, .inl f)) := hs_eq _ _ _
      have xb14 : hs h1 (a + 14) (.inl (0, (8, .inl f))) (b + 14) = .inl (0, (8, .inl τ.2.2)) := by rw [hs_ne (by omega), g4 _ (by omega), t4]
      refine AW.iload_n 40 dX6_copy_39 rfl (by rfl) ?_
      refine AW.bipush 42 dX6_copy_40 rfl (nI 8) rfl ?_
      refine AW.nge 63 45 dX6_copy_42 (by decide) rfl (by omega) (by omega) (fun c => ?_) (fun c => ?_)
      · omega
      · refine AW.aload_n 46 dX6_copy_45 rfl (by rfl) ?_
        refine AW.getfield 49 dX6_copy_46 rfl fl_X6_22 (by assumption) (by rfl) ?_
        refine AW.iload_n 50 dX6_copy_49 rfl (by rfl) ?_
        refine AW.aload_n 51 dX6_copy_50 rfl (by rfl) ?_
        refine AW.getfield 54 dX6_copy_51 rfl fl_X6_22 (by assumption) (by rfl) ?_
        refine AW.iload_n 55 dX6_copy_54 rfl (by rfl) ?_
        refine AW.iaload 56 _ dX6_copy_55 rfl (by assumption) (by first | exact Or.inl rfl | exact Or.inr rfl) (ix_nI (by omega)) (by omega) ?_
        refine AW.iastore 57 _ dX6_copy_56 rfl (by assumption) (ix_nI (by omega)) (by omega) ?_
        refine AW.iinc1 60 dX6_copy_57 rfl (by rfl) rfl ?_
        refine AW.goto 39 dX6_copy_60 (by decide) ?_
        rw [hs_hs]
        refine ih (i + 1) (by omega) _ (fun j hj => ?_) (fun j hj => ?_)
        · unfold upd
          by_cases e : j = i
          · rw [if_pos e, e]
          · rw [if_neg e]; exact hf j (by omega)
        · unfold upd
          rw [if_neg (by omega)]
          exact hf8 j hj
  have L1 : ∀ k s, s + k = 6 → ∀ h1 : aH, h1 a = statO a τ.1 → h1 (a + 1) = partsO a → (∀ i, i < s → h1 (a + 2 + 2 * i) = oP τ.1 (a + 2 + 2 * i + 1) ∧ h1 (a + 2 + 2 * i + 1) = iA 8 (cr τ.1 (τ.2.1 i))) → (∀ i, i < 6 → PartAt h1 (a + 2 + 2 * i) (a + 2 + 2 * i + 1)) → h1 (a + 14) = .inl (0, (8, .inl σ.2.2)) → (∀ z, z < a ∨ a + 15 ≤ z → h1 z = h z) → AW X6_copy 10 [some (.ref a), some (.ref b), some (.int (nI s))] [] N (0, 0) h1 P := by
    intro k
    induction k with
    | zero =>
      intro s hs6 h1 g1 g2 g3 g4 g5 g6
      refine AW.iload_n 11 dX6_copy_10 rfl (by rfl) ?_
      refine AW.bipush 13 dX6_copy_11 rfl (nI 6) rfl ?_
      refine AW.nge 37 16 dX6_copy_13 (by decide) rfl (by omega) (by omega) (fun c => ?_) (fun c => ?_)
      · refine AW.iconst 38 dX6_copy_37 rfl (nI 0) rfl ?_
        refine AW.istore_n 39 dX6_copy_38 rfl (Nat.le_of_ble_eq_true rfl) rfl ?_
        have := L2 h1 g1 g2 (fun i hi => g3 i (by omega)) g6 8 0 (by omega) σ.2.2 (fun j hj => by omega) (fun j hj => rfl)
        rw [hs_self g5] at this
        exact this
      · omega
    | succ k ih =>
      intro s hs6 h1 g1 g2 g3 g4 g5 g6
      have xb : h1 b = statO b τ.1 := by rw [g6 b (by omega), t1]
      have xb1 : h1 (b + 1) = partsO b := by rw [g6 _ (by omega), t2]
      have xbp : h1 (b + 2 + 2 * s) = oP τ.1 (b + 2 + 2 * s + 1) := by rw [g6 _ (by omega), (t3 s (by omega)).1]
      have xbq : h1 (b + 2 + 2 * s + 1) = iA 8 (cr τ.1 (τ.2.1 s)) := by rw [g6 _ (by omega), (t3 s (by omega)).2]
      obtain ⟨m0, fm, p1, p2, p3⟩ := g4 s (by omega)
      refine AW.iload_n 11 dX6_copy_10 rfl (by rfl) ?_
      refine AW.bipush 13 dX6_copy_11 rfl (nI 6) rfl ?_
      refine AW.nge 37 16 dX6_copy_13 (by decide) rfl (by omega) (by omega) (fun c => ?_) (fun c => ?_)
      · omega
      · refine AW.aload_n 17 dX6_copy_16 rfl (by rfl) ?_
        refine AW.getfield 20 dX6_copy_17 rfl fl_X6_17 (by assumption) (by rfl) ?_
        refine AW.iload_n 21 dX6_copy_20 rfl (by rfl) ?_
        refine AW.aaload 22 _ dX6_copy_21 rfl (by assumption) (fun _ => rfl) rfl (ix_nI (by omega)) (by omega) (if_pos (show s < 6 by omega)) ?_
        refine AW.aload_n 23 dX6_copy_22 rfl (by rfl) ?_
        refine AW.getfield 26 dX6_copy_23 rfl fl_X6_17 (by assumption) (by rfl) ?_
        refine AW.iload_n 27 dX6_copy_26 rfl (by rfl) ?_
        refine AW.aaload 28 _ dX6_copy_27 rfl (by assumption) (fun _ => rfl) rfl (ix_nI (by omega)) (by omega) (if_pos (show s < 6 by omega)) ?_
        refine AW.cV1 31 dX6_copy_28 rfl mi_X3_copy mv_X3_copy lk_X6_26 ⟨(Nat.le_of_ble_eq_true rfl), (Nat.le_of_ble_eq_true rfl)⟩ rfl (by assumption) rfl (Nat.le_of_ble_eq_true rfl) (c_copy p1 p2 xbp xbq (by omega) (by omega) (fun i hi => by rw [p3 i hi, cr_0 _ t5.2.1 i hi]) ?_)
        refine AW.iinc1 34 dX6_copy_31 rfl (by rfl) rfl ?_
        refine AW.goto 10 dX6_copy_34 (by decide) ?_
        refine ih (s + 1) (by omega) _ ?_ ?_ (fun i hi => ?_) (fun i hi => ?_) ?_ (fun z hz => ?_)
        · rw [hs_ne (by omega), hs_ne (by omega), g1]
        · rw [hs_ne (by omega), hs_ne (by omega), g2]
        · by_cases e : i = s
          · subst e; exact ⟨by rw [hs_ne (by omega), hs_eq], by rw [hs_eq]⟩
          · exact ⟨by rw [hs_ne (by omega), hs_ne (by omega), (g3 i (by omega)).1], by rw [hs_ne (by omega), hs_ne (by omega), (g3 i (by omega)).2]⟩
        · exact (g4 i hi).put (cr_0 _ t5.2.1) (by omega)
        · rw [hs_ne (by omega), hs_ne (by omega), g5]
        · rw [hs_ne (by omega), hs_ne (by omega), g6 z hz]
  refine L1 6 0 (by omega) _ (by rw [hs_eq]; rfl) (by rw [hs_ne (by omega), s2]) (fun i hi => by omega) (fun i hi => ?_) (by rw [hs_ne (by omega), s4]) (fun z hz => by rw [hs_ne (by omega)])
  exact (PartAt.of0 (s3 i hi).1 (s3 i hi).2 (cr_0 _ s5.2.1)).ne (by omega) (by omega)
def pastO (nx hd : Nat) : aE := .inr (4, [.ref 47, .int (nI nx), .int (nI hd)])
def ringO : aE := .inl (5, (6, .inr (.inr (.inr (.inr (fun i => if i < 6 then some (48 + 15 * i) else none))))))
def PastAt (h : aH) (nx hd : Nat) (ring : Nat → aS) : Prop := h 46 = pastO nx hd ∧ h 47 = ringO ∧ (∀ i, i < 6 → StateAt h (48 + 15 * i) (ring i)) ∧ nx < 6 ∧ hd ≤ 5
def upS (f : Nat → aS) (k : Nat) (v : aS) : Nat → aS := fun i => if i = k then v else f i
theorem PastAt.same {h h' : aH} {nx hd : Nat} {ring : Nat → aS} (S : PastAt h nx hd ring) (e : ∀ z, 46 ≤ z → z < 138 → h' z = h z) : PastAt h' nx hd ring := ⟨by rw [e 46 (by omega) (by omega), S.1], by rw [e 47 (by omega) (by omega), S.2.1], fun i hi => (S.2.2.1 i hi).same (fun z z1 z2 => e z (by omega) (by omega)), S.2.2.2⟩
theorem c_prepare {nx hd : Nat} {ring : Nat → aS} {σ : aS} (S : PastAt h nx hd ring) (T : StateAt h 5 σ) (hP : ∀ h', PastAt h' nx hd (upS ring nx σ) → (∀ z, z < 46 ∨ 138 ≤ z → h' z = h z) → P none N h') : AM X4_prepare [.ref 46, .ref 5] N h P := by
  obtain ⟨s1, s2, s3, s4, s5⟩ := S
  have x5 := T.1
  refine AM.of0 rfl (Nat.le_of_ble_eq_true rfl) rfl [some (.ref 46), some (.ref 5)] rfl ?_
  refine AW.aload_n 1 dX4_prepare_0 rfl (by rfl) ?_
  refine AW.getfield 4 dX4_prepare_1 rfl fl_X4_11 (by assumption) (by rfl) ?_
  refine AW.aload_n 5 dX4_prepare_4 rfl (by rfl) ?_
  refine AW.getfield 8 dX4_prepare_5 rfl fl_X4_18 (by assumption) (by rfl) ?_
  refine AW.aaload 9 _ dX4_prepare_8 rfl (by assumption) (fun _ => rfl) rfl (ix_nI (by omega)) (by omega) (if_pos (show nx < 6 by omega)) ?_
  refine AW.aload_n 10 dX4_prepare_9 rfl (by rfl) ?_
  have xq := (s3 nx s4).1
  refine AW.cV1 13 dX4_prepare_10 rfl mi_X6_copy mv_X6_copy lk_X4_25 ⟨(Nat.le_of_ble_eq_true rfl), (Nat.le_of_ble_eq_true rfl)⟩ rfl (by assumption) rfl (Nat.le_of_ble_eq_true rfl) (c_stCopy (s3 nx s4) T (by omega) (fun h' q1 q2 => ?_))
  refine AW.vret dX4_prepare_13 rfl ?_
  refine hP h' ⟨by rw [q2 46 (by omega), s1], by rw [q2 47 (by omega), s2], fun i hi => ?_, s4, s5⟩ (fun z hz => q2 z (by omega))
  unfold upS
  by_cases e : i = nx
  · subst e; rw [if_pos rfl]; exact q1
  · rw [if_neg e]; exact (s3 i hi).same (fun z z1 z2 => q2 z (by omega))
theorem c_prepared {nx hd : Nat} {ring : Nat → aS} (S : PastAt h nx hd ring) (hP : P (some (.ref (48 + 15 * nx))) N h) : AM X4_prepared [.ref 46] N h P := by
  obtain ⟨s1, s2, s3, s4, s5⟩ := S
  refine AM.of0 rfl (Nat.le_of_ble_eq_true rfl) rfl [some (.ref 46)] rfl ?_
  refine AW.aload_n 1 dX4_prepared_0 rfl (by rfl) ?_
  refine AW.getfield 4 dX4_prepared_1 rfl fl_X4_11 (by assumption) (by rfl) ?_
  refine AW.aload_n 5 dX4_prepared_4 rfl (by rfl) ?_
  refine AW.getfield 8 dX4_prepared_5 rfl fl_X4_18 (by assumption) (by rfl) ?_
  refine AW.aaload 9 _ dX4_prepared_8 rfl (by assumption) (fun _ => rfl) rfl (ix_nI (by omega)) (by omega) (if_pos (show nx < 6 by omega)) ?_
  refine AW.aret dX4_prepared_9 rfl ?_
  exact hP
def nxU (nx : Nat) : Nat := if nx < 5 then nx + 1 else 0
def hdU (hd : Nat) : Nat := if hd < 5 then hd + 1 else 5
theorem c_keep {nx hd : Nat} {ring : Nat → aS} (S : PastAt h nx hd ring) (hP : ∀ h', PastAt h' (nxU nx) (hdU hd) ring → (∀ z, z ≠ 46 → h' z = h z) → P none N h') : AM X4_keep [.ref 46] N h P := by
  obtain ⟨s1, s2, s3, s4, s5⟩ := S
  refine AM.of0 rfl (Nat.le_of_ble_eq_true rfl) rfl [some (.ref 46)] rfl ?_
  have K : ∀ a, a = nxU nx → AW X4_keep 19 [some (.ref 46)] [.int (nI a), .ref 46] N (0, 0) h P := by
    intro a ha
    refine AW.putfield 22 dX4_keep_19 rfl fl_X4_18 (by assumption) (Nat.le_of_ble_eq_true rfl) (fun _ => ⟨rfl, rfl⟩) ?_
    have x46 : hs h 46 (pastO a hd) 46 = pastO a hd := hs_eq _ _ _
    refine AW.heap (hs h 46 (pastO a hd)) rfl ?_
    have K2 : ∀ b, b = hdU hd → AW X4_keep 41 [some (.ref 46)] [.int (nI b), .ref 46] N (0, 0) (hs h 46 (pastO a hd)) P := by
      intro b hb
      refine AW.putfield 44 dX4_keep_41 rfl fl_X4_22 (by assumption) (Nat.le_of_ble_eq_true rfl) (fun _ => ⟨rfl, rfl⟩) ?_
      refine AW.heap (hs h 46 (pastO a b)) (hs_hs _ _ _ _) ?_
      refine AW.vret dX4_keep_44 rfl ?_
      refine hP _ ⟨by rw [hs_eq, ha, hb], by rw [hs_ne (by decide), s2], fun i hi => (s3 i hi).same (fun z z1 z2 => hs_ne (by omega)), ?_, ?_⟩ (fun z hz => hs_ne hz)
      · unfold nxU; split <;> omega
      · unfold hdU; split <;> omega
    refine AW.aload_n 23 dX4_keep_22 rfl (by rfl) ?_
    refine AW.aload_n 24 dX4_keep_23 rfl (by rfl) ?_
    refine AW.getfield 27 dX4_keep_24 rfl fl_X4_22 (by assumption) (by rfl) ?_
    refine AW.iconst 28 dX4_keep_27 rfl (nI 5) rfl ?_
    refine AW.nge 40 31 dX4_keep_28 (by decide) rfl (by omega) (by omega) (fun c => ?_) (fun c => ?_)
    · refine AW.iconst 41 dX4_keep_40 rfl (nI 5) rfl ?_
      exact K2 5 (by rw [hdU, if_neg (by omega)])
    · refine AW.aload_n 32 dX4_keep_31 rfl (by rfl) ?_
      refine AW.getfield 35 dX4_keep_32 rfl fl_X4_22 (by assumption) (by rfl) ?_
      refine AW.iconst 36 dX4_keep_35 rfl (nI 1) rfl ?_
      first | refine AW.iaddN 37 dX4_keep_36 rfl ?_ | refine AW.iadd 37 dX4_keep_36 rfl ?_
      refine AW.goto 41 dX4_keep_37 (by decide) ?_
      exact K2 (hd + 1) (by rw [hdU, if_pos c])
  refine AW.aload_n 1 dX4_keep_0 rfl (by rfl) ?_
  refine AW.aload_n 2 dX4_keep_1 rfl (by rfl) ?_
  refine AW.getfield 5 dX4_keep_2 rfl fl_X4_18 (by assumption) (by rfl) ?_
  refine AW.iconst 6 dX4_keep_5 rfl (nI 5) rfl ?_
  refine AW.nge 18 9 dX4_keep_6 (by decide) rfl (by omega) (by omega) (fun c => ?_) (fun c => ?_)
  · refine AW.iconst 19 dX4_keep_18 rfl (nI 0) rfl ?_
    exact K 0 (by rw [nxU, if_neg (by omega)])
  · refine AW.aload_n 10 dX4_keep_9 rfl (by rfl) ?_
    refine AW.getfield 13 dX4_keep_10 rfl fl_X4_18 (by assumption) (by rfl) ?_
    refine AW.iconst 14 dX4_keep_13 rfl (nI 1) rfl ?_
    first | refine AW.iaddN 15 dX4_keep_14 rfl ?_ | refine AW.iadd 15 dX4_keep_14 rfl ?_
    refine AW.goto 19 dX4_keep_15 (by decide) ?_
    exact K (nx + 1) (by rw [nxU, if_pos c])
def nxD (nx : Nat) : Nat := if 0 < nx then nx - 1 else 5
theorem c_stepBack {nx hd : Nat} {ring : Nat → aS} (S : PastAt h nx hd ring) (h0 : 0 < hd) (hP : ∀ h', PastAt h' (nxD nx) (hd - 1) ring → (∀ z, z ≠ 46 → h' z = h z) → P none N h') : AM X4_stepBack [.ref 46] N h P := by
  obtain ⟨s1, s2, s3, s4, s5⟩ := S
  refine AM.of0 rfl (Nat.le_of_ble_eq_true rfl) rfl [some (.ref 46)] rfl ?_
  have K : ∀ a, a = nxD nx → AW X4_stepBack 18 [some (.ref 46)] [.int (nI a), .ref 46] N (0, 0) h P := by
    intro a ha
    refine AW.putfield 21 dX4_stepBack_18 rfl fl_X4_18 (by assumption) (Nat.le_of_ble_eq_true rfl) (fun _ => ⟨rfl, rfl⟩) ?_
    refine AW.heap (hs h 46 (pastO a hd)) rfl ?_
    have x46 : hs h 46 (pastO a hd) 46 = pastO a hd := hs_eq _ _ _
    refine AW.aload_n 22 dX4_stepBack_21 rfl (by rfl) ?_
    refine AW.dup 23 dX4_stepBack_22 rfl rfl ?_
    refine AW.getfield 26 dX4_stepBack_23 rfl fl_X4_22 (by assumption) (by rfl) ?_
    refine AW.iconst 27 dX4_stepBack_26 rfl (nI 1) rfl ?_
    first | refine AW.isubN 28 dX4_stepBack_27 rfl (by omega) ?_ | refine AW.isub 28 dX4_stepBack_27 rfl ?_
    refine AW.putfield 31 dX4_stepBack_28 rfl fl_X4_22 (by assumption) (Nat.le_of_ble_eq_true rfl) (fun _ => ⟨rfl, rfl⟩) ?_
    refine AW.heap (hs h 46 (pastO a (hd - 1))) (hs_hs _ _ _ _) ?_
    refine AW.vret dX4_stepBack_31 rfl ?_
    refine hP _ ⟨by rw [hs_eq, ha], by rw [hs_ne (by decide), s2], fun i hi => (s3 i hi).same (fun z z1 z2 => hs_ne (by omega)), ?_, by omega⟩ (fun z hz => hs_ne hz)
    unfold nxD; split <;> omega
  refine AW.aload_n 1 dX4_stepBack_0 rfl (by rfl) ?_
  refine AW.aload_n 2 dX4_stepBack_1 rfl (by rfl) ?_
  refine AW.getfield 5 dX4_stepBack_2 rfl fl_X4_18 (by assumption) (by rfl) ?_
  refine AW.if_le 17 8 dX4_stepBack_5 (by decide) rfl (fun c => ?_) (fun c => ?_)
  · refine AW.iconst 18 dX4_stepBack_17 rfl (nI 5) rfl ?_
    have : nx = 0 := by
      rcases Nat.eq_zero_or_pos nx with q | q
      · exact q
      · exact absurd c (nI_nle q (by omega))
    exact K 5 (by rw [nxD, if_neg (by omega)])
  · have : 0 < nx := by
      rcases Nat.eq_zero_or_pos nx with q | q
      · subst q; exact absurd (by decide) c
      · exact q
    refine AW.aload_n 9 dX4_stepBack_8 rfl (by rfl) ?_
    refine AW.getfield 12 dX4_stepBack_9 rfl fl_X4_18 (by assumption) (by rfl) ?_
    refine AW.iconst 13 dX4_stepBack_12 rfl (nI 1) rfl ?_
    first | refine AW.isubN 14 dX4_stepBack_13 rfl (by omega) ?_ | refine AW.isub 14 dX4_stepBack_13 rfl ?_
    refine AW.goto 18 dX4_stepBack_14 (by decide) ?_
    exact K (nx - 1) (by rw [nxD, if_pos this])
/-! BOARD -/
def brdO : aE := .inr (0, [.ref 5, .ref 20, .ref 44])
def BoardAt (h : aH) (σ : aS) : Prop := h 4 = brdO ∧ StateAt h 5 σ ∧ LW h ∧ PartAt h 44 45
theorem BoardAt.same {h h' : aH} {σ : aS} (S : BoardAt h σ) (e : ∀ z, z < 46 → h' z = h z) : BoardAt h' σ := by
  obtain ⟨b1, b2, w, b4⟩ := S
  obtain ⟨w1, ⟨f2, w2⟩, ⟨f3, w3⟩, ⟨f4, w4⟩, w5, w6, w7, w8, w9, w10, w11⟩ := w
  have pa : ∀ {p q : Nat}, p < 46 → q < 46 → PartAt h p q → PartAt h' p q := fun hp hq ⟨m, f, g1, g2, g3⟩ => ⟨m, f, by rw [e _ hp, g1], by rw [e _ hq, g2], g3⟩
  exact ⟨by rw [e 4 (by omega), b1], b2.same (fun z z1 z2 => e z (by omega)), ⟨by rw [e _ (by omega), w1], ⟨f2, by rw [e _ (by omega), w2]⟩, ⟨f3, by rw [e _ (by omega), w3]⟩, ⟨f4, by rw [e _ (by omega), w4]⟩, by rw [e _ (by omega), w5], fun i hi => by rw [e _ (by omega), w6 i hi], pa (by omega) (by omega) w7, pa (by omega) (by omega) w8, pa (by omega) (by omega) w9, pa (by omega) (by omega) w10, pa (by omega) (by omega) w11⟩, pa (by omega) (by omega) b4⟩
def inB (m : Nat) (x : Int32) : Bool := decide (0 ≤ x.toInt ∧ x.toInt < m)
theorem inB_t {m j : Nat} (hm : m < 2147483648) (h : j < m) : inB m (nI j) = true := by
  unfold inB
  rw [nI_toInt (by omega)]
  exact decide_eq_true (by omega)
theorem inB_f {m : Nat} (hm : m < 2147483648) {x : Int32} (h : x < 0 ∨ nI m ≤ x) : inB m x = false := by
  unfold inB
  refine decide_eq_false fun q => ?_
  rcases h with h | h
  · have := Int32.lt_iff_toInt_lt.mp h
    rw [show (0 : Int32).toInt = 0 from rfl] at this
    omega
  · have := Int32.le_iff_toInt_le.mp h
    rw [nI_toInt (by omega)] at this
    omega
theorem inB_cases {m : Nat} (hm : m < 2147483648) (x : Int32) : (∃ j, j < m ∧ x = nI j ∧ inB m x = true) ∨ ((x < 0 ∨ nI m ≤ x) ∧ inB m x = false) := by
  rcases pk_ix x (n := m) hm with c | c | ⟨j, hj, e⟩
  · exact Or.inr ⟨Or.inl c, inB_f hm (Or.inl c)⟩
  · exact Or.inr ⟨Or.inr c, inB_f hm (Or.inr c)⟩
  · exact Or.inl ⟨j, hj, e, by rw [e]; exact inB_t hm hj⟩
theorem slotB_eq (x : Int32) : slotB x = inB 6 x := rfl
theorem c_isPoint {σ : aS} {x : Int32} (B : BoardAt h σ) (hP : P (some (.int (nI (b01 (inB σ.1 x))))) N h) : AM X0_isPoint [.ref 4, .int x] N h P := by
  obtain ⟨b1, b2, -, -⟩ := B
  have x5 := b2.1
  have hn := b2.2.2.2.2.2.1
  refine AM.of0 rfl (Nat.le_of_ble_eq_true rfl) rfl [some (.ref 4), some (.int x)] rfl ?_
  have F : inB σ.1 x = false → AW X0_isPoint 19 [some (.ref 4), some (.int x)] [] N (0, 0) h P := by
    intro e
    refine AW.iconst 20 dX0_isPoint_19 rfl (nI 0) rfl ?_
    refine AW.zret dX0_isPoint_20 rfl (by first | exact z_0 | exact z_1 | exact z_b01 _ | assumption) ?_
    rw [b01_f e] at hP
    exact hP
  refine AW.iload_n 1 dX0_isPoint_0 rfl (by rfl) ?_
  refine AW.if_lt 19 4 dX0_isPoint_1 (by decide) rfl (fun c => ?_) (fun c => ?_)
  · exact F (inB_f (by omega) (Or.inl c))
  · refine AW.iload_n 5 dX0_isPoint_4 rfl (by rfl) ?_
    refine AW.aload_n 6 dX0_isPoint_5 rfl (by rfl) ?_
    refine AW.getfield 9 dX0_isPoint_6 rfl fl_X0_12 (by assumption) (by rfl) ?_
    refine AW.getfield 12 dX0_isPoint_9 rfl fl_X0_32 (by assumption) (by rfl) ?_
    refine AW.icmp_ge 19 15 dX0_isPoint_12 (by decide) rfl (fun c2 => ?_) (fun c2 => ?_)
    · exact F (inB_f (by omega) (Or.inr c2))
    · refine AW.iconst 16 dX0_isPoint_15 rfl (nI 1) rfl ?_
      refine AW.goto 20 dX0_isPoint_16 (by decide) ?_
      refine AW.zret dX0_isPoint_20 rfl (by first | exact z_0 | exact z_1 | exact z_b01 _ | assumption) ?_
      rcases inB_cases (m := σ.1) (by omega) x with ⟨j, hj, e, e2⟩ | ⟨z, -⟩
      · rw [b01_t e2] at hP
        exact hP
      · exact absurd z (by rintro (z | z); exact c z; exact c2 z)
theorem c_part {σ : aS} {s : Nat} (B : BoardAt h σ) (hs6 : s < 6) (hP : P (some (.ref (5 + 2 + 2 * s))) N h) : AM X0_part [.ref 4, .int (nI s)] N h P := by
  obtain ⟨b1, b2, -, -⟩ := B
  have x5 := b2.1
  have x6 := b2.2.1
  refine AM.of0 rfl (Nat.le_of_ble_eq_true rfl) rfl [some (.ref 4), some (.int (nI s))] rfl ?_
  refine AW.aload_n 1 dX0_part_0 rfl (by rfl) ?_
  refine AW.getfield 4 dX0_part_1 rfl fl_X0_12 (by assumption) (by rfl) ?_
  refine AW.getfield 7 dX0_part_4 rfl fl_X0_36 (by assumption) (by rfl) ?_
  refine AW.iload_n 8 dX0_part_7 rfl (by rfl) ?_
  refine AW.aaload 9 _ dX0_part_8 rfl (by assumption) (fun _ => rfl) rfl (ix_nI (by omega)) (by omega) (if_pos (show s < 6 by omega)) ?_
  refine AW.aret dX0_part_9 rfl ?_
  exact hP
def upC (σ : aS) (s k : Nat) : aS := (σ.1, upN σ.2.1 s k, σ.2.2)
theorem c_putMade {σ : aS} {s k : Nat} (B : BoardAt h σ) (hm : h 44 = oP σ.1 45) (hq : h 45 = iA 8 (cr σ.1 k)) (hs6 : s < 6) (hP : ∀ h', BoardAt h' (upC σ s k) → h' 44 = oP σ.1 45 → h' 45 = iA 8 (cr σ.1 k) → (∀ z, z < 4 ∨ 46 ≤ z → h' z = h z) → P (some (.int (nI (rankF (cr σ.1 k) σ.1)))) N h') : AM X0_putMade [.ref 4, .int (nI s)] N h P := by
  obtain ⟨b1, b2, w, -⟩ := id B
  have x5 := b2.1
  have x6 := b2.2.1
  have hn := b2.2.2.2.2.2.1
  obtain ⟨p1, p2⟩ := b2.2.2.1 s hs6
  refine AM.of0 rfl (Nat.le_of_ble_eq_true rfl) rfl [some (.ref 4), some (.int (nI s))] rfl ?_
  refine AW.aload_n 1 dX0_putMade_0 rfl (by rfl) ?_
  refine AW.getfield 4 dX0_putMade_1 rfl fl_X0_12 (by assumption) (by rfl) ?_
  refine AW.getfield 7 dX0_putMade_4 rfl fl_X0_36 (by assumption) (by rfl) ?_
  refine AW.iload_n 8 dX0_putMade_7 rfl (by rfl) ?_
  refine AW.aaload 9 _ dX0_putMade_8 rfl (by assumption) (fun _ => rfl) rfl (ix_nI (by omega)) (by omega) (if_pos (show s < 6 by omega)) ?_
  refine AW.aload_n 10 dX0_putMade_9 rfl (by rfl) ?_
  refine AW.getfield 13 dX0_putMade_10 rfl fl_X0_28 (by assumption) (by rfl) ?_
  refine AW.cV1 16 dX0_putMade_13 rfl mi_X3_copy mv_X3_copy lk_X0_85 ⟨(Nat.le_of_ble_eq_true rfl), (Nat.le_of_ble_eq_true rfl)⟩ rfl (by assumption) rfl (Nat.le_of_ble_eq_true rfl) (c_copy p1 p2 hm hq (by omega) (by omega) (fun i hi => by rw [cr_0 _ hn i hi, cr_0 _ hn i hi]) ?_)
  generalize hH : hs (hs h (5 + 2 + 2 * s) (oP σ.1 (5 + 2 + 2 * s + 1))) (5 + 2 + 2 * s + 1) (iA 8 (cr σ.1 k)) = H
  have e1 : ∀ z, z ≠ 5 + 2 + 2 * s → z ≠ 5 + 2 + 2 * s + 1 → H z = h z := fun z z1 z2 => by rw [← hH, hs_ne z2, hs_ne z1]
  have y4 : H 4 = brdO := by rw [e1 _ (by omega) (by omega), b1]
  have y44 : H 44 = oP σ.1 45 := by rw [e1 _ (by omega) (by omega), hm]
  have y45 : H 45 = iA 8 (cr σ.1 k) := by rw [e1 _ (by omega) (by omega), hq]
  refine AW.aload_n 17 dX0_putMade_16 rfl (by rfl) ?_
  refine AW.getfield 20 dX0_putMade_17 rfl fl_X0_28 (by assumption) (by rfl) ?_
  refine AW.cV0 23 dX0_putMade_20 rfl mi_X3_rank mv_X3_rank lk_X0_89 ⟨(Nat.le_of_ble_eq_true rfl), (Nat.le_of_ble_eq_true rfl)⟩ rfl (by assumption) rfl (Nat.le_of_ble_eq_true rfl) (c_rank y44 y45 hn (fun i hi => cr_lt _ _ i (by omega)) ?_)
  refine AW.iret dX0_putMade_23 rfl ?_
  refine hP H ⟨y4, ⟨by rw [e1 _ (by omega) (by omega)]; exact x5, by rw [e1 _ (by omega) (by omega)]; exact x6, fun i hi => ?_, by rw [e1 _ (by omega) (by omega)]; exact b2.2.2.2.1, b2.2.2.2.2⟩, ?_, PartAt.of0 y44 y45 (cr_0 _ hn)⟩ y44 y45 (fun z hz => e1 z (by omega) (by omega))
  · by_cases e : i = s
    · subst e
      refine ⟨by rw [← hH, hs_ne (by omega), hs_eq]; rfl, ?_⟩
      rw [← hH, hs_eq]
      show iA 8 (cr σ.1 k) = iA 8 (cr σ.1 (upN σ.2.1 i k i))
      rw [show upN σ.2.1 i k i = k from if_pos rfl]
    · obtain ⟨q1, q2⟩ := b2.2.2.1 i hi
      refine ⟨by rw [e1 _ (by omega) (by omega), q1]; rfl, ?_⟩
      rw [e1 _ (by omega) (by omega), q2]
      show iA 8 (cr σ.1 (σ.2.1 i)) = iA 8 (cr σ.1 (upN σ.2.1 s k i))
      rw [show upN σ.2.1 s k i = σ.2.1 i from if_neg e]
  · rw [← hH]; exact (w.out (by omega)).out (by omega)
end BOARD
