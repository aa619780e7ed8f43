/-! LATTICE: the object at 20, its rows at 21 to 33, its parts at 34 to 43 -/
def latO : aE := .inr (1, [.ref 21, .ref 22, .ref 23, .ref 24, .ref 34, .ref 36, .ref 38, .ref 40, .ref 42])
def wy : Nat → Nat → Nat
  | 0, d => if d ≤ 8 then 1 else 0
  | r + 1, d => if d ≤ 8 - (r + 1) then cnt (fun c => wy r (c + 1)) (d + 1) else 0
def refs (n b : Nat) : aE := .inl (2, (n, .inr (.inr (.inr (.inr (fun i => if i < n then some (b + 1 + i) else none))))))
def idn (i : Nat) : Nat := if i < 8 then i else 0
def PartAt (h : aH) (p q : Nat) : Prop := ∃ (m : Int32) (f : Nat → Int32), h p = .inr (3, [.int m, .ref q]) ∧ h q = .inl (0, (8, .inl f)) ∧ ∀ i, 8 ≤ i → f i = nI 0
def Row (r : Nat → Nat) : Prop := (∀ x, x < 8 → r x ≤ x) ∧ ∀ x, 8 ≤ x → r x = 0
theorem Row.lt {r : Nat → Nat} (h : Row r) : ∀ x, x < 8 → r x < 8 := fun x hx => by have := h.1 x hx; omega
theorem PartAt.of {h : aH} {p q n : Nat} {r : Nat → Nat} (h1 : h p = oP n q) (h2 : h q = iA 8 r) (hr : Row r) : PartAt h p q := ⟨_, _, h1, h2, fun i hi => by show nI (r i) = nI 0; rw [hr.2 i hi]⟩
theorem Row_idn : Row idn := ⟨fun x hx => by simp [idn, hx], fun x hx => by simp [idn, show ¬ x < 8 by omega]⟩
section LAT
variable {N n : Nat} {h : aH} {r : Nat → Nat} {P : aP}
theorem c_split1 {p q m : Nat} (hm : PartAt h p q) (hpq : p ≠ q) (hP : P none N (hs (hs h p (oP m q)) q (iA 8 idn))) : AM X3_split [.ref p, .int (nI m)] N h P := by
  obtain ⟨m0, f, h1, h2, h3⟩ := hm
  refine c_split m h1 h2 hpq ?_ (fun i hi => by rw [h3 i hi]; rfl)
  rw [show (fun i => if i < 8 then i else (f i).toNatClampNeg) = idn from funext fun i => by
    by_cases c : i < 8
    · simp [idn, c]
    · rw [h3 i (by omega)]; simp [idn, c, nI_clamp]]
  exact hP
def aft (n x : Nat) : Nat := if x + 1 < n then x + 1 else 0
theorem aft_lt {n x : Nat} (h : 0 < n) : aft n x < n := by unfold aft; split <;> omega
theorem c_after {x : Nat} (hx : x < 100) (hn : n < 100) (hP : P (some (.int (nI (aft n x)))) N h) : AM X1_after [.int (nI x), .int (nI n)] N h P := by
  refine AM.of0 rfl (Nat.le_of_ble_eq_true rfl) rfl [some (.int (nI x)), some (.int (nI n))] rfl ?_
  refine AW.iload_n 1 dX1_after_0 rfl (by rfl) ?_
  refine AW.iconst 2 dX1_after_1 rfl (nI 1) rfl ?_
  first | refine AW.iaddN 3 dX1_after_2 rfl ?_ | refine AW.iadd 3 dX1_after_2 rfl ?_
  refine AW.iload_n 4 dX1_after_3 rfl (by rfl) ?_
  refine AW.nge 13 7 dX1_after_4 (by decide) rfl (by omega) (by omega) (fun c => ?_) (fun c => ?_)
  · refine AW.iconst 14 dX1_after_13 rfl (nI 0) rfl ?_
    refine AW.iret dX1_after_14 rfl ?_
    rw [aft, if_neg (by omega)] at hP
    exact hP
  · refine AW.iload_n 8 dX1_after_7 rfl (by rfl) ?_
    refine AW.iconst 9 dX1_after_8 rfl (nI 1) rfl ?_
    first | refine AW.iaddN 10 dX1_after_9 rfl ?_ | refine AW.iadd 10 dX1_after_9 rfl ?_
    refine AW.goto 14 dX1_after_10 (by decide) ?_
    refine AW.iret dX1_after_14 rfl ?_
    rw [aft, if_pos c] at hP
    exact hP
def cycI (s : Nat → Nat) (x : Nat) : Nat → Nat → (Nat → Nat) → (Nat → Nat)
  | 0, _, r => r
  | j + 1, y, r => if y = x then r else cycI s x j (s y) (upN r y x)
def cycO (s : Nat → Nat) (n : Nat) : Nat → (Nat → Nat)
  | 0 => idn
  | x + 1 => if cycO s n x x = x then cycI s x (n - 1) (s x) (cycO s n x) else cycO s n x
def cycF (s : Nat → Nat) (n : Nat) : Nat → Nat := cycO s n n
theorem c_takeCycles {pm qm : Nat} {s : Nat → Nat} {f : Nat → Int32} (hL : h 20 = latO) (h21 : h 21 = .inl (0, (8, .inl f))) (hf : ∀ x, x < n → f x = nI (s x)) (hsn : ∀ x, x < n → s x < n) (hm : PartAt h pm qm) (hd : pm ≠ qm ∧ pm ≠ 20 ∧ pm ≠ 21 ∧ qm ≠ 20 ∧ qm ≠ 21) (hn : n ≤ 8) (hP : P none N (hs (hs h pm (oP n qm)) qm (iA 8 (cycF s n)))) : AM X1_takeCycles [.ref 20, .ref pm, .int (nI n)] N h P := by
  obtain ⟨d1, d2, d3, d4, d5⟩ := hd
  refine AM.of0 rfl (Nat.le_of_ble_eq_true rfl) rfl [some (.ref 20), some (.ref pm), some (.int (nI n)), none, none, none] rfl ?_
  refine AW.aload_n 1 dX1_takeCycles_0 rfl (by rfl) ?_
  refine AW.iload_n 2 dX1_takeCycles_1 rfl (by rfl) ?_
  obtain ⟨m0, fm, g1, g2, g3⟩ := id hm
  refine AW.cV1 5 dX1_takeCycles_2 rfl mi_X3_split mv_X3_split lk_X1_59 ⟨(Nat.le_of_ble_eq_true rfl), (Nat.le_of_ble_eq_true rfl)⟩ rfl (by assumption) rfl (Nat.le_of_ble_eq_true rfl) (c_split1 hm d1 ?_)
  have e20 : ∀ r, (hs (hs h pm (oP n qm)) qm (iA 8 r)) 20 = latO := fun r => by rw [hs_ne (Ne.symm d4), hs_ne (Ne.symm d2), hL]
  have e21 : ∀ r, (hs (hs h pm (oP n qm)) qm (iA 8 r)) 21 = .inl (0, (8, .inl f)) := fun r => by rw [hs_ne (Ne.symm d5), hs_ne (Ne.symm d3), h21]
  have ep : ∀ r, (hs (hs h pm (oP n qm)) qm (iA 8 r)) pm = oP n qm := fun r => by rw [hs_ne d1, hs_eq]
  have eq : ∀ r, (hs (hs h pm (oP n qm)) qm (iA 8 r)) qm = iA 8 r := fun r => by rw [hs_eq]
  refine AW.iconst 6 dX1_takeCycles_5 rfl (nI 0) rfl ?_
  refine AW.istore_n 7 dX1_takeCycles_6 rfl (Nat.le_of_ble_eq_true rfl) rfl ?_
  have L : ∀ k x, x + k = n → ∀ r, r = cycO s n x → (∀ i, i < 8 → r i < 8) → ∀ o1 o2, AW X1_takeCycles 7 [some (.ref 20), some (.ref pm), some (.int (nI n)), some (.int (nI x)), o1, o2] [] N (0, 0) (hs (hs h pm (oP n qm)) qm (iA 8 r)) P := by
    intro k
    induction k with
    | zero =>
      intro x hx r hr hb o1 o2
      refine AW.iload_n 8 dX1_takeCycles_7 rfl (by rfl) ?_
      refine AW.iload_n 9 dX1_takeCycles_8 rfl (by rfl) ?_
      refine AW.nge 72 12 dX1_takeCycles_9 (by decide) rfl (by omega) (by omega) (fun c => ?_) (fun c => ?_)
      · refine AW.vret dX1_takeCycles_72 rfl ?_
        rw [hr, show x = n by omega]
        exact hP
      · omega
    | succ k ih =>
      intro x hx r hr hb o1 o2
      have x20 := e20 r
      have x21 := e21 r
      have xp := ep r
      have xq := eq r
      refine AW.iload_n 8 dX1_takeCycles_7 rfl (by rfl) ?_
      refine AW.iload_n 9 dX1_takeCycles_8 rfl (by rfl) ?_
      refine AW.nge 72 12 dX1_takeCycles_9 (by decide) rfl (by omega) (by omega) (fun c => ?_) (fun c => ?_)
      · omega
      · refine AW.aload_n 13 dX1_takeCycles_12 rfl (by rfl) ?_
        refine AW.iload_n 14 dX1_takeCycles_13 rfl (by rfl) ?_
        refine AW.cV1 17 dX1_takeCycles_14 rfl mi_X3_isLowest mv_X3_isLowest lk_X1_52 ⟨(Nat.le_of_ble_eq_true rfl), (Nat.le_of_ble_eq_true rfl)⟩ rfl (by assumption) rfl (Nat.le_of_ble_eq_true rfl) (c_isLowest xp xq (by omega) (hb x (by omega)) ?_)
        refine AW.zeq 66 20 dX1_takeCycles_17 (by decide) rfl (fun c2 => ?_) (fun c2 => ?_)
        · refine AW.iinc1 69 dX1_takeCycles_66 rfl (by rfl) rfl ?_
          refine AW.goto 7 dX1_takeCycles_69 (by decide) ?_
          refine ih (x + 1) (by omega) r ?_ hb o1 o2
          have c2 : ¬ r x = x := by simpa using c2
          rw [cycO, ← hr, if_neg c2]
        · refine AW.aload_n 21 dX1_takeCycles_20 rfl (by rfl) ?_
          refine AW.getfield 24 dX1_takeCycles_21 rfl fl_X1_9 (by assumption) (by rfl) ?_
          refine AW.iload_n 25 dX1_takeCycles_24 rfl (by rfl) ?_
          refine AW.iaload 26 _ dX1_takeCycles_25 rfl (by assumption) (by first | exact Or.inl rfl | exact Or.inr rfl) (ix_nI (by omega)) (by omega) ?_
          rw [hf x (by omega)]
          refine AW.istore 28 dX1_takeCycles_26 rfl (Nat.le_of_ble_eq_true rfl) rfl ?_
          refine AW.iconst 29 dX1_takeCycles_28 rfl (nI 1) rfl ?_
          refine AW.istore 31 dX1_takeCycles_29 rfl (Nat.le_of_ble_eq_true rfl) rfl ?_
          have c2 : r x = x := by simpa using c2
          have I : ∀ j y r', j + 1 ≤ n → y < n → (∀ i, i < 8 → r' i < 8) → cycI s x j y r' = cycO s n (x + 1) → AW X1_takeCycles 31 [some (.ref 20), some (.ref pm), some (.int (nI n)), some (.int (nI x)), some (.int (nI y)), some (.int (nI (n - j)))] [] N (0, 0) (hs (hs h pm (oP n qm)) qm (iA 8 r')) P := by
            intro j
            induction j with
            | zero =>
              intro y r' hj hy hb' e
              refine AW.iload 33 dX1_takeCycles_31 rfl (by rfl) ?_
              refine AW.iload_n 34 dX1_takeCycles_33 rfl (by rfl) ?_
              refine AW.nge 66 37 dX1_takeCycles_34 (by decide) rfl (by omega) (by omega) (fun c3 => ?_) (fun c3 => ?_)
              · refine AW.iinc1 69 dX1_takeCycles_66 rfl (by rfl) rfl ?_
                refine AW.goto 7 dX1_takeCycles_69 (by decide) ?_
                exact ih (x + 1) (by omega) r' e hb' _ _
              · omega
            | succ j ihj =>
              intro y r' hj hy hb' e
              refine AW.iload 33 dX1_takeCycles_31 rfl (by rfl) ?_
              refine AW.iload_n 34 dX1_takeCycles_33 rfl (by rfl) ?_
              refine AW.nge 66 37 dX1_takeCycles_34 (by decide) rfl (by omega) (by omega) (fun c3 => ?_) (fun c3 => ?_)
              · omega
              · refine AW.iload 39 dX1_takeCycles_37 rfl (by rfl) ?_
                refine AW.iload_n 40 dX1_takeCycles_39 rfl (by rfl) ?_
                refine AW.neq 66 43 dX1_takeCycles_40 (by decide) rfl (by omega) (by omega) (fun c4 => ?_) (fun c4 => ?_)
                · refine AW.iinc1 69 dX1_takeCycles_66 rfl (by rfl) rfl ?_
                  refine AW.goto 7 dX1_takeCycles_69 (by decide) ?_
                  exact ih (x + 1) (by omega) r' (by rw [cycI, if_pos c4] at e; exact e) hb' _ _
                · have x20 := e20 r'
                  have x21 := e21 r'
                  have xp := ep r'
                  have xq := eq r'
                  refine AW.aload_n 44 dX1_takeCycles_43 rfl (by rfl) ?_
                  refine AW.getfield 47 dX1_takeCycles_44 rfl fl_X1_56 (by assumption) (by rfl) ?_
                  refine AW.iload 49 dX1_takeCycles_47 rfl (by rfl) ?_
                  refine AW.iload_n 50 dX1_takeCycles_49 rfl (by rfl) ?_
                  refine AW.iastore 51 _ dX1_takeCycles_50 rfl (by assumption) (ix_nI (by omega)) (by omega) ?_
                  rw [hs_hs, upd_nI]
                  have x20 := e20 (upN r' y x)
                  have x21 := e21 (upN r' y x)
                  refine AW.aload_n 52 dX1_takeCycles_51 rfl (by rfl) ?_
                  refine AW.getfield 55 dX1_takeCycles_52 rfl fl_X1_9 (by assumption) (by rfl) ?_
                  refine AW.iload 57 dX1_takeCycles_55 rfl (by rfl) ?_
                  refine AW.iaload 58 _ dX1_takeCycles_57 rfl (by assumption) (by first | exact Or.inl rfl | exact Or.inr rfl) (ix_nI (by omega)) (by omega) ?_
                  rw [hf y (by omega)]
                  refine AW.istore 60 dX1_takeCycles_58 rfl (Nat.le_of_ble_eq_true rfl) rfl ?_
                  refine AW.iinc1 63 dX1_takeCycles_60 rfl (by rfl) rfl ?_
                  refine AW.goto 31 dX1_takeCycles_63 (by decide) ?_
                  rw [show n - (j + 1) + 1 = n - j by omega]
                  refine ihj (s y) _ (by omega) (hsn y hy) (fun i hi => ?_) (by rw [cycI, if_neg c4] at e; exact e)
                  unfold upN
                  split
                  · omega
                  · exact hb' i hi
          have := I (n - 1) (s x) r (by omega) (hsn x (by omega)) hb (by rw [cycO, ← hr, if_pos c2])
          rw [show n - (n - 1) = 1 by omega] at this
          exact this
  exact L n 0 (by omega) idn rfl (fun i hi => by simp [idn, hi]) none none
theorem cycI_le {s : Nat → Nat} {x n : Nat} (hx : x < 8) (hn : n ≤ 8) (hs : ∀ i, i < n → s i < n) : ∀ (j y : Nat) (r : Nat → Nat), y < n → (∀ i, i < 8 → r i < 8) → (∀ i, 8 ≤ i → r i = 0) → (∀ i, i < 8 → cycI s x j y r i < 8) ∧ ∀ i, 8 ≤ i → cycI s x j y r i = 0 := by
  intro j
  induction j with
  | zero => intro y r _ h1 h2; exact ⟨h1, h2⟩
  | succ j ih =>
    intro y r hy h1 h2
    unfold cycI
    by_cases c : y = x
    · rw [if_pos c]; exact ⟨h1, h2⟩
    · rw [if_neg c]
      refine ih (s y) _ (hs y hy) (fun i hi => ?_) (fun i hi => ?_)
      · unfold upN; split
        · exact hx
        · exact h1 i hi
      · unfold upN; rw [if_neg (by omega)]; exact h2 i hi

def meetF (ra rb : Nat → Nat) (n x : Nat) : Nat := if x < n then fnd (fun y => ra x == ra y && rb x == rb y) x x 0 else idn x
def meetU (ra rb : Nat → Nat) (n x i : Nat) : Nat := if i < x then meetF ra rb n i else idn i
theorem c_meet {pm qm pa qa pb qb : Nat} {ra rb : Nat → Nat} (ha : h pa = oP n qa) (hqa : h qa = iA 8 ra) (hb : h pb = oP n qb) (hqb : h qb = iA 8 rb) (hm : PartAt h pm qm) (hd : pm ≠ qm ∧ pa ≠ pm ∧ pa ≠ qm ∧ qa ≠ pm ∧ qa ≠ qm ∧ pb ≠ pm ∧ pb ≠ qm ∧ qb ≠ pm ∧ qb ≠ qm) (hn : n ≤ 8) (hra : ∀ x, x < 8 → ra x < 8) (hrb : ∀ x, x < 8 → rb x < 8) (hP : P none N (hs (hs h pm (oP n qm)) qm (iA 8 (meetF ra rb n)))) : AM X1_meet [.ref 20, .ref pm, .ref pa, .ref pb] N h P := by
  obtain ⟨d1, d2, d3, d4, d5, d6, d7, d8, d9⟩ := hd
  refine AM.of0 rfl (Nat.le_of_ble_eq_true rfl) rfl [some (.ref 20), some (.ref pm), some (.ref pa), some (.ref pb), none, none] rfl ?_
  refine AW.aload_n 1 dX1_meet_0 rfl (by rfl) ?_
  refine AW.aload_n 2 dX1_meet_1 rfl (by rfl) ?_
  refine AW.getfield 5 dX1_meet_2 rfl fl_X1_48 (by assumption) (by rfl) ?_
  refine AW.cV1 8 dX1_meet_5 rfl mi_X3_split mv_X3_split lk_X1_59 ⟨(Nat.le_of_ble_eq_true rfl), (Nat.le_of_ble_eq_true rfl)⟩ rfl (hm.choose_spec.choose_spec.1) rfl (Nat.le_of_ble_eq_true rfl) (c_split1 hm d1 ?_)
  have ep : ∀ r, (hs (hs h pm (oP n qm)) qm (iA 8 r)) pm = oP n qm := fun r => by rw [hs_ne d1, hs_eq]
  have eq : ∀ r, (hs (hs h pm (oP n qm)) qm (iA 8 r)) qm = iA 8 r := fun r => by rw [hs_eq]
  have ea : ∀ r, (hs (hs h pm (oP n qm)) qm (iA 8 r)) pa = oP n qa := fun r => by rw [hs_ne d3, hs_ne d2, ha]
  have eqa : ∀ r, (hs (hs h pm (oP n qm)) qm (iA 8 r)) qa = iA 8 ra := fun r => by rw [hs_ne d5, hs_ne d4, hqa]
  have eb : ∀ r, (hs (hs h pm (oP n qm)) qm (iA 8 r)) pb = oP n qb := fun r => by rw [hs_ne d7, hs_ne d6, hb]
  have eqb : ∀ r, (hs (hs h pm (oP n qm)) qm (iA 8 r)) qb = iA 8 rb := fun r => by rw [hs_ne d9, hs_ne d8, hqb]
  refine AW.iconst 9 dX1_meet_8 rfl (nI 0) rfl ?_
  refine AW.istore 11 dX1_meet_9 rfl (Nat.le_of_ble_eq_true rfl) rfl ?_
  have L : ∀ k x, x + k = n → ∀ o1, AW X1_meet 11 [some (.ref 20), some (.ref pm), some (.ref pa), some (.ref pb), some (.int (nI x)), o1] [] N (0, 0) (hs (hs h pm (oP n qm)) qm (iA 8 (meetU ra rb n x))) P := by
    intro k
    induction k with
    | zero =>
      intro x hx o1
      have xa := ea (meetU ra rb n x)
      refine AW.iload 13 dX1_meet_11 rfl (by rfl) ?_
      refine AW.aload_n 14 dX1_meet_13 rfl (by rfl) ?_
      refine AW.getfield 17 dX1_meet_14 rfl fl_X1_48 (by assumption) (by rfl) ?_
      refine AW.nge 74 20 dX1_meet_17 (by decide) rfl (by omega) (by omega) (fun c => ?_) (fun c => ?_)
      · refine AW.vret dX1_meet_74 rfl ?_
        rw [show meetU ra rb n x = meetF ra rb n from funext fun i => by
          unfold meetU
          split
          · rfl
          · rw [meetF, if_neg (by omega)]]
        exact hP
      · omega
    | succ k ih =>
      intro x hx o1
      have xa := ea (meetU ra rb n x)
      refine AW.iload 13 dX1_meet_11 rfl (by rfl) ?_
      refine AW.aload_n 14 dX1_meet_13 rfl (by rfl) ?_
      refine AW.getfield 17 dX1_meet_14 rfl fl_X1_48 (by assumption) (by rfl) ?_
      refine AW.nge 74 20 dX1_meet_17 (by decide) rfl (by omega) (by omega) (fun c => ?_) (fun c => ?_)
      · omega
      · have I : ∀ j, j ≤ x → AW X1_meet 26 [some (.ref 20), some (.ref pm), some (.ref pa), some (.ref pb), some (.int (nI x)), some (.int (nI j - nI 1))] [] N (0, 0) (hs (hs h pm (oP n qm)) qm (iA 8 (upN (meetU ra rb n x) x (fnd (fun y => ra x == ra y && rb x == rb y) x (x - j) j)))) P := by
          intro j
          induction j with
          | zero =>
            intro hj
            refine AW.iload 28 dX1_meet_26 rfl (by rfl) ?_
            refine AW.if_lt 68 31 dX1_meet_28 (by decide) rfl (fun c2 => ?_) (fun c2 => ?_)
            · refine AW.iinc1 71 dX1_meet_68 rfl (by rfl) rfl ?_
              refine AW.goto 11 dX1_meet_71 (by decide) ?_
              rw [show upN (meetU ra rb n x) x (fnd (fun y => ra x == ra y && rb x == rb y) x (x - 0) 0) = meetU ra rb n (x + 1) from funext fun i => by
                unfold upN meetU
                by_cases e : i = x
                · subst e; rw [if_pos rfl, if_pos (by omega), meetF, if_pos c]; rfl
                · rw [if_neg e]
                  by_cases e2 : i < x
                  · rw [if_pos e2, if_pos (by omega)]
                  · rw [if_neg e2, if_neg (by omega)]]
              exact ih (x + 1) (by omega) _
            · exact absurd (by decide) c2
          | succ j ihj =>
            intro hj
            rw [show nI (j + 1) - nI 1 = nI j from nI_pred j]
            have e2 : ∀ d, fnd (fun y => ra x == ra y && rb x == rb y) d (x - j) j = if ra x == ra j && rb x == rb j then j else fnd (fun y => ra x == ra y && rb x == rb y) d (x - (j + 1)) (j + 1) := fun d => by
              rw [show x - j = (x - (j + 1)) + 1 by omega]; rfl
            have ihj := ihj (by omega)
            rw [e2] at ihj
            generalize hv : fnd (fun y => ra x == ra y && rb x == rb y) x (x - (j + 1)) (j + 1) = v at ihj ⊢
            have xa := ea (upN (meetU ra rb n x) x v)
            have xqa := eqa (upN (meetU ra rb n x) x v)
            have xb := eb (upN (meetU ra rb n x) x v)
            have xqb := eqb (upN (meetU ra rb n x) x v)
            have xp := ep (upN (meetU ra rb n x) x v)
            have xq := eq (upN (meetU ra rb n x) x v)
            refine AW.iload 28 dX1_meet_26 rfl (by rfl) ?_
            refine AW.if_lt 68 31 dX1_meet_28 (by decide) rfl (fun c2 => ?_) (fun c2 => ?_)
            · exact absurd c2 (nI_pos (by omega))
            · refine AW.aload_n 32 dX1_meet_31 rfl (by rfl) ?_
              refine AW.iload 34 dX1_meet_32 rfl (by rfl) ?_
              refine AW.iload 36 dX1_meet_34 rfl (by rfl) ?_
              refine AW.cV2 39 dX1_meet_36 rfl mi_X3_areTogether mv_X3_areTogether lk_X1_63 ⟨(Nat.le_of_ble_eq_true rfl), (Nat.le_of_ble_eq_true rfl)⟩ rfl (by assumption) rfl (Nat.le_of_ble_eq_true rfl) (c_areTogether xa xqa (by omega) (by omega) (hra x (by omega)) (hra j (by omega)) ?_)
              refine AW.zeq 62 42 dX1_meet_39 (by decide) rfl (fun c3 => ?_) (fun c3 => ?_)
              · refine AW.iincm 65 dX1_meet_62 rfl (by rfl) rfl ?_
                refine AW.goto 26 dX1_meet_65 (by decide) ?_
                rw [c3] at ihj
                exact ihj
              · refine AW.aload_n 43 dX1_meet_42 rfl (by rfl) ?_
                refine AW.iload 45 dX1_meet_43 rfl (by rfl) ?_
                refine AW.iload 47 dX1_meet_45 rfl (by rfl) ?_
                refine AW.cV2 50 dX1_meet_47 rfl mi_X3_areTogether mv_X3_areTogether lk_X1_63 ⟨(Nat.le_of_ble_eq_true rfl), (Nat.le_of_ble_eq_true rfl)⟩ rfl (by assumption) rfl (Nat.le_of_ble_eq_true rfl) (c_areTogether xb xqb (by omega) (by omega) (hrb x (by omega)) (hrb j (by omega)) ?_)
                refine AW.zeq 62 53 dX1_meet_50 (by decide) rfl (fun c4 => ?_) (fun c4 => ?_)
                · refine AW.iincm 65 dX1_meet_62 rfl (by rfl) rfl ?_
                  refine AW.goto 26 dX1_meet_65 (by decide) ?_
                  rw [c3, c4] at ihj
                  exact ihj
                · refine AW.aload_n 54 dX1_meet_53 rfl (by rfl) ?_
                  refine AW.getfield 57 dX1_meet_54 rfl fl_X1_56 (by assumption) (by rfl) ?_
                  refine AW.iload 59 dX1_meet_57 rfl (by rfl) ?_
                  refine AW.iload 61 dX1_meet_59 rfl (by rfl) ?_
                  refine AW.iastore 62 _ dX1_meet_61 rfl (by assumption) (ix_nI (by omega)) (by omega) ?_
                  rw [hs_hs, upd_nI]
                  refine AW.iincm 65 dX1_meet_62 rfl (by rfl) rfl ?_
                  refine AW.goto 26 dX1_meet_65 (by decide) ?_
                  rw [c3, c4] at ihj
                  rw [show upN (upN (meetU ra rb n x) x v) x j = upN (meetU ra rb n x) x j from funext fun i => by unfold upN; split <;> simp_all]
                  exact ihj
        refine AW.iload 22 dX1_meet_20 rfl (by rfl) ?_
        refine AW.iconst 23 dX1_meet_22 rfl (nI 1) rfl ?_
        refine AW.isub 24 dX1_meet_23 rfl ?_
        refine AW.istore 26 dX1_meet_24 rfl (Nat.le_of_ble_eq_true rfl) rfl ?_
        have := I x (Nat.le_refl x)
        rw [Nat.sub_self, show fnd (fun y => ra x == ra y && rb x == rb y) x 0 x = x from rfl, show upN (meetU ra rb n x) x x = meetU ra rb n x from funext fun i => by
          unfold upN meetU
          by_cases e : i = x
          · subst e; rw [if_pos rfl, if_neg (by omega), idn, if_pos (by omega)]
          · rw [if_neg e]] at this
        exact this
  have := L n 0 (by omega) none
  rw [show meetU ra rb n 0 = idn from funext fun i => by simp [meetU]] at this
  exact this
def stO (f : Nat → Int32) : aE := .inl (0, (8, .inl f))
def compS (r : Nat → Nat) (n x : Nat) : Nat := prevF r n (aft n x)
def compF (r : Nat → Nat) (n : Nat) : Nat → Nat := cycF (compS r n) n
theorem fndD_lt {p : Nat → Bool} {d n : Nat} (hd : d < n) : ∀ k s, s < n → fndD p d k s < n
  | 0, _, _ => hd
  | k + 1, s, hs => by
    unfold fndD
    split
    · exact hs
    · exact fndD_lt hd k (s - 1) (by omega)
theorem fnd_lt {p : Nat → Bool} {d n : Nat} (hd : d < n) : ∀ k s, s + k ≤ n → fnd p d k s < n
  | 0, _, _ => hd
  | k + 1, s, hs => by
    unfold fnd
    split
    · omega
    · exact fnd_lt hd k (s + 1) (by omega)
theorem prevF_lt {r : Nat → Nat} {n x : Nat} (h : x < n) : prevF r n x < n := fndD_lt (fndD_lt h _ _ (by omega)) _ _ (by omega)
theorem nextF_lt {r : Nat → Nat} {n x : Nat} (h : x < n) (hr : r x < n) : nextF r n x < n := fnd_lt hr _ _ (by omega)
theorem fill_step {f : Nat → Int32} {s : Nat → Nat} {x : Nat} (hf : ∀ i, i < x → f i = nI (s i)) : ∀ i, i < x + 1 → upd f x (nI (s x)) i = nI (s i) := fun i hi => by
  unfold upd
  by_cases e : i = x
  · subst e; rw [if_pos rfl]
  · rw [if_neg e]; exact hf i (by omega)
theorem c_complement {pm qm pa qa : Nat} {f : Nat → Int32} (hL : h 20 = latO) (h21 : h 21 = stO f) (ha : h pa = oP n qa) (hqa : h qa = iA 8 r) (hm : PartAt h pm qm) (hd : pm ≠ qm ∧ pm ≠ 20 ∧ pm ≠ 21 ∧ qm ≠ 20 ∧ qm ≠ 21 ∧ pa ≠ 21 ∧ qa ≠ 21) (hn : n ≤ 8) (hr : ∀ x, x < n → r x < 8) (hP : ∀ f, P none N (hs (hs (hs h 21 (stO f)) pm (oP n qm)) qm (iA 8 (compF r n)))) : AM X1_complement [.ref 20, .ref pm, .ref pa] N h P := by
  obtain ⟨d1, d2, d3, d4, d5, d6, d7⟩ := hd
  refine AM.of0 rfl (Nat.le_of_ble_eq_true rfl) rfl [some (.ref 20), some (.ref pm), some (.ref pa), none] rfl ?_
  have L : ∀ k x, x + k = n → ∀ f, (∀ i, i < x → f i = nI (compS r n i)) → AW X1_complement 2 [some (.ref 20), some (.ref pm), some (.ref pa), some (.int (nI x))] [] N (0, 0) (hs h 21 (stO f)) P := by
    intro k
    induction k with
    | zero =>
      intro x hx f hf
      have xa : hs h 21 (stO f) pa = oP n qa := by rw [hs_ne d6, ha]
      have x20 : hs h 21 (stO f) 20 = latO := by rw [hs_ne (by decide), hL]
      refine AW.iload_n 3 dX1_complement_2 rfl (by rfl) ?_
      refine AW.aload_n 4 dX1_complement_3 rfl (by rfl) ?_
      refine AW.getfield 7 dX1_complement_4 rfl fl_X1_48 (by assumption) (by rfl) ?_
      refine AW.nge 34 10 dX1_complement_7 (by decide) rfl (by omega) (by omega) (fun c => ?_) (fun c => ?_)
      · refine AW.aload_n 35 dX1_complement_34 rfl (by rfl) ?_
        refine AW.aload_n 36 dX1_complement_35 rfl (by rfl) ?_
        refine AW.aload_n 37 dX1_complement_36 rfl (by rfl) ?_
        refine AW.getfield 40 dX1_complement_37 rfl fl_X1_48 (by assumption) (by rfl) ?_
        refine AW.cV2 43 dX1_complement_40 rfl mi_X1_takeCycles mv_X1_takeCycles lk_X1_86 ⟨(Nat.le_of_ble_eq_true rfl), (Nat.le_of_ble_eq_true rfl)⟩ rfl (by assumption) rfl (Nat.le_of_ble_eq_true rfl) (c_takeCycles (s := compS r n) x20 (hs_eq _ _ _) (fun i hi => hf i (by omega)) (fun i hi => prevF_lt (aft_lt (by omega))) ?_ ⟨d1, d2, d3, d4, d5⟩ hn ?_)
        · obtain ⟨m, g, q1, q2, q3⟩ := hm
          exact ⟨m, g, by rw [hs_ne d3, q1], by rw [hs_ne d5, q2], q3⟩
        · refine AW.vret dX1_complement_43 rfl ?_
          exact hP f
      · omega
    | succ k ih =>
      intro x hx f hf
      have xa : hs h 21 (stO f) pa = oP n qa := by rw [hs_ne d6, ha]
      have xqa : hs h 21 (stO f) qa = iA 8 r := by rw [hs_ne d7, hqa]
      have x20 : hs h 21 (stO f) 20 = latO := by rw [hs_ne (by decide), hL]
      have x21 : hs h 21 (stO f) 21 = stO f := hs_eq _ _ _
      refine AW.iload_n 3 dX1_complement_2 rfl (by rfl) ?_
      refine AW.aload_n 4 dX1_complement_3 rfl (by rfl) ?_
      refine AW.getfield 7 dX1_complement_4 rfl fl_X1_48 (by assumption) (by rfl) ?_
      refine AW.nge 34 10 dX1_complement_7 (by decide) rfl (by omega) (by omega) (fun c => ?_) (fun c => ?_)
      · omega
      · refine AW.aload_n 11 dX1_complement_10 rfl (by rfl) ?_
        refine AW.getfield 14 dX1_complement_11 rfl fl_X1_9 (by assumption) (by rfl) ?_
        refine AW.iload_n 15 dX1_complement_14 rfl (by rfl) ?_
        refine AW.aload_n 16 dX1_complement_15 rfl (by rfl) ?_
        refine AW.iload_n 17 dX1_complement_16 rfl (by rfl) ?_
        refine AW.aload_n 18 dX1_complement_17 rfl (by rfl) ?_
        refine AW.getfield 21 dX1_complement_18 rfl fl_X1_48 (by assumption) (by rfl) ?_
        refine AW.cS2 24 dX1_complement_21 rfl mi_X1_after ms_X1_after lk_X1_78 ⟨(Nat.le_of_ble_eq_true rfl), (Nat.le_of_ble_eq_true rfl)⟩ rfl (Nat.le_of_ble_eq_true rfl) (c_after (by omega) (by omega) ?_)
        refine AW.cV1 27 dX1_complement_24 rfl mi_X3_previous mv_X3_previous lk_X1_82 ⟨(Nat.le_of_ble_eq_true rfl), (Nat.le_of_ble_eq_true rfl)⟩ rfl (by assumption) rfl (Nat.le_of_ble_eq_true rfl) (c_previous xa xqa hn (aft_lt (by omega)) hr ?_)
        refine AW.iastore 28 _ dX1_complement_27 rfl (by assumption) (ix_nI (by omega)) (by omega) ?_
        refine AW.iinc1 31 dX1_complement_28 rfl (by rfl) rfl ?_
        refine AW.goto 2 dX1_complement_31 (by decide) ?_
        refine AW.heap _ (hs_hs _ _ _ _) ?_
        exact ih (x + 1) (by omega) (upd f x (nI (compS r n x))) (fill_step hf)
  refine AW.iconst 1 dX1_complement_0 rfl (nI 0) rfl ?_
  refine AW.istore_n 2 dX1_complement_1 rfl (Nat.le_of_ble_eq_true rfl) rfl ?_
  have := L n 0 (by omega) f (fun i hi => by omega)
  rw [hs_self h21] at this
  exact this
def unS (r : Nat → Nat) (n y : Nat) : Nat := aft n (prevF r n y)
def unF (r : Nat → Nat) (n : Nat) : Nat → Nat := cycF (unS r n) n
theorem c_uncomplement {pm qm pa qa : Nat} {f : Nat → Int32} (hL : h 20 = latO) (h21 : h 21 = stO f) (ha : h pa = oP n qa) (hqa : h qa = iA 8 r) (hm : PartAt h pm qm) (hd : pm ≠ qm ∧ pm ≠ 20 ∧ pm ≠ 21 ∧ qm ≠ 20 ∧ qm ≠ 21 ∧ pa ≠ 21 ∧ qa ≠ 21) (hn : n ≤ 8) (hr : ∀ x, x < n → r x < 8) (hP : ∀ f, P none N (hs (hs (hs h 21 (stO f)) pm (oP n qm)) qm (iA 8 (unF r n)))) : AM X1_uncomplement [.ref 20, .ref pm, .ref pa] N h P := by
  obtain ⟨d1, d2, d3, d4, d5, d6, d7⟩ := hd
  refine AM.of0 rfl (Nat.le_of_ble_eq_true rfl) rfl [some (.ref 20), some (.ref pm), some (.ref pa), none] rfl ?_
  have L : ∀ k x, x + k = n → ∀ f, (∀ i, i < x → f i = nI (unS r n i)) → AW X1_uncomplement 2 [some (.ref 20), some (.ref pm), some (.ref pa), some (.int (nI x))] [] N (0, 0) (hs h 21 (stO f)) P := by
    intro k
    induction k with
    | zero =>
      intro x hx f hf
      have xa : hs h 21 (stO f) pa = oP n qa := by rw [hs_ne d6, ha]
      have x20 : hs h 21 (stO f) 20 = latO := by rw [hs_ne (by decide), hL]
      refine AW.iload_n 3 dX1_uncomplement_2 rfl (by rfl) ?_
      refine AW.aload_n 4 dX1_uncomplement_3 rfl (by rfl) ?_
      refine AW.getfield 7 dX1_uncomplement_4 rfl fl_X1_48 (by assumption) (by rfl) ?_
      refine AW.nge 34 10 dX1_uncomplement_7 (by decide) rfl (by omega) (by omega) (fun c => ?_) (fun c => ?_)
      · refine AW.aload_n 35 dX1_uncomplement_34 rfl (by rfl) ?_
        refine AW.aload_n 36 dX1_uncomplement_35 rfl (by rfl) ?_
        refine AW.aload_n 37 dX1_uncomplement_36 rfl (by rfl) ?_
        refine AW.getfield 40 dX1_uncomplement_37 rfl fl_X1_48 (by assumption) (by rfl) ?_
        refine AW.cV2 43 dX1_uncomplement_40 rfl mi_X1_takeCycles mv_X1_takeCycles lk_X1_86 ⟨(Nat.le_of_ble_eq_true rfl), (Nat.le_of_ble_eq_true rfl)⟩ rfl (by assumption) rfl (Nat.le_of_ble_eq_true rfl) (c_takeCycles (s := unS r n) x20 (hs_eq _ _ _) (fun i hi => hf i (by omega)) (fun i hi => aft_lt (by omega)) ?_ ⟨d1, d2, d3, d4, d5⟩ hn ?_)
        · obtain ⟨m, g, q1, q2, q3⟩ := hm
          exact ⟨m, g, by rw [hs_ne d3, q1], by rw [hs_ne d5, q2], q3⟩
        · refine AW.vret dX1_uncomplement_43 rfl ?_
          exact hP f
      · omega
    | succ k ih =>
      intro x hx f hf
      have xa : hs h 21 (stO f) pa = oP n qa := by rw [hs_ne d6, ha]
      have xqa : hs h 21 (stO f) qa = iA 8 r := by rw [hs_ne d7, hqa]
      have x20 : hs h 21 (stO f) 20 = latO := by rw [hs_ne (by decide), hL]
      have x21 : hs h 21 (stO f) 21 = stO f := hs_eq _ _ _
      refine AW.iload_n 3 dX1_uncomplement_2 rfl (by rfl) ?_
      refine AW.aload_n 4 dX1_uncomplement_3 rfl (by rfl) ?_
      refine AW.getfield 7 dX1_uncomplement_4 rfl fl_X1_48 (by assumption) (by rfl) ?_
      refine AW.nge 34 10 dX1_uncomplement_7 (by decide) rfl (by omega) (by omega) (fun c => ?_) (fun c => ?_)
      · omega
      · refine AW.aload_n 11 dX1_uncomplement_10 rfl (by rfl) ?_
        refine AW.getfield 14 dX1_uncomplement_11 rfl fl_X1_9 (by assumption) (by rfl) ?_
        refine AW.iload_n 15 dX1_uncomplement_14 rfl (by rfl) ?_
        refine AW.aload_n 16 dX1_uncomplement_15 rfl (by rfl) ?_
        refine AW.iload_n 17 dX1_uncomplement_16 rfl (by rfl) ?_
        refine AW.cV1 20 dX1_uncomplement_17 rfl mi_X3_previous mv_X3_previous lk_X1_82 ⟨(Nat.le_of_ble_eq_true rfl), (Nat.le_of_ble_eq_true rfl)⟩ rfl (by assumption) rfl (Nat.le_of_ble_eq_true rfl) (c_previous xa xqa hn (by omega) hr ?_)
        have hpl := prevF_lt (r := r) (n := n) (x := x) (by omega)
        refine AW.aload_n 21 dX1_uncomplement_20 rfl (by rfl) ?_
        refine AW.getfield 24 dX1_uncomplement_21 rfl fl_X1_48 (by assumption) (by rfl) ?_
        refine AW.cS2 27 dX1_uncomplement_24 rfl mi_X1_after ms_X1_after lk_X1_78 ⟨(Nat.le_of_ble_eq_true rfl), (Nat.le_of_ble_eq_true rfl)⟩ rfl (Nat.le_of_ble_eq_true rfl) (c_after (by omega) (by omega) ?_)
        refine AW.iastore 28 _ dX1_uncomplement_27 rfl (by assumption) (ix_nI (by omega)) (by omega) ?_
        refine AW.iinc1 31 dX1_uncomplement_28 rfl (by rfl) rfl ?_
        refine AW.goto 2 dX1_uncomplement_31 (by decide) ?_
        refine AW.heap _ (hs_hs _ _ _ _) ?_
        exact ih (x + 1) (by omega) (upd f x (nI (unS r n x))) (fill_step hf)
  refine AW.iconst 1 dX1_uncomplement_0 rfl (nI 0) rfl ?_
  refine AW.istore_n 2 dX1_uncomplement_1 rfl (Nat.le_of_ble_eq_true rfl) rfl ?_
  have := L n 0 (by omega) f (fun i hi => by omega)
  rw [hs_self h21] at this
  exact this
def insS (r r2 : Nat → Nat) (n x : Nat) : Nat := prevF r n (nextF r2 n x)
def insF (r r2 : Nat → Nat) (n : Nat) : Nat → Nat := cycF (insS r r2 n) n
theorem c_complementInside {pm qm pa qa pb qb : Nat} {r2 : Nat → Nat} {f : Nat → Int32} (hL : h 20 = latO) (h21 : h 21 = stO f) (ha : h pa = oP n qa) (hqa : h qa = iA 8 r) (hb : h pb = oP n qb) (hqb : h qb = iA 8 r2) (hm : PartAt h pm qm) (hd : pm ≠ qm ∧ pm ≠ 20 ∧ pm ≠ 21 ∧ qm ≠ 20 ∧ qm ≠ 21 ∧ pa ≠ 21 ∧ qa ≠ 21 ∧ pb ≠ 21 ∧ qb ≠ 21) (hn : n ≤ 8) (hr : ∀ x, x < n → r x < 8) (hr2 : ∀ x, x < n → r2 x < n) (hP : ∀ f, P none N (hs (hs (hs h 21 (stO f)) pm (oP n qm)) qm (iA 8 (insF r r2 n)))) : AM X1_complementInside [.ref 20, .ref pm, .ref pa, .ref pb] N h P := by
  obtain ⟨d1, d2, d3, d4, d5, d6, d7, d8, d9⟩ := hd
  refine AM.of0 rfl (Nat.le_of_ble_eq_true rfl) rfl [some (.ref 20), some (.ref pm), some (.ref pa), some (.ref pb), none] rfl ?_
  have L : ∀ k x, x + k = n → ∀ f, (∀ i, i < x → f i = nI (insS r r2 n i)) → AW X1_complementInside 3 [some (.ref 20), some (.ref pm), some (.ref pa), some (.ref pb), some (.int (nI x))] [] N (0, 0) (hs h 21 (stO f)) P := by
    intro k
    induction k with
    | zero =>
      intro x hx f hf
      have xa : hs h 21 (stO f) pa = oP n qa := by rw [hs_ne d6, ha]
      have x20 : hs h 21 (stO f) 20 = latO := by rw [hs_ne (by decide), hL]
      refine AW.iload 5 dX1_complementInside_3 rfl (by rfl) ?_
      refine AW.aload_n 6 dX1_complementInside_5 rfl (by rfl) ?_
      refine AW.getfield 9 dX1_complementInside_6 rfl fl_X1_48 (by assumption) (by rfl) ?_
      refine AW.nge 35 12 dX1_complementInside_9 (by decide) rfl (by omega) (by omega) (fun c => ?_) (fun c => ?_)
      · refine AW.aload_n 36 dX1_complementInside_35 rfl (by rfl) ?_
        refine AW.aload_n 37 dX1_complementInside_36 rfl (by rfl) ?_
        refine AW.aload_n 38 dX1_complementInside_37 rfl (by rfl) ?_
        refine AW.getfield 41 dX1_complementInside_38 rfl fl_X1_48 (by assumption) (by rfl) ?_
        refine AW.cV2 44 dX1_complementInside_41 rfl mi_X1_takeCycles mv_X1_takeCycles lk_X1_86 ⟨(Nat.le_of_ble_eq_true rfl), (Nat.le_of_ble_eq_true rfl)⟩ rfl (by assumption) rfl (Nat.le_of_ble_eq_true rfl) (c_takeCycles (s := insS r r2 n) x20 (hs_eq _ _ _) (fun i hi => hf i (by omega)) (fun i hi => prevF_lt (nextF_lt hi (hr2 i hi))) ?_ ⟨d1, d2, d3, d4, d5⟩ hn ?_)
        · obtain ⟨m, g, q1, q2, q3⟩ := hm
          exact ⟨m, g, by rw [hs_ne d3, q1], by rw [hs_ne d5, q2], q3⟩
        · refine AW.vret dX1_complementInside_44 rfl ?_
          exact hP f
      · omega
    | succ k ih =>
      intro x hx f hf
      have xa : hs h 21 (stO f) pa = oP n qa := by rw [hs_ne d6, ha]
      have xqa : hs h 21 (stO f) qa = iA 8 r := by rw [hs_ne d7, hqa]
      have xb : hs h 21 (stO f) pb = oP n qb := by rw [hs_ne d8, hb]
      have xqb : hs h 21 (stO f) qb = iA 8 r2 := by rw [hs_ne d9, hqb]
      have x20 : hs h 21 (stO f) 20 = latO := by rw [hs_ne (by decide), hL]
      have x21 : hs h 21 (stO f) 21 = stO f := hs_eq _ _ _
      refine AW.iload 5 dX1_complementInside_3 rfl (by rfl) ?_
      refine AW.aload_n 6 dX1_complementInside_5 rfl (by rfl) ?_
      refine AW.getfield 9 dX1_complementInside_6 rfl fl_X1_48 (by assumption) (by rfl) ?_
      refine AW.nge 35 12 dX1_complementInside_9 (by decide) rfl (by omega) (by omega) (fun c => ?_) (fun c => ?_)
      · omega
      · refine AW.aload_n 13 dX1_complementInside_12 rfl (by rfl) ?_
        refine AW.getfield 16 dX1_complementInside_13 rfl fl_X1_9 (by assumption) (by rfl) ?_
        refine AW.iload 18 dX1_complementInside_16 rfl (by rfl) ?_
        refine AW.aload_n 19 dX1_complementInside_18 rfl (by rfl) ?_
        refine AW.aload_n 20 dX1_complementInside_19 rfl (by rfl) ?_
        refine AW.iload 22 dX1_complementInside_20 rfl (by rfl) ?_
        refine AW.cV1 25 dX1_complementInside_22 rfl mi_X3_next mv_X3_next lk_X1_90 ⟨(Nat.le_of_ble_eq_true rfl), (Nat.le_of_ble_eq_true rfl)⟩ rfl (by assumption) rfl (Nat.le_of_ble_eq_true rfl) (c_next xb xqb hn (by omega) (fun i hi => by have := hr2 i hi; omega) ?_)
        refine AW.cV1 28 dX1_complementInside_25 rfl mi_X3_previous mv_X3_previous lk_X1_82 ⟨(Nat.le_of_ble_eq_true rfl), (Nat.le_of_ble_eq_true rfl)⟩ rfl (by assumption) rfl (Nat.le_of_ble_eq_true rfl) (c_previous xa xqa hn (nextF_lt (by omega) (hr2 x (by omega))) hr ?_)
        refine AW.iastore 29 _ dX1_complementInside_28 rfl (by assumption) (ix_nI (by omega)) (by omega) ?_
        refine AW.iinc1 32 dX1_complementInside_29 rfl (by rfl) rfl ?_
        refine AW.goto 3 dX1_complementInside_32 (by decide) ?_
        refine AW.heap _ (hs_hs _ _ _ _) ?_
        exact ih (x + 1) (by omega) (upd f x (nI (insS r r2 n x))) (fill_step hf)
  refine AW.iconst 1 dX1_complementInside_0 rfl (nI 0) rfl ?_
  refine AW.istore 3 dX1_complementInside_1 rfl (Nat.le_of_ble_eq_true rfl) rfl ?_
  have := L n 0 (by omega) f (fun i hi => by omega)
  rw [hs_self h21] at this
  exact this
def bef (n x : Nat) : Nat := if x = 0 then n - 1 else x - 1
def trnS (r : Nat → Nat) (n x : Nat) : Nat := aft n (nextF r n (bef n x))
def trnF (r : Nat → Nat) (n : Nat) : Nat → Nat := cycF (trnS r n) n
theorem c_turn {pm qm pa qa : Nat} {f : Nat → Int32} (hL : h 20 = latO) (h21 : h 21 = stO f) (ha : h pa = oP n qa) (hqa : h qa = iA 8 r) (hm : PartAt h pm qm) (hd : pm ≠ qm ∧ pm ≠ 20 ∧ pm ≠ 21 ∧ qm ≠ 20 ∧ qm ≠ 21 ∧ pa ≠ 21 ∧ qa ≠ 21) (hn : n ≤ 8) (hr : ∀ x, x < n → r x < n) (hP : ∀ f, P none N (hs (hs (hs h 21 (stO f)) pm (oP n qm)) qm (iA 8 (trnF r n)))) : AM X1_turn [.ref 20, .ref pm, .ref pa] N h P := by
  obtain ⟨d1, d2, d3, d4, d5, d6, d7⟩ := hd
  refine AM.of0 rfl (Nat.le_of_ble_eq_true rfl) rfl [some (.ref 20), some (.ref pm), some (.ref pa), none] rfl ?_
  have L : ∀ k x, x + k = n → ∀ f, (∀ i, i < x → f (aft n i) = nI (aft n (nextF r n i))) → AW X1_turn 2 [some (.ref 20), some (.ref pm), some (.ref pa), some (.int (nI x))] [] N (0, 0) (hs h 21 (stO f)) P := by
    intro k
    induction k with
    | zero =>
      intro x hx f hf
      have xa : hs h 21 (stO f) pa = oP n qa := by rw [hs_ne d6, ha]
      have x20 : hs h 21 (stO f) 20 = latO := by rw [hs_ne (by decide), hL]
      refine AW.iload_n 3 dX1_turn_2 rfl (by rfl) ?_
      refine AW.aload_n 4 dX1_turn_3 rfl (by rfl) ?_
      refine AW.getfield 7 dX1_turn_4 rfl fl_X1_48 (by assumption) (by rfl) ?_
      refine AW.nge 41 10 dX1_turn_7 (by decide) rfl (by omega) (by omega) (fun c => ?_) (fun c => ?_)
      · refine AW.aload_n 42 dX1_turn_41 rfl (by rfl) ?_
        refine AW.aload_n 43 dX1_turn_42 rfl (by rfl) ?_
        refine AW.aload_n 44 dX1_turn_43 rfl (by rfl) ?_
        refine AW.getfield 47 dX1_turn_44 rfl fl_X1_48 (by assumption) (by rfl) ?_
        refine AW.cV2 50 dX1_turn_47 rfl mi_X1_takeCycles mv_X1_takeCycles lk_X1_86 ⟨(Nat.le_of_ble_eq_true rfl), (Nat.le_of_ble_eq_true rfl)⟩ rfl (by assumption) rfl (Nat.le_of_ble_eq_true rfl) (c_takeCycles (s := trnS r n) x20 (hs_eq _ _ _) ?_ (fun i hi => aft_lt (by omega)) ?_ ⟨d1, d2, d3, d4, d5⟩ hn ?_)
        · intro i hi
          have := hf (bef n i) (by unfold bef; split <;> omega)
          rw [show aft n (bef n i) = i by unfold aft bef; split <;> split <;> omega] at this
          exact this
        · obtain ⟨m, g, q1, q2, q3⟩ := hm
          exact ⟨m, g, by rw [hs_ne d3, q1], by rw [hs_ne d5, q2], q3⟩
        · refine AW.vret dX1_turn_50 rfl ?_
          exact hP f
      · omega
    | succ k ih =>
      intro x hx f hf
      have xa : hs h 21 (stO f) pa = oP n qa := by rw [hs_ne d6, ha]
      have xqa : hs h 21 (stO f) qa = iA 8 r := by rw [hs_ne d7, hqa]
      have x20 : hs h 21 (stO f) 20 = latO := by rw [hs_ne (by decide), hL]
      have x21 : hs h 21 (stO f) 21 = stO f := hs_eq _ _ _
      refine AW.iload_n 3 dX1_turn_2 rfl (by rfl) ?_
      refine AW.aload_n 4 dX1_turn_3 rfl (by rfl) ?_
      refine AW.getfield 7 dX1_turn_4 rfl fl_X1_48 (by assumption) (by rfl) ?_
      refine AW.nge 41 10 dX1_turn_7 (by decide) rfl (by omega) (by omega) (fun c => ?_) (fun c => ?_)
      · omega
      · have hnl := nextF_lt (r := r) c (hr x c)
        have hal := aft_lt (n := n) (x := x) (by omega)
        refine AW.aload_n 11 dX1_turn_10 rfl (by rfl) ?_
        refine AW.getfield 14 dX1_turn_11 rfl fl_X1_9 (by assumption) (by rfl) ?_
        refine AW.iload_n 15 dX1_turn_14 rfl (by rfl) ?_
        refine AW.aload_n 16 dX1_turn_15 rfl (by rfl) ?_
        refine AW.getfield 19 dX1_turn_16 rfl fl_X1_48 (by assumption) (by rfl) ?_
        refine AW.cS2 22 dX1_turn_19 rfl mi_X1_after ms_X1_after lk_X1_78 ⟨(Nat.le_of_ble_eq_true rfl), (Nat.le_of_ble_eq_true rfl)⟩ rfl (Nat.le_of_ble_eq_true rfl) (c_after (by omega) (by omega) ?_)
        refine AW.aload_n 23 dX1_turn_22 rfl (by rfl) ?_
        refine AW.iload_n 24 dX1_turn_23 rfl (by rfl) ?_
        refine AW.cV1 27 dX1_turn_24 rfl mi_X3_next mv_X3_next lk_X1_90 ⟨(Nat.le_of_ble_eq_true rfl), (Nat.le_of_ble_eq_true rfl)⟩ rfl (by assumption) rfl (Nat.le_of_ble_eq_true rfl) (c_next xa xqa hn c (fun i hi => by have := hr i hi; omega) ?_)
        refine AW.aload_n 28 dX1_turn_27 rfl (by rfl) ?_
        refine AW.getfield 31 dX1_turn_28 rfl fl_X1_48 (by assumption) (by rfl) ?_
        refine AW.cS2 34 dX1_turn_31 rfl mi_X1_after ms_X1_after lk_X1_78 ⟨(Nat.le_of_ble_eq_true rfl), (Nat.le_of_ble_eq_true rfl)⟩ rfl (Nat.le_of_ble_eq_true rfl) (c_after (by omega) (by omega) ?_)
        refine AW.iastore 35 _ dX1_turn_34 rfl (by assumption) (ix_nI (by omega)) (by omega) ?_
        refine AW.iinc1 38 dX1_turn_35 rfl (by rfl) rfl ?_
        refine AW.goto 2 dX1_turn_38 (by decide) ?_
        refine AW.heap _ (hs_hs _ _ _ _) ?_
        refine ih (x + 1) (by omega) (upd f (aft n x) (nI (aft n (nextF r n x)))) (fun i hi => ?_)
        unfold upd
        by_cases e : i = x
        · subst e; rw [if_pos rfl]
        · rw [if_neg (by unfold aft; split <;> split <;> omega)]
          exact hf i (by omega)
  refine AW.iconst 1 dX1_turn_0 rfl (nI 0) rfl ?_
  refine AW.istore_n 2 dX1_turn_1 rfl (Nat.le_of_ble_eq_true rfl) rfl ?_
  have := L n 0 (by omega) f (fun i hi => by omega)
  rw [hs_self h21] at this
  exact this
end LAT
