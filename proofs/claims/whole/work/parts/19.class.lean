/-! THE CLASS: its state is (state, (calls that can be undone, the states before them, the latest first), (bads, nos, fulls), (text, length)) -/
abbrev aX : Type := aS × (Nat × (Nat → aS)) × (Nat × Nat × Nat) × ((Nat → Nat) × Nat)
def clsO (b no fu : Nat) : aE := .inr (7, [.ref 4, .ref 46, .ref 138, .ref 182, .int (nI b), .int (nI no), .int (nI fu)])
def UndAt (h : aH) (u : Nat × (Nat → aS)) : Prop := ∃ (nx : Nat) (ring : Nat → aS), PastAt h nx u.1 ring ∧ ∀ j, j < u.1 → ring ((nx + 5 - j) % 6) = u.2 j
def ClsAt (h : aH) (X : aX) : Prop := h 0 = sA catN ∧ h 1 = sA lngN ∧ h 3 = clsO X.2.2.1.1 X.2.2.1.2.1 X.2.2.1.2.2 ∧ BoardAt h X.1 ∧ UndAt h X.2.1 ∧ (∃ a fd lt vl, OrdAt h X.2.2.2.1 X.2.2.2.2 a fd lt vl) ∧ ∃ w g m R, SerAt h w g m R
def FrC (h h' : aH) : Prop := ∀ z, z < 3 ∨ 196 ≤ z → h' z = h z
def psU (u : Nat × (Nat → aS)) (σ : aS) : Nat × (Nat → aS) := (hdU u.1, fun j => if j = 0 then σ else u.2 (j - 1))
def ppU (u : Nat × (Nat → aS)) : Nat × (Nat → aS) := (u.1 - 1, fun j => u.2 (j + 1))
/-- a change's end: its error counted, or the state before it kept -/
def stl (X : aX) (r : Int32 × aS) : Int32 × aX := if r.1 = -2 then (r.1, (r.2, X.2.1, (X.2.2.1.1 + 1, X.2.2.1.2), X.2.2.2)) else (r.1, (r.2, psU X.2.1 X.1, X.2.2))
def badX (X : aX) : Int32 × aX := (-2, (X.1, X.2.1, (X.2.2.1.1 + 1, X.2.2.1.2), X.2.2.2))
def noX (X : aX) : Int32 × aX := (-3, (X.1, X.2.1, (X.2.2.1.1, X.2.2.1.2.1 + 1, X.2.2.1.2.2), X.2.2.2))
def fulX (X : aX) : Int32 × aX := (-4, (X.1, X.2.1, (X.2.2.1.1, X.2.2.1.2.1, X.2.2.1.2.2 + 1), X.2.2.2))
section CLS
variable {N : Nat} {h : aH} {P : aP} {X : aX}
theorem UndAt.same {h' : aH} {u : Nat × (Nat → aS)} (U : UndAt h u) (e : ∀ z, 46 ≤ z → z < 138 → h' z = h z) : UndAt h' u := by
  obtain ⟨nx, ring, p, q⟩ := U
  exact ⟨nx, ring, p.same e, q⟩
theorem ClsAt.brd {h' : aH} (K : ClsAt h X) (B : BoardAt h' X.1) (e : FrB h h') : ClsAt h' X := by
  obtain ⟨k0, k1, k3, -, u, ⟨a, fd, lt, vl, o⟩, w, g, m, R, s⟩ := K
  exact ⟨by rw [e 0 (by omega), k0], by rw [e 1 (by omega), k1], by rw [e 3 (by omega), k3], B, u.same (fun z z1 z2 => e z (by omega)), ⟨a, fd, lt, vl, o.same (fun z z1 z2 => e z (by omega))⟩, w, g, m, R, s.same (fun z z1 z2 => e z (by omega))⟩
theorem FrB.c {h h' : aH} (e : FrB h h') : FrC h h' := fun z hz => e z (by omega)
theorem ClsAt.cnt {c : Nat × Nat × Nat} (K : ClsAt h X) : ClsAt (hs h 3 (clsO c.1 c.2.1 c.2.2)) (X.1, X.2.1, c, X.2.2.2) := by
  obtain ⟨k0, k1, k3, b, u, ⟨a, fd, lt, vl, o⟩, w, g, m, R, s⟩ := K
  have e : ∀ z, z ≠ 3 → hs h 3 (clsO c.1 c.2.1 c.2.2) z = h z := fun z hz => hs_ne hz
  refine ⟨by rw [e 0 (by omega), k0], by rw [e 1 (by omega), k1], hs_eq _ _ _, ?_, u.same (fun z z1 z2 => e z (by omega)), ⟨a, fd, lt, vl, o.same (fun z z1 z2 => e z (by omega))⟩, w, g, m, R, s.same (fun z z1 z2 => e z (by omega))⟩
  obtain ⟨b1, b2, lw, b4⟩ := b
  exact ⟨by rw [e 4 (by omega), b1], b2.same (fun z z1 z2 => e z (by omega)), lw.out (by omega), b4.ne (by omega) (by omega)⟩
theorem c_bad (K : ClsAt h X) (hP : ∀ h', ClsAt h' (badX X).2 → FrC h h' → P (some (.int (badX X).1)) N h') : AM X7_bad [.ref 3] N h P := by
  have k3 := K.2.2.1
  refine AM.of0 rfl (Nat.le_of_ble_eq_true rfl) rfl [some (.ref 3)] rfl ?_
  refine AW.aload_n 1 dX7_bad_0 rfl (by rfl) ?_
  refine AW.dup 2 dX7_bad_1 rfl rfl ?_
  refine AW.getfield 5 dX7_bad_2 rfl fl_X7_37 (by assumption) (by rfl) ?_
  refine AW.iconst 6 dX7_bad_5 rfl (nI 1) rfl ?_
  first | refine AW.iaddN 7 dX7_bad_6 rfl ?_ | refine AW.iadd 7 dX7_bad_6 rfl ?_
  refine AW.putfield 10 dX7_bad_7 rfl fl_X7_37 (by assumption) (Nat.le_of_ble_eq_true rfl) (fun _ => ⟨rfl, rfl⟩) ?_
  refine AW.heap (hs h 3 (clsO (X.2.2.1.1 + 1) X.2.2.1.2.1 X.2.2.1.2.2)) rfl ?_
  refine AW.bipush 12 dX7_bad_10 rfl (-2) rfl ?_
  refine AW.iret dX7_bad_12 rfl ?_
  exact hP _ (K.cnt (c := (X.2.2.1.1 + 1, X.2.2.1.2))) (fun z hz => hs_ne (by omega))
theorem c_no (K : ClsAt h X) (hP : ∀ h', ClsAt h' (noX X).2 → FrC h h' → P (some (.int (noX X).1)) N h') : AM X7_no [.ref 3] N h P := by
  have k3 := K.2.2.1
  refine AM.of0 rfl (Nat.le_of_ble_eq_true rfl) rfl [some (.ref 3)] rfl ?_
  refine AW.aload_n 1 dX7_no_0 rfl (by rfl) ?_
  refine AW.dup 2 dX7_no_1 rfl rfl ?_
  refine AW.getfield 5 dX7_no_2 rfl fl_X7_41 (by assumption) (by rfl) ?_
  refine AW.iconst 6 dX7_no_5 rfl (nI 1) rfl ?_
  first | refine AW.iaddN 7 dX7_no_6 rfl ?_ | refine AW.iadd 7 dX7_no_6 rfl ?_
  refine AW.putfield 10 dX7_no_7 rfl fl_X7_41 (by assumption) (Nat.le_of_ble_eq_true rfl) (fun _ => ⟨rfl, rfl⟩) ?_
  refine AW.heap (hs h 3 (clsO X.2.2.1.1 (X.2.2.1.2.1 + 1) X.2.2.1.2.2)) rfl ?_
  refine AW.bipush 12 dX7_no_10 rfl (-3) rfl ?_
  refine AW.iret dX7_no_12 rfl ?_
  exact hP _ (K.cnt (c := (X.2.2.1.1, X.2.2.1.2.1 + 1, X.2.2.1.2.2))) (fun z hz => hs_ne (by omega))
/-- while a change is made: the state before it lies in the ring, at its next place -/
def MidAt (h : aH) (X : aX) (σ : aS) : Prop := h 0 = sA catN ∧ h 1 = sA lngN ∧ h 3 = clsO X.2.2.1.1 X.2.2.1.2.1 X.2.2.1.2.2 ∧ BoardAt h σ ∧ (∃ nx ring, PastAt h nx X.2.1.1 ring ∧ (∀ j, j < X.2.1.1 → ring ((nx + 5 - j) % 6) = X.2.1.2 j) ∧ ring nx = X.1) ∧ (∃ a fd lt vl, OrdAt h X.2.2.2.1 X.2.2.2.2 a fd lt vl) ∧ ∃ w g m R, SerAt h w g m R
theorem MidAt.brd {h' : aH} {σ τ : aS} (K : MidAt h X σ) (B : BoardAt h' τ) (e : FrB h h') : MidAt h' X τ := by
  obtain ⟨k0, k1, k3, -, ⟨nx, ring, u1, u2, u3⟩, ⟨a, fd, lt, vl, o⟩, w, g, m, R, s⟩ := K
  exact ⟨by rw [e 0 (by omega), k0], by rw [e 1 (by omega), k1], by rw [e 3 (by omega), k3], B, ⟨nx, ring, u1.same (fun z z1 z2 => e z (by omega)), u2, u3⟩, ⟨a, fd, lt, vl, o.same (fun z z1 z2 => e z (by omega))⟩, w, g, m, R, s.same (fun z z1 z2 => e z (by omega))⟩
theorem MidAt.cls {σ : aS} (K : MidAt h X σ) : ClsAt h (σ, X.2) := by
  obtain ⟨k0, k1, k3, b, ⟨nx, ring, u1, u2, u3⟩, o, s⟩ := K
  exact ⟨k0, k1, k3, b, ⟨nx, ring, u1, u2⟩, o, s⟩
theorem c_prep (K : ClsAt h X) (hP : ∀ h', MidAt h' X X.1 → (∀ z, z < 46 ∨ 138 ≤ z → h' z = h z) → P none N h') : AM X4_prepare [.ref 46, .ref 5] N h P := by
  obtain ⟨k0, k1, k3, b, ⟨nx, ring, u1, u2⟩, ⟨a, fd, lt, vl, o⟩, w, g, m, R, s⟩ := K
  have hnx := u1.2.2.2.1
  have hhd := u1.2.2.2.2
  refine c_prepare u1 b.2.1 (fun h' q e => ?_)
  refine hP h' ⟨by rw [e 0 (by omega), k0], by rw [e 1 (by omega), k1], by rw [e 3 (by omega), k3], b.same (fun z hz => e z (by omega)), ⟨nx, upS ring nx X.1, q, fun j hj => ?_, by rw [upS, if_pos rfl]⟩, ⟨a, fd, lt, vl, o.same (fun z z1 z2 => e z (by omega))⟩, w, g, m, R, s.same (fun z z1 z2 => e z (by omega))⟩ e
  rw [upS, if_neg (by omega)]
  exact u2 j hj
theorem keep_und {nx hd : Nat} {ring : Nat → aS} {u : Nat → aS} (hnx : nx < 6) (hhd : hd ≤ 5) (h2 : ∀ j, j < hd → ring ((nx + 5 - j) % 6) = u j) : ∀ j, j < hdU hd → ring ((nxU nx + 5 - j) % 6) = if j = 0 then ring nx else u (j - 1) := by
  intro j hj
  have hj5 : j < 5 ∧ j ≤ hd := by unfold hdU at hj; split at hj <;> omega
  have e : (nxU nx + 5 - j) % 6 = if j = 0 then nx else (nx + 5 - (j - 1)) % 6 := by unfold nxU; split <;> split <;> omega
  rw [e]
  split
  · rfl
  · exact h2 (j - 1) (by omega)
theorem c_settled {r : Int32 × aS} (K : MidAt h X r.2) (hP : ∀ h', ClsAt h' (stl X r).2 → FrC h h' → P (some (.int (stl X r).1)) N h') : AM X7_settled [.ref 3, .int r.1] N h P := by
  obtain ⟨k0, k1, k3, b, ⟨nx, ring, u1, u2, u3⟩, ⟨a, fd, lt, vl, o⟩, w, g, m, R, s⟩ := id K
  refine AM.of0 rfl (Nat.le_of_ble_eq_true rfl) rfl [some (.ref 3), some (.int r.1)] rfl ?_
  refine AW.iload_n 1 dX7_settled_0 rfl (by rfl) ?_
  refine AW.bipush 3 dX7_settled_1 rfl (-2) rfl ?_
  refine AW.icmp_ne 19 6 dX7_settled_3 (by decide) rfl (fun c => ?_) (fun c => ?_)
  · refine AW.aload_n 20 dX7_settled_19 rfl (by rfl) ?_
    refine AW.getfield 23 dX7_settled_20 rfl fl_X7_19 (by assumption) (by rfl) ?_
    have x46 := u1.1
    refine AW.cV0 26 dX7_settled_23 rfl mi_X4_keep mv_X4_keep lk_X7_210 ⟨(Nat.le_of_ble_eq_true rfl), (Nat.le_of_ble_eq_true rfl)⟩ rfl (by assumption) rfl (Nat.le_of_ble_eq_true rfl) (c_keep u1 (fun h' q e => ?_))
    rw [stl, if_neg c] at hP
    have B' : BoardAt h' r.2 := b.same (fun z hz => e z (by omega))
    refine AW.iload_n 27 dX7_settled_26 rfl (by rfl) ?_
    refine AW.iret dX7_settled_27 rfl ?_
    refine hP h' ⟨by rw [e 0 (by omega), k0], by rw [e 1 (by omega), k1], by rw [e 3 (by omega), k3], B', ⟨_, ring, q, ?_⟩, ⟨a, fd, lt, vl, o.same (fun z z1 z2 => e z (by omega))⟩, w, g, m, R, s.same (fun z z1 z2 => e z (by omega))⟩ (fun z hz => e z (by omega))
    intro j hj
    rw [keep_und u1.2.2.2.1 u1.2.2.2.2 u2 j hj, u3]
    rfl
  · rw [stl, if_pos c] at hP
    refine AW.aload_n 7 dX7_settled_6 rfl (by rfl) ?_
    refine AW.dup 8 dX7_settled_7 rfl rfl ?_
    refine AW.getfield 11 dX7_settled_8 rfl fl_X7_37 (by assumption) (by rfl) ?_
    refine AW.iconst 12 dX7_settled_11 rfl (nI 1) rfl ?_
    first | refine AW.iaddN 13 dX7_settled_12 rfl ?_ | refine AW.iadd 13 dX7_settled_12 rfl ?_
    refine AW.putfield 16 dX7_settled_13 rfl fl_X7_37 (by assumption) (Nat.le_of_ble_eq_true rfl) (fun _ => ⟨rfl, rfl⟩) ?_
    refine AW.heap (hs h 3 (clsO (X.2.2.1.1 + 1) X.2.2.1.2.1 X.2.2.1.2.2)) rfl ?_
    refine AW.goto 26 dX7_settled_16 (by decide) ?_
    refine AW.iload_n 27 dX7_settled_26 rfl (by rfl) ?_
    refine AW.iret dX7_settled_27 rfl ?_
    exact hP _ (K.cls.cnt (c := (X.2.2.1.1 + 1, X.2.2.1.2))) (fun z hz => hs_ne (by omega))
theorem c_points {k : Int32} (K : ClsAt h X) (hP : ∀ h', ClsAt h' (stl X (pointR X.1 k)).2 → FrC h h' → P (some (.int (stl X (pointR X.1 k)).1)) N h') : AM X7_points [.ref 3, .int k] N h P := by
  have k3 := K.2.2.1
  have k4 := K.2.2.2.1.1
  have k46 : ∃ nx, h 46 = pastO nx X.2.1.1 := by obtain ⟨nx, ring, u, -⟩ := K.2.2.2.2.1; exact ⟨nx, u.1⟩
  obtain ⟨nx0, k46⟩ := k46
  refine AM.of0 rfl (Nat.le_of_ble_eq_true rfl) rfl [some (.ref 3), some (.int k)] rfl ?_
  refine AW.aload_n 1 dX7_points_0 rfl (by rfl) ?_
  refine AW.getfield 4 dX7_points_1 rfl fl_X7_19 (by assumption) (by rfl) ?_
  refine AW.aload_n 5 dX7_points_4 rfl (by rfl) ?_
  refine AW.getfield 8 dX7_points_5 rfl fl_X7_10 (by assumption) (by rfl) ?_
  refine AW.getfield 11 dX7_points_8 rfl fl_X7_47 (by assumption) (by rfl) ?_
  refine AW.cV1 14 dX7_points_11 rfl mi_X4_prepare mv_X4_prepare lk_X7_51 ⟨(Nat.le_of_ble_eq_true rfl), (Nat.le_of_ble_eq_true rfl)⟩ rfl (by assumption) rfl (Nat.le_of_ble_eq_true rfl) (c_prep K (fun h1 K1 f1 => ?_))
  have y3 := K1.2.2.1
  have y4 := K1.2.2.2.1.1
  refine AW.aload_n 15 dX7_points_14 rfl (by rfl) ?_
  refine AW.aload_n 16 dX7_points_15 rfl (by rfl) ?_
  refine AW.getfield 19 dX7_points_16 rfl fl_X7_10 (by assumption) (by rfl) ?_
  refine AW.iload_n 20 dX7_points_19 rfl (by rfl) ?_
  refine AW.cV1 23 dX7_points_20 rfl mi_X0_changePoints mv_X0_changePoints lk_X7_55 ⟨(Nat.le_of_ble_eq_true rfl), (Nat.le_of_ble_eq_true rfl)⟩ rfl (by assumption) rfl (Nat.le_of_ble_eq_true rfl) (c_changePoints K1.2.2.2.1 (fun h2 B2 f2 => ?_))
  have K2 := K1.brd B2 f2
  have z3 := K2.2.2.1
  refine AW.cV1 26 dX7_points_23 rfl mi_X7_settled mv_X7_settled lk_X7_59 ⟨(Nat.le_of_ble_eq_true rfl), (Nat.le_of_ble_eq_true rfl)⟩ rfl (by assumption) rfl (Nat.le_of_ble_eq_true rfl) (c_settled K2 (fun h3 K3 f3 => ?_))
  refine AW.iret dX7_points_26 rfl ?_
  exact hP h3 K3 (fun z hz => by rw [f3 z hz, f2 z (by omega), f1 z (by omega)])
theorem c_puts {s x y : Int32} (K : ClsAt h X) (hP : ∀ h', ClsAt h' (stl X (uniteR X.1 s x y)).2 → FrC h h' → P (some (.int (stl X (uniteR X.1 s x y)).1)) N h') : AM X7_puts [.ref 3, .int s, .int x, .int y] N h P := by
  have k3 := K.2.2.1
  have k4 := K.2.2.2.1.1
  have k46 : ∃ nx, h 46 = pastO nx X.2.1.1 := by obtain ⟨nx, ring, u, -⟩ := K.2.2.2.2.1; exact ⟨nx, u.1⟩
  obtain ⟨nx0, k46⟩ := k46
  refine AM.of0 rfl (Nat.le_of_ble_eq_true rfl) rfl [some (.ref 3), some (.int s), some (.int x), some (.int y)] rfl ?_
  refine AW.aload_n 1 dX7_puts_0 rfl (by rfl) ?_
  refine AW.getfield 4 dX7_puts_1 rfl fl_X7_19 (by assumption) (by rfl) ?_
  refine AW.aload_n 5 dX7_puts_4 rfl (by rfl) ?_
  refine AW.getfield 8 dX7_puts_5 rfl fl_X7_10 (by assumption) (by rfl) ?_
  refine AW.getfield 11 dX7_puts_8 rfl fl_X7_47 (by assumption) (by rfl) ?_
  refine AW.cV1 14 dX7_puts_11 rfl mi_X4_prepare mv_X4_prepare lk_X7_51 ⟨(Nat.le_of_ble_eq_true rfl), (Nat.le_of_ble_eq_true rfl)⟩ rfl (by assumption) rfl (Nat.le_of_ble_eq_true rfl) (c_prep K (fun h1 K1 f1 => ?_))
  have y3 := K1.2.2.1
  have y4 := K1.2.2.2.1.1
  refine AW.aload_n 15 dX7_puts_14 rfl (by rfl) ?_
  refine AW.aload_n 16 dX7_puts_15 rfl (by rfl) ?_
  refine AW.getfield 19 dX7_puts_16 rfl fl_X7_10 (by assumption) (by rfl) ?_
  refine AW.iload_n 20 dX7_puts_19 rfl (by rfl) ?_
  refine AW.iload_n 21 dX7_puts_20 rfl (by rfl) ?_
  refine AW.iload_n 22 dX7_puts_21 rfl (by rfl) ?_
  refine AW.cV3 25 dX7_puts_22 rfl mi_X0_unite mv_X0_unite lk_X7_62 ⟨(Nat.le_of_ble_eq_true rfl), (Nat.le_of_ble_eq_true rfl)⟩ rfl (by assumption) rfl (Nat.le_of_ble_eq_true rfl) (c_unite K1.2.2.2.1 (fun h2 B2 f2 => ?_))
  have K2 := K1.brd B2 f2
  have z3 := K2.2.2.1
  refine AW.cV1 28 dX7_puts_25 rfl mi_X7_settled mv_X7_settled lk_X7_59 ⟨(Nat.le_of_ble_eq_true rfl), (Nat.le_of_ble_eq_true rfl)⟩ rfl (by assumption) rfl (Nat.le_of_ble_eq_true rfl) (c_settled K2 (fun h3 K3 f3 => ?_))
  refine AW.iret dX7_puts_28 rfl ?_
  exact hP h3 K3 (fun z hz => by rw [f3 z hz, f2 z (by omega), f1 z (by omega)])
theorem c_meets {s a b : Int32} (K : ClsAt h X) (hP : ∀ h', ClsAt h' (stl X (meetR X.1 s a b)).2 → FrC h h' → P (some (.int (stl X (meetR X.1 s a b)).1)) N h') : AM X7_meets [.ref 3, .int s, .int a, .int b] N h P := by
  have k3 := K.2.2.1
  have k4 := K.2.2.2.1.1
  have k46 : ∃ nx, h 46 = pastO nx X.2.1.1 := by obtain ⟨nx, ring, u, -⟩ := K.2.2.2.2.1; exact ⟨nx, u.1⟩
  obtain ⟨nx0, k46⟩ := k46
  refine AM.of0 rfl (Nat.le_of_ble_eq_true rfl) rfl [some (.ref 3), some (.int s), some (.int a), some (.int b)] rfl ?_
  refine AW.aload_n 1 dX7_meets_0 rfl (by rfl) ?_
  refine AW.getfield 4 dX7_meets_1 rfl fl_X7_19 (by assumption) (by rfl) ?_
  refine AW.aload_n 5 dX7_meets_4 rfl (by rfl) ?_
  refine AW.getfield 8 dX7_meets_5 rfl fl_X7_10 (by assumption) (by rfl) ?_
  refine AW.getfield 11 dX7_meets_8 rfl fl_X7_47 (by assumption) (by rfl) ?_
  refine AW.cV1 14 dX7_meets_11 rfl mi_X4_prepare mv_X4_prepare lk_X7_51 ⟨(Nat.le_of_ble_eq_true rfl), (Nat.le_of_ble_eq_true rfl)⟩ rfl (by assumption) rfl (Nat.le_of_ble_eq_true rfl) (c_prep K (fun h1 K1 f1 => ?_))
  have y3 := K1.2.2.1
  have y4 := K1.2.2.2.1.1
  refine AW.aload_n 15 dX7_meets_14 rfl (by rfl) ?_
  refine AW.aload_n 16 dX7_meets_15 rfl (by rfl) ?_
  refine AW.getfield 19 dX7_meets_16 rfl fl_X7_10 (by assumption) (by rfl) ?_
  refine AW.iload_n 20 dX7_meets_19 rfl (by rfl) ?_
  refine AW.iload_n 21 dX7_meets_20 rfl (by rfl) ?_
  refine AW.iload_n 22 dX7_meets_21 rfl (by rfl) ?_
  refine AW.cV3 25 dX7_meets_22 rfl mi_X0_putMeet mv_X0_putMeet lk_X7_66 ⟨(Nat.le_of_ble_eq_true rfl), (Nat.le_of_ble_eq_true rfl)⟩ rfl (by assumption) rfl (Nat.le_of_ble_eq_true rfl) (c_putMeet K1.2.2.2.1 (fun h2 B2 f2 => ?_))
  have K2 := K1.brd B2 f2
  have z3 := K2.2.2.1
  refine AW.cV1 28 dX7_meets_25 rfl mi_X7_settled mv_X7_settled lk_X7_59 ⟨(Nat.le_of_ble_eq_true rfl), (Nat.le_of_ble_eq_true rfl)⟩ rfl (by assumption) rfl (Nat.le_of_ble_eq_true rfl) (c_settled K2 (fun h3 K3 f3 => ?_))
  refine AW.iret dX7_meets_28 rfl ?_
  exact hP h3 K3 (fun z hz => by rw [f3 z hz, f2 z (by omega), f1 z (by omega)])
theorem c_joins {s a b : Int32} (K : ClsAt h X) (hP : ∀ h', ClsAt h' (stl X (joinR X.1 s a b)).2 → FrC h h' → P (some (.int (stl X (joinR X.1 s a b)).1)) N h') : AM X7_joins [.ref 3, .int s, .int a, .int b] N h P := by
  have k3 := K.2.2.1
  have k4 := K.2.2.2.1.1
  have k46 : ∃ nx, h 46 = pastO nx X.2.1.1 := by obtain ⟨nx, ring, u, -⟩ := K.2.2.2.2.1; exact ⟨nx, u.1⟩
  obtain ⟨nx0, k46⟩ := k46
  refine AM.of0 rfl (Nat.le_of_ble_eq_true rfl) rfl [some (.ref 3), some (.int s), some (.int a), some (.int b)] rfl ?_
  refine AW.aload_n 1 dX7_joins_0 rfl (by rfl) ?_
  refine AW.getfield 4 dX7_joins_1 rfl fl_X7_19 (by assumption) (by rfl) ?_
  refine AW.aload_n 5 dX7_joins_4 rfl (by rfl) ?_
  refine AW.getfield 8 dX7_joins_5 rfl fl_X7_10 (by assumption) (by rfl) ?_
  refine AW.getfield 11 dX7_joins_8 rfl fl_X7_47 (by assumption) (by rfl) ?_
  refine AW.cV1 14 dX7_joins_11 rfl mi_X4_prepare mv_X4_prepare lk_X7_51 ⟨(Nat.le_of_ble_eq_true rfl), (Nat.le_of_ble_eq_true rfl)⟩ rfl (by assumption) rfl (Nat.le_of_ble_eq_true rfl) (c_prep K (fun h1 K1 f1 => ?_))
  have y3 := K1.2.2.1
  have y4 := K1.2.2.2.1.1
  refine AW.aload_n 15 dX7_joins_14 rfl (by rfl) ?_
  refine AW.aload_n 16 dX7_joins_15 rfl (by rfl) ?_
  refine AW.getfield 19 dX7_joins_16 rfl fl_X7_10 (by assumption) (by rfl) ?_
  refine AW.iload_n 20 dX7_joins_19 rfl (by rfl) ?_
  refine AW.iload_n 21 dX7_joins_20 rfl (by rfl) ?_
  refine AW.iload_n 22 dX7_joins_21 rfl (by rfl) ?_
  refine AW.cV3 25 dX7_joins_22 rfl mi_X0_putJoin mv_X0_putJoin lk_X7_69 ⟨(Nat.le_of_ble_eq_true rfl), (Nat.le_of_ble_eq_true rfl)⟩ rfl (by assumption) rfl (Nat.le_of_ble_eq_true rfl) (c_putJoin K1.2.2.2.1 (fun h2 B2 f2 => ?_))
  have K2 := K1.brd B2 f2
  have z3 := K2.2.2.1
  refine AW.cV1 28 dX7_joins_25 rfl mi_X7_settled mv_X7_settled lk_X7_59 ⟨(Nat.le_of_ble_eq_true rfl), (Nat.le_of_ble_eq_true rfl)⟩ rfl (by assumption) rfl (Nat.le_of_ble_eq_true rfl) (c_settled K2 (fun h3 K3 f3 => ?_))
  refine AW.iret dX7_joins_28 rfl ?_
  exact hP h3 K3 (fun z hz => by rw [f3 z hz, f2 z (by omega), f1 z (by omega)])
theorem c_complements {s a : Int32} (K : ClsAt h X) (hP : ∀ h', ClsAt h' (stl X (compR X.1 s a)).2 → FrC h h' → P (some (.int (stl X (compR X.1 s a)).1)) N h') : AM X7_complements [.ref 3, .int s, .int a] N h P := by
  have k3 := K.2.2.1
  have k4 := K.2.2.2.1.1
  have k46 : ∃ nx, h 46 = pastO nx X.2.1.1 := by obtain ⟨nx, ring, u, -⟩ := K.2.2.2.2.1; exact ⟨nx, u.1⟩
  obtain ⟨nx0, k46⟩ := k46
  refine AM.of0 rfl (Nat.le_of_ble_eq_true rfl) rfl [some (.ref 3), some (.int s), some (.int a)] rfl ?_
  refine AW.aload_n 1 dX7_complements_0 rfl (by rfl) ?_
  refine AW.getfield 4 dX7_complements_1 rfl fl_X7_19 (by assumption) (by rfl) ?_
  refine AW.aload_n 5 dX7_complements_4 rfl (by rfl) ?_
  refine AW.getfield 8 dX7_complements_5 rfl fl_X7_10 (by assumption) (by rfl) ?_
  refine AW.getfield 11 dX7_complements_8 rfl fl_X7_47 (by assumption) (by rfl) ?_
  refine AW.cV1 14 dX7_complements_11 rfl mi_X4_prepare mv_X4_prepare lk_X7_51 ⟨(Nat.le_of_ble_eq_true rfl), (Nat.le_of_ble_eq_true rfl)⟩ rfl (by assumption) rfl (Nat.le_of_ble_eq_true rfl) (c_prep K (fun h1 K1 f1 => ?_))
  have y3 := K1.2.2.1
  have y4 := K1.2.2.2.1.1
  refine AW.aload_n 15 dX7_complements_14 rfl (by rfl) ?_
  refine AW.aload_n 16 dX7_complements_15 rfl (by rfl) ?_
  refine AW.getfield 19 dX7_complements_16 rfl fl_X7_10 (by assumption) (by rfl) ?_
  refine AW.iload_n 20 dX7_complements_19 rfl (by rfl) ?_
  refine AW.iload_n 21 dX7_complements_20 rfl (by rfl) ?_
  refine AW.cV2 24 dX7_complements_21 rfl mi_X0_putComplement mv_X0_putComplement lk_X7_72 ⟨(Nat.le_of_ble_eq_true rfl), (Nat.le_of_ble_eq_true rfl)⟩ rfl (by assumption) rfl (Nat.le_of_ble_eq_true rfl) (c_putComplement K1.2.2.2.1 (fun h2 B2 f2 => ?_))
  have K2 := K1.brd B2 f2
  have z3 := K2.2.2.1
  refine AW.cV1 27 dX7_complements_24 rfl mi_X7_settled mv_X7_settled lk_X7_59 ⟨(Nat.le_of_ble_eq_true rfl), (Nat.le_of_ble_eq_true rfl)⟩ rfl (by assumption) rfl (Nat.le_of_ble_eq_true rfl) (c_settled K2 (fun h3 K3 f3 => ?_))
  refine AW.iret dX7_complements_27 rfl ?_
  exact hP h3 K3 (fun z hz => by rw [f3 z hz, f2 z (by omega), f1 z (by omega)])
theorem c_turns {s a : Int32} (K : ClsAt h X) (hV : VdS X.1) (hP : ∀ h', ClsAt h' (stl X (turnR X.1 s a)).2 → FrC h h' → P (some (.int (stl X (turnR X.1 s a)).1)) N h') : AM X7_turns [.ref 3, .int s, .int a] N h P := by
  have k3 := K.2.2.1
  have k4 := K.2.2.2.1.1
  have k46 : ∃ nx, h 46 = pastO nx X.2.1.1 := by obtain ⟨nx, ring, u, -⟩ := K.2.2.2.2.1; exact ⟨nx, u.1⟩
  obtain ⟨nx0, k46⟩ := k46
  refine AM.of0 rfl (Nat.le_of_ble_eq_true rfl) rfl [some (.ref 3), some (.int s), some (.int a)] rfl ?_
  refine AW.aload_n 1 dX7_turns_0 rfl (by rfl) ?_
  refine AW.getfield 4 dX7_turns_1 rfl fl_X7_19 (by assumption) (by rfl) ?_
  refine AW.aload_n 5 dX7_turns_4 rfl (by rfl) ?_
  refine AW.getfield 8 dX7_turns_5 rfl fl_X7_10 (by assumption) (by rfl) ?_
  refine AW.getfield 11 dX7_turns_8 rfl fl_X7_47 (by assumption) (by rfl) ?_
  refine AW.cV1 14 dX7_turns_11 rfl mi_X4_prepare mv_X4_prepare lk_X7_51 ⟨(Nat.le_of_ble_eq_true rfl), (Nat.le_of_ble_eq_true rfl)⟩ rfl (by assumption) rfl (Nat.le_of_ble_eq_true rfl) (c_prep K (fun h1 K1 f1 => ?_))
  have y3 := K1.2.2.1
  have y4 := K1.2.2.2.1.1
  refine AW.aload_n 15 dX7_turns_14 rfl (by rfl) ?_
  refine AW.aload_n 16 dX7_turns_15 rfl (by rfl) ?_
  refine AW.getfield 19 dX7_turns_16 rfl fl_X7_10 (by assumption) (by rfl) ?_
  refine AW.iload_n 20 dX7_turns_19 rfl (by rfl) ?_
  refine AW.iload_n 21 dX7_turns_20 rfl (by rfl) ?_
  refine AW.cV2 24 dX7_turns_21 rfl mi_X0_putTurned mv_X0_putTurned lk_X7_76 ⟨(Nat.le_of_ble_eq_true rfl), (Nat.le_of_ble_eq_true rfl)⟩ rfl (by assumption) rfl (Nat.le_of_ble_eq_true rfl) (c_putTurned K1.2.2.2.1 hV (fun h2 B2 f2 => ?_))
  have K2 := K1.brd B2 f2
  have z3 := K2.2.2.1
  refine AW.cV1 27 dX7_turns_24 rfl mi_X7_settled mv_X7_settled lk_X7_59 ⟨(Nat.le_of_ble_eq_true rfl), (Nat.le_of_ble_eq_true rfl)⟩ rfl (by assumption) rfl (Nat.le_of_ble_eq_true rfl) (c_settled K2 (fun h3 K3 f3 => ?_))
  refine AW.iret dX7_turns_27 rfl ?_
  exact hP h3 K3 (fun z hz => by rw [f3 z hz, f2 z (by omega), f1 z (by omega)])
theorem c_takes {s k : Int32} (K : ClsAt h X) (hP : ∀ h', ClsAt h' (stl X (takeR X.1 s k)).2 → FrC h h' → P (some (.int (stl X (takeR X.1 s k)).1)) N h') : AM X7_takes [.ref 3, .int s, .int k] N h P := by
  have k3 := K.2.2.1
  have k4 := K.2.2.2.1.1
  have k46 : ∃ nx, h 46 = pastO nx X.2.1.1 := by obtain ⟨nx, ring, u, -⟩ := K.2.2.2.2.1; exact ⟨nx, u.1⟩
  obtain ⟨nx0, k46⟩ := k46
  refine AM.of0 rfl (Nat.le_of_ble_eq_true rfl) rfl [some (.ref 3), some (.int s), some (.int k)] rfl ?_
  refine AW.aload_n 1 dX7_takes_0 rfl (by rfl) ?_
  refine AW.getfield 4 dX7_takes_1 rfl fl_X7_19 (by assumption) (by rfl) ?_
  refine AW.aload_n 5 dX7_takes_4 rfl (by rfl) ?_
  refine AW.getfield 8 dX7_takes_5 rfl fl_X7_10 (by assumption) (by rfl) ?_
  refine AW.getfield 11 dX7_takes_8 rfl fl_X7_47 (by assumption) (by rfl) ?_
  refine AW.cV1 14 dX7_takes_11 rfl mi_X4_prepare mv_X4_prepare lk_X7_51 ⟨(Nat.le_of_ble_eq_true rfl), (Nat.le_of_ble_eq_true rfl)⟩ rfl (by assumption) rfl (Nat.le_of_ble_eq_true rfl) (c_prep K (fun h1 K1 f1 => ?_))
  have y3 := K1.2.2.1
  have y4 := K1.2.2.2.1.1
  refine AW.aload_n 15 dX7_takes_14 rfl (by rfl) ?_
  refine AW.aload_n 16 dX7_takes_15 rfl (by rfl) ?_
  refine AW.getfield 19 dX7_takes_16 rfl fl_X7_10 (by assumption) (by rfl) ?_
  refine AW.iload_n 20 dX7_takes_19 rfl (by rfl) ?_
  refine AW.iload_n 21 dX7_takes_20 rfl (by rfl) ?_
  refine AW.cV2 24 dX7_takes_21 rfl mi_X0_putPlace mv_X0_putPlace lk_X7_79 ⟨(Nat.le_of_ble_eq_true rfl), (Nat.le_of_ble_eq_true rfl)⟩ rfl (by assumption) rfl (Nat.le_of_ble_eq_true rfl) (c_putPlace K1.1 K1.2.2.2.1 (fun h2 B2 f2 => ?_))
  have K2 := K1.brd B2 f2
  have z3 := K2.2.2.1
  refine AW.cV1 27 dX7_takes_24 rfl mi_X7_settled mv_X7_settled lk_X7_59 ⟨(Nat.le_of_ble_eq_true rfl), (Nat.le_of_ble_eq_true rfl)⟩ rfl (by assumption) rfl (Nat.le_of_ble_eq_true rfl) (c_settled K2 (fun h3 K3 f3 => ?_))
  refine AW.iret dX7_takes_27 rfl ?_
  exact hP h3 K3 (fun z hz => by rw [f3 z hz, f2 z (by omega), f1 z (by omega)])
theorem c_number {n v : Int32} (K : ClsAt h X) (hP : ∀ h', ClsAt h' (stl X (numR X.1 n v)).2 → FrC h h' → P (some (.int (stl X (numR X.1 n v)).1)) N h') : AM X7_number [.ref 3, .int n, .int v] N h P := by
  have k3 := K.2.2.1
  have k4 := K.2.2.2.1.1
  have k46 : ∃ nx, h 46 = pastO nx X.2.1.1 := by obtain ⟨nx, ring, u, -⟩ := K.2.2.2.2.1; exact ⟨nx, u.1⟩
  obtain ⟨nx0, k46⟩ := k46
  refine AM.of0 rfl (Nat.le_of_ble_eq_true rfl) rfl [some (.ref 3), some (.int n), some (.int v)] rfl ?_
  refine AW.aload_n 1 dX7_number_0 rfl (by rfl) ?_
  refine AW.getfield 4 dX7_number_1 rfl fl_X7_19 (by assumption) (by rfl) ?_
  refine AW.aload_n 5 dX7_number_4 rfl (by rfl) ?_
  refine AW.getfield 8 dX7_number_5 rfl fl_X7_10 (by assumption) (by rfl) ?_
  refine AW.getfield 11 dX7_number_8 rfl fl_X7_47 (by assumption) (by rfl) ?_
  refine AW.cV1 14 dX7_number_11 rfl mi_X4_prepare mv_X4_prepare lk_X7_51 ⟨(Nat.le_of_ble_eq_true rfl), (Nat.le_of_ble_eq_true rfl)⟩ rfl (by assumption) rfl (Nat.le_of_ble_eq_true rfl) (c_prep K (fun h1 K1 f1 => ?_))
  have y3 := K1.2.2.1
  have y4 := K1.2.2.2.1.1
  refine AW.aload_n 15 dX7_number_14 rfl (by rfl) ?_
  refine AW.aload_n 16 dX7_number_15 rfl (by rfl) ?_
  refine AW.getfield 19 dX7_number_16 rfl fl_X7_10 (by assumption) (by rfl) ?_
  refine AW.iload_n 20 dX7_number_19 rfl (by rfl) ?_
  refine AW.iload_n 21 dX7_number_20 rfl (by rfl) ?_
  refine AW.cV2 24 dX7_number_21 rfl mi_X0_changeNumber mv_X0_changeNumber lk_X7_163 ⟨(Nat.le_of_ble_eq_true rfl), (Nat.le_of_ble_eq_true rfl)⟩ rfl (by assumption) rfl (Nat.le_of_ble_eq_true rfl) (c_changeNumber K1.2.2.2.1 (fun h2 B2 f2 => ?_))
  have K2 := K1.brd B2 f2
  have z3 := K2.2.2.1
  refine AW.cV1 27 dX7_number_24 rfl mi_X7_settled mv_X7_settled lk_X7_59 ⟨(Nat.le_of_ble_eq_true rfl), (Nat.le_of_ble_eq_true rfl)⟩ rfl (by assumption) rfl (Nat.le_of_ble_eq_true rfl) (c_settled K2 (fun h3 K3 f3 => ?_))
  refine AW.iret dX7_number_27 rfl ?_
  exact hP h3 K3 (fun z hz => by rw [f3 z hz, f2 z (by omega), f1 z (by omega)])
end CLS
