/-! BOARD, the changes: each answers as a function of the state -/
theorem cr_enc {r : Nat → Nat} {n : Nat} (hn : n ≤ 8) (h1 : ∀ i, i < n → r i < 8) (h2 : ∀ i, n ≤ i → r i = idn i) : cr n (enc r n) = r := by
  funext x
  rcases Nat.lt_or_ge x n with hx | hx
  · rw [cr, if_pos hx]
    have key : ∀ m, m ≤ 8 → (∀ i, i < m → r i < 8) → ∃ q, cnt (fun x => r x * 8 ^ (7 - x)) m = q * 8 ^ (8 - m) ∧ ∀ x, x < m → q / 8 ^ (m - 1 - x) % 8 = r x := by
      intro m
      induction m with
      | zero => intro _ _; exact ⟨0, by simp [cnt], fun x hx => by omega⟩
      | succ m ih =>
        intro hm hr
        obtain ⟨q, hq, hd⟩ := ih (by omega) (fun i hi => hr i (by omega))
        refine ⟨q * 8 + r m, ?_, fun x hx => ?_⟩
        · show cnt _ m + _ = _
          rw [hq, show 8 - m = (7 - m) + 1 by omega, show 8 - (m + 1) = 7 - m by omega, Nat.pow_succ, Nat.add_mul, Nat.mul_assoc, Nat.mul_comm (8 ^ (7 - m)) 8]
        · have hrm := hr m (by omega)
          by_cases e : x = m
          · subst e
            rw [show x + 1 - 1 - x = 0 by omega, Nat.pow_zero, Nat.div_one]
            omega
          · rw [show m + 1 - 1 - x = (m - 1 - x) + 1 by omega, Nat.pow_succ, Nat.mul_comm (8 ^ (m - 1 - x)) 8, ← Nat.div_div_eq_div_mul, show (q * 8 + r m) / 8 = q by omega]
            exact hd x (by omega)
    obtain ⟨q, hq, hd⟩ := key n hn h1
    rw [enc, hq, ← hd x hx, show 7 - x = (n - 1 - x) + (8 - n) by omega, Nat.pow_add, Nat.mul_comm (8 ^ (n - 1 - x)), ← Nat.div_div_eq_div_mul, Nat.mul_div_cancel _ (Nat.pow_pos (by decide))]
  · rw [cr, if_neg (by omega), h2 x hx]
theorem cycI_id {s : Nat → Nat} {x n : Nat} (hs : ∀ i, i < n → s i < n) {i : Nat} (hi : n ≤ i) : ∀ (j y : Nat) (r : Nat → Nat), y < n → cycI s x j y r i = r i := by
  intro j
  induction j with
  | zero => intro y r _; rfl
  | succ j ih =>
    intro y r hy
    unfold cycI
    split
    · rfl
    · rw [ih (s y) _ (hs y hy), upN, if_neg (by omega)]
theorem cyc_id {s : Nat → Nat} {n : Nat} (hs : ∀ i, i < n → s i < n) {i : Nat} (hi : n ≤ i) : cycF s n i = idn i := by
  have L : ∀ x, x ≤ n → cycO s n x i = idn i := by
    intro x
    induction x with
    | zero => intro _; rfl
    | succ x ih =>
      intro hx
      unfold cycO
      split
      · rw [cycI_id hs hi _ _ _ (hs x (by omega)), ih (by omega)]
      · exact ih (by omega)
  exact L n (Nat.le_refl n)
def joC (n a b : Nat) : Nat := enc (joinF (cr n a) (cr n b) n) n
def puC (n a x y : Nat) : Nat := enc (joinF (cr n a) (pairF x y) n) n
def meC (n a b : Nat) : Nat := enc (meetF (cr n a) (cr n b) n) n
def coC (n a : Nat) : Nat := enc (compF (cr n a) n) n
def tuC (n a : Nat) : Nat := enc (trnF (cr n a) n) n
def taC (n k : Nat) : Nat := enc (tkF n k) n
def inC (n a b : Nat) : Nat := enc (insF (cr n a) (cr n b) n) n
def idC (n : Nat) : Nat := enc idn n
theorem cr_un {r : Nat → Nat} {n : Nat} (hn : n ≤ 8) : cr n (enc (unF r n) n) = unF r n := cr_enc hn (fun i hi => (un_ok hn).1 i (by omega)) (fun i hi => cyc_id (fun i hi => aft_lt (by omega)) hi)
theorem cr_comp {r : Nat → Nat} {n : Nat} (hn : n ≤ 8) : cr n (enc (compF r n) n) = compF r n := cr_enc hn (fun i hi => (comp_ok hn).1 i (by omega)) (fun i hi => cyc_id (fun i hi => prevF_lt (aft_lt (by omega))) hi)
theorem cr_trn {r : Nat → Nat} {n : Nat} (hn : n ≤ 8) : cr n (enc (trnF r n) n) = trnF r n := cr_enc hn (fun i hi => (trn_ok hn).1 i (by omega)) (fun i hi => cyc_id (fun i hi => aft_lt (by omega)) hi)
theorem cr_ins {r r2 : Nat → Nat} {n : Nat} (hn : n ≤ 8) (h2 : ∀ x, x < n → r2 x < n) : cr n (enc (insF r r2 n) n) = insF r r2 n := cr_enc hn (fun i hi => (ins_ok hn h2).1 i (by omega)) (fun i hi => cyc_id (fun i hi => prevF_lt (nextF_lt hi (h2 i hi))) hi)
theorem cr_meet {r r2 : Nat → Nat} {n : Nat} (hn : n ≤ 8) : cr n (enc (meetF r r2 n) n) = meetF r r2 n := cr_enc hn (fun i hi => (meet_ok hn).1 i (by omega)) (fun i hi => by rw [meetF, if_neg (by omega)])
theorem cr_id {n : Nat} (hn : n ≤ 8) : cr n (idC n) = idn := cr_enc hn (fun i hi => by rw [idn, if_pos (by omega)]; omega) (fun i hi => rfl)
theorem cr_tk {n k : Nat} (hn : n ≤ 8) : cr n (taC n k) = tkF n k := by
  have L : ∀ x, x ≤ n → (∀ i, i < 8 → (tkS n k x).2.2.2 i < 8) ∧ ∀ i, n ≤ i → (tkS n k x).2.2.2 i = idn i := by
    intro x
    induction x with
    | zero => intro _; exact ⟨fun i hi => by show idn i < 8; rw [idn, if_pos hi]; exact hi, fun i _ => rfl⟩
    | succ x ih =>
      intro hx
      obtain ⟨i1, i2⟩ := ih (by omega)
      obtain ⟨b1, b2, b3, -⟩ := tkS_le n k x
      obtain ⟨g1, g2, g3⟩ := tkI_le (wy (n - 1 - x)) (tkS n k x).2.1 1 (tkS n k x).1
      have bl := (tkS_le n k (x + 1)).2.2.1 (tkI (wy (n - 1 - x)) (tkS n k x).2.1 1 (tkS n k x).1).2 g1 (Nat.le_refl _)
      refine ⟨fun i hi => ?_, fun i hi => ?_⟩
      · show upN _ x ((tkS n k (x + 1)).2.2.1 (tkI (wy (n - 1 - x)) (tkS n k x).2.1 1 (tkS n k x).1).2) i < 8
        unfold upN
        split
        · omega
        · exact i1 i hi
      · show upN _ x _ i = _
        unfold upN
        rw [if_neg (by omega)]
        exact i2 i hi
  exact cr_enc hn (fun i hi => (L n (Nat.le_refl n)).1 i (by omega)) (fun i hi => (L n (Nat.le_refl n)).2 i hi)
abbrev cl (x : Int32) : Nat := x.toNatClampNeg
theorem cl_nI {j : Nat} (h : j < 2147483648) : cl (nI j) = j := nI_clamp h
def putR (σ : aS) (s k : Nat) : Int32 × aS := (nI (rankF (cr σ.1 k) σ.1), upC σ s k)
def uniteR (σ : aS) (s x y : Int32) : Int32 × aS := if inB 6 s && (inB σ.1 x && inB σ.1 y) then putR σ (cl s) (puC σ.1 (σ.2.1 (cl s)) (cl x) (cl y)) else (-2, σ)
def meetR (σ : aS) (s a b : Int32) : Int32 × aS := if inB 6 s && (inB 6 a && inB 6 b) then putR σ (cl s) (meC σ.1 (σ.2.1 (cl a)) (σ.2.1 (cl b))) else (-2, σ)
def joinR (σ : aS) (s a b : Int32) : Int32 × aS := if inB 6 s && (inB 6 a && inB 6 b) then putR σ (cl s) (joC σ.1 (σ.2.1 (cl a)) (σ.2.1 (cl b))) else (-2, σ)
def compR (σ : aS) (s a : Int32) : Int32 × aS := if inB 6 s && inB 6 a then putR σ (cl s) (coC σ.1 (σ.2.1 (cl a))) else (-2, σ)
def turnR (σ : aS) (s a : Int32) : Int32 × aS := if inB 6 s && inB 6 a then (nI (plcF (cr σ.1 (tuC σ.1 (σ.2.1 (cl a)))) σ.1), upC σ (cl s) (tuC σ.1 (σ.2.1 (cl a)))) else (-2, σ)
def takeR (σ : aS) (s k : Int32) : Int32 × aS := if inB 6 s && inB (catN σ.1) k then putR σ (cl s) (taC σ.1 (cl k)) else (-2, σ)
def pointR (σ : aS) (k : Int32) : Int32 × aS := if inB 8 (k - 1) then (nI σ.1, (cl k, fun _ => idC (cl k), σ.2.2)) else (-2, σ)
def numR (σ : aS) (n v : Int32) : Int32 × aS := if inB 8 (n - 1) && inB 19 (v + 9) then (σ.2.2 (cl n - 1) + nI 100, (σ.1, σ.2.1, fun i => if i = cl n - 1 then v else σ.2.2 i)) else (-2, σ)
section BOARD2
variable {N : Nat} {h : aH} {P : aP} {σ : aS}
theorem LW.h20 (w : LW h) : h 20 = latO := w.1
/-- the frame of a change -/
def FrB (h h' : aH) : Prop := ∀ z, z < 4 ∨ 46 ≤ z → h' z = h z
theorem BoardAt.made {h h' : aH} {k : Nat} (B : BoardAt h σ) (w : LW h') (e : ∀ z, z < 20 ∨ 46 ≤ z → h' z = h z) (h44 : h' 44 = oP σ.1 45) (h45 : h' 45 = iA 8 (cr σ.1 k)) : BoardAt h' σ := ⟨by rw [e 4 (by omega), B.1], B.2.1.same (fun z z1 z2 => e z (by omega)), w, PartAt.of0 h44 h45 (cr_0 _ B.2.1.2.2.2.2.2.1)⟩
theorem c_unite {s x y : Int32} (B : BoardAt h σ) (hP : ∀ h', BoardAt h' (uniteR σ s x y).2 → FrB h h' → P (some (.int (uniteR σ s x y).1)) N h') : AM X0_unite [.ref 4, .int s, .int x, .int y] N h P := by
  obtain ⟨b1, b2, w, b4⟩ := id B
  have x5 := b2.1
  have x6 := b2.2.1
  have hn := b2.2.2.2.2.2.1
  refine AM.of0 rfl (Nat.le_of_ble_eq_true rfl) rfl [some (.ref 4), some (.int s), some (.int x), some (.int y)] rfl ?_
  have F : (inB 6 s && (inB σ.1 x && inB σ.1 y)) = false → AW X0_unite 23 [some (.ref 4), some (.int s), some (.int x), some (.int y)] [] N (0, 0) h P := by
    intro e
    have hP := hP h
    rw [uniteR, e] at hP
    refine AW.bipush 25 dX0_unite_23 rfl (-2) rfl ?_
    refine AW.iret dX0_unite_25 rfl ?_
    exact hP B (fun _ _ => rfl)
  refine AW.iload_n 1 dX0_unite_0 rfl (by rfl) ?_
  refine AW.cN1 4 dX0_unite_1 rfl mi_X7_isSlot ms_X7_isSlot lk_X0_44 ⟨(Nat.le_of_ble_eq_true rfl), (Nat.le_of_ble_eq_true rfl)⟩ rfl (Nat.le_of_ble_eq_true rfl) (c_isSlot ?_)
  refine AW.zeq 23 7 dX0_unite_4 (by decide) rfl (fun c1 => ?_) (fun c1 => ?_)
  · exact F (by rw [← slotB_eq, c1]; rfl)
  · refine AW.aload_n 8 dX0_unite_7 rfl (by rfl) ?_
    refine AW.iload_n 9 dX0_unite_8 rfl (by rfl) ?_
    refine AW.cV1 12 dX0_unite_9 rfl mi_X0_isPoint mv_X0_isPoint lk_X0_48 ⟨(Nat.le_of_ble_eq_true rfl), (Nat.le_of_ble_eq_true rfl)⟩ rfl (by assumption) rfl (Nat.le_of_ble_eq_true rfl) (c_isPoint B ?_)
    refine AW.zeq 23 15 dX0_unite_12 (by decide) rfl (fun c2 => ?_) (fun c2 => ?_)
    · exact F (by rw [c2, Bool.false_and, Bool.and_false])
    · refine AW.aload_n 16 dX0_unite_15 rfl (by rfl) ?_
      refine AW.iload_n 17 dX0_unite_16 rfl (by rfl) ?_
      refine AW.cV1 20 dX0_unite_17 rfl mi_X0_isPoint mv_X0_isPoint lk_X0_48 ⟨(Nat.le_of_ble_eq_true rfl), (Nat.le_of_ble_eq_true rfl)⟩ rfl (by assumption) rfl (Nat.le_of_ble_eq_true rfl) (c_isPoint B ?_)
      refine AW.zne 26 23 dX0_unite_20 (by decide) rfl (fun c3 => ?_) (fun c3 => ?_)
      · rcases inB_cases (m := 6) (by omega) s with ⟨s', hs', rfl, e1⟩ | ⟨-, e1⟩
        · rcases inB_cases (m := σ.1) (by omega) x with ⟨x', hx', rfl, e2⟩ | ⟨-, e2⟩
          · rcases inB_cases (m := σ.1) (by omega) y with ⟨y', hy', rfl, e3⟩ | ⟨-, e3⟩
            · have eR : uniteR σ (nI s') (nI x') (nI y') = putR σ s' (puC σ.1 (σ.2.1 s') x' y') := by simp only [uniteR, e1, e2, e3, Bool.and_self, if_true, cl_nI (show s' < 2147483648 by omega), cl_nI (show x' < 2147483648 by omega), cl_nI (show y' < 2147483648 by omega)]
              rw [eR] at hP
              obtain ⟨p1, p2⟩ := b2.2.2.1 s' hs'
              refine AW.aload_n 27 dX0_unite_26 rfl (by rfl) ?_
              refine AW.getfield 30 dX0_unite_27 rfl fl_X0_21 (by assumption) (by rfl) ?_
              refine AW.aload_n 31 dX0_unite_30 rfl (by rfl) ?_
              refine AW.getfield 34 dX0_unite_31 rfl fl_X0_28 (by assumption) (by rfl) ?_
              refine AW.aload_n 35 dX0_unite_34 rfl (by rfl) ?_
              refine AW.getfield 38 dX0_unite_35 rfl fl_X0_12 (by assumption) (by rfl) ?_
              refine AW.getfield 41 dX0_unite_38 rfl fl_X0_36 (by assumption) (by rfl) ?_
              refine AW.iload_n 42 dX0_unite_41 rfl (by rfl) ?_
              refine AW.aaload 43 _ dX0_unite_42 rfl (by assumption) (fun _ => rfl) rfl (ix_nI (by omega)) (by omega) (if_pos (show s' < 6 by omega)) ?_
              refine AW.aload_n 44 dX0_unite_43 rfl (by rfl) ?_
              refine AW.getfield 47 dX0_unite_44 rfl fl_X0_21 (by assumption) (by rfl) ?_
              refine AW.aload_n 48 dX0_unite_47 rfl (by rfl) ?_
              refine AW.getfield 51 dX0_unite_48 rfl fl_X0_12 (by assumption) (by rfl) ?_
              refine AW.getfield 54 dX0_unite_51 rfl fl_X0_32 (by assumption) (by rfl) ?_
              refine AW.iload_n 55 dX0_unite_54 rfl (by rfl) ?_
              refine AW.iload_n 56 dX0_unite_55 rfl (by rfl) ?_
              have w1 := w.1
              refine AW.cV3 59 dX0_unite_56 rfl mi_X1_pairOf mv_X1_pairOf lk_X0_51 ⟨(Nat.le_of_ble_eq_true rfl), (Nat.le_of_ble_eq_true rfl)⟩ rfl (by assumption) rfl (Nat.le_of_ble_eq_true rfl) (c_pairOf w (by omega) (by omega) ?_)
              generalize hH1 : hs (hs h 40 (oP σ.1 41)) 41 (iA 8 (pairF x' y')) = H1
              have W1 : LW H1 := by rw [← hH1]; exact w.part (p := 40) (by omega) (pair_ok (by omega) (by omega)).2
              have f1 : ∀ a, a ≠ 40 → a ≠ 41 → H1 a = h a := fun a z1 z2 => by rw [← hH1, hs_ne z2, hs_ne z1]
              have e1a : H1 40 = oP σ.1 41 := by rw [← hH1, hs_ne (by decide), hs_eq]
              have e1b : H1 41 = iA 8 (pairF x' y') := by rw [← hH1, hs_eq]
              have W1_20 : H1 20 = latO := W1.1
              have m1 : PartAt H1 44 45 := by rw [← hH1]; exact (b4.ne (by decide) (by decide)).ne (by decide) (by decide)
              refine AW.cV3 62 dX0_unite_59 rfl mi_X1_join mv_X1_join lk_X0_55 ⟨(Nat.le_of_ble_eq_true rfl), (Nat.le_of_ble_eq_true rfl)⟩ rfl (by assumption) rfl (Nat.le_of_ble_eq_true rfl) (c_join W1 ((f1 _ (by omega) (by omega)).trans p1) ((f1 _ (by omega) (by omega)).trans p2) e1a e1b m1 (Or.inr ⟨by decide, by decide, by decide⟩) (by omega) (by omega) (by omega) (by omega) hn (fun i hi => cr_lt _ _ i (by omega)) (fun i hi => (pair_ok (by omega) (by omega)).1 i (by omega)) (fun h' W' e' q1 q2 => ?_))
              have q2' : h' 45 = iA 8 (cr σ.1 (puC σ.1 (σ.2.1 s') x' y')) := by rw [q2, puC, joinF, cr_un hn]
              have B' := BoardAt.made B W' (fun z hz => by
                rcases hz with hz | hz
                · rw [e' z (Or.inl hz) (by omega) (by omega), f1 z (by omega) (by omega)]
                · rw [e' z (by omega) (by omega) (by omega), f1 z (by omega) (by omega)]) q1 q2'
              have y4 := B'.1
              refine AW.aload_n 63 dX0_unite_62 rfl (by rfl) ?_
              refine AW.iload_n 64 dX0_unite_63 rfl (by rfl) ?_
              refine AW.cV1 67 dX0_unite_64 rfl mi_X0_putMade mv_X0_putMade lk_X0_59 ⟨(Nat.le_of_ble_eq_true rfl), (Nat.le_of_ble_eq_true rfl)⟩ rfl (by assumption) rfl (Nat.le_of_ble_eq_true rfl) (c_putMade B' q1 q2' hs' (fun h2 B2 _ _ f2 => ?_))
              refine AW.iret dX0_unite_67 rfl ?_
              exact hP h2 B2 (fun z hz => by rw [f2 z hz, e' z (by omega) (by omega) (by omega), f1 z (by omega) (by omega)])
            · rw [c3] at e3; cases e3
          · rw [c2] at e2; cases e2
        · rw [← slotB_eq, c1] at e1; cases e1
      · exact F (by rw [c3, Bool.and_false, Bool.and_false])
end BOARD2
