/-! BOARD, the changes: each answers as a function of the state -/
theorem cr_enc {r : Nat → Nat} {n : Nat} (hn : n ≤ 8) (h1 : ∀ i, i < n → r i < 8) (h2 : ∀ i, n ≤ i → r i = idn i) : cr n (enc r n) = r := by
  funext x
  rcases Nat.lt_or_ge x n with hx | hx
  · rw [cr, if_pos hx]
    have key : ∀ m, m ≤ 8 → (∀ i, i < m → r i < 8) → ∃ q, cnt (fun x => r x * 8 ^ (7 - x)) m = q * 8 ^ (8 - m) ∧ ∀ x, x < m → q / 8 ^ (m - 1 - x) % 8 = r x := by
      intro m
      induction m with
      | zero => intro _ _; exact ⟨0, by simp [cnt], fun x hx => by omega⟩
      | succ m ih =>
        intro hm hr
        obtain ⟨q, hq, hd⟩ := ih (by omega) (fun i hi => hr i (by omega))
        refine ⟨q * 8 + r m, ?_, fun x hx => ?_⟩
        · show cnt _ m + _ = _
          rw [hq, show 8 - m = (7 - m) + 1 by omega, show 8 - (m + 1) = 7 - m by omega, Nat.pow_succ, Nat.add_mul, Nat.mul_assoc, Nat.mul_comm (8 ^ (7 - m)) 8]
        · have hrm := hr m (by omega)
          by_cases e : x = m
          · subst e
            rw [show x + 1 - 1 - x = 0 by omega, Nat.pow_zero, Nat.div_one]
            omega
          · rw [show m + 1 - 1 - x = (m - 1 - x) + 1 by omega, Nat.pow_succ, Nat.mul_comm (8 ^ (m - 1 - x)) 8, ← Nat.div_div_eq_div_mul, show (q * 8 + r m) / 8 = q by omega]
            exact hd x (by omega)
    obtain ⟨q, hq, hd⟩ := key n hn h1
    rw [enc, hq, ← hd x hx, show 7 - x = (n - 1 - x) + (8 - n) by omega, Nat.pow_add, Nat.mul_comm (8 ^ (n - 1 - x)), ← Nat.div_div_eq_div_mul, Nat.mul_div_cancel _ (Nat.pow_pos (by decide))]
  · rw [cr, if_neg (by omega), h2 x hx]
theorem cycI_id {s : Nat → Nat} {x n : Nat} (hs : ∀ i, i < n → s i < n) {i : Nat} (hi : n ≤ i) : ∀ (j y : Nat) (r : Nat → Nat), y < n → cycI s x j y r i = r i := by
  intro j
  induction j with
  | zero => intro y r _; rfl
  | succ j ih =>
    intro y r hy
    unfold cycI
    split
    · rfl
    · rw [ih (s y) _ (hs y hy), upN, if_neg (by omega)]
theorem cyc_id {s : Nat → Nat} {n : Nat} (hs : ∀ i, i < n → s i < n) {i : Nat} (hi : n ≤ i) : cycF s n i = idn i := by
  have L : ∀ x, x ≤ n → cycO s n x i = idn i := by
    intro x
    induction x with
    | zero => intro _; rfl
    | succ x ih =>
      intro hx
      unfold cycO
      split
      · rw [cycI_id hs hi _ _ _ (hs x (by omega)), ih (by omega)]
      · exact ih (by omega)
  exact L n (Nat.le_refl n)
def joC (n a b : Nat) : Nat := enc (joinF (cr n a) (cr n b) n) n
def puC (n a x y : Nat) : Nat := enc (joinF (cr n a) (pairF x y) n) n
def meC (n a b : Nat) : Nat := enc (meetF (cr n a) (cr n b) n) n
def coC (n a : Nat) : Nat := enc (compF (cr n a) n) n
def tuC (n a : Nat) : Nat := enc (trnF (cr n a) n) n
def taC (n k : Nat) : Nat := enc (tkF n k) n
def inC (n a b : Nat) : Nat := enc (insF (cr n a) (cr n b) n) n
def idC (n : Nat) : Nat := enc idn n
theorem cr_un {r : Nat → Nat} {n : Nat} (hn : n ≤ 8) : cr n (enc (unF r n) n) = unF r n := cr_enc hn (fun i hi => (un_ok hn).1 i (by omega)) (fun i hi => cyc_id (fun i hi => aft_lt (by omega)) hi)
theorem cr_comp {r : Nat → Nat} {n : Nat} (hn : n ≤ 8) : cr n (enc (compF r n) n) = compF r n := cr_enc hn (fun i hi => (comp_ok hn).1 i (by omega)) (fun i hi => cyc_id (fun i hi => prevF_lt (aft_lt (by omega))) hi)
theorem cr_trn {r : Nat → Nat} {n : Nat} (hn : n ≤ 8) : cr n (enc (trnF r n) n) = trnF r n := cr_enc hn (fun i hi => (trn_ok hn).1 i (by omega)) (fun i hi => cyc_id (fun i hi => aft_lt (by omega)) hi)
theorem cr_ins {r r2 : Nat → Nat} {n : Nat} (hn : n ≤ 8) (h2 : ∀ x, x < n → r2 x < n) : cr n (enc (insF r r2 n) n) = insF r r2 n := cr_enc hn (fun i hi => (ins_ok hn h2).1 i (by omega)) (fun i hi => cyc_id (fun i hi => prevF_lt (nextF_lt hi (h2 i hi))) hi)
theorem cr_meet {r r2 : Nat → Nat} {n : Nat} (hn : n ≤ 8) : cr n (enc (meetF r r2 n) n) = meetF r r2 n := cr_enc hn (fun i hi => (meet_ok hn).1 i (by omega)) (fun i hi => by rw [meetF, if_neg (by omega)])
theorem cr_id {n : Nat} (hn : n ≤ 8) : cr n (idC n) = idn := cr_enc hn (fun i hi => by rw [idn, if_pos (by omega)]; omega) (fun i hi => rfl)
theorem cr_tk {n k : Nat} (hn : n ≤ 8) : cr n (taC n k) = tkF n k := by
  have L : ∀ x, x ≤ n → (∀ i, i < 8 → (tkS n k x).2.2.2 i < 8) ∧ ∀ i, n ≤ i → (tkS n k x).2.2.2 i = idn i := by
    intro x
    induction x with
    | zero => intro _; exact ⟨fun i hi => by show idn i < 8; rw [idn, if_pos hi]; exact hi, fun i _ => rfl⟩
    | succ x ih =>
      intro hx
      obtain ⟨i1, i2⟩ := ih (by omega)
      obtain ⟨b1, b2, b3, -⟩ := tkS_le n k x
      obtain ⟨g1, g2, g3⟩ := tkI_le (wy (n - 1 - x)) (tkS n k x).2.1 1 (tkS n k x).1
      have bl := (tkS_le n k (x + 1)).2.2.1 (tkI (wy (n - 1 - x)) (tkS n k x).2.1 1 (tkS n k x).1).2 g1 (Nat.le_refl _)
      refine ⟨fun i hi => ?_, fun i hi => ?_⟩
      · show upN _ x ((tkS n k (x + 1)).2.2.1 (tkI (wy (n - 1 - x)) (tkS n k x).2.1 1 (tkS n k x).1).2) i < 8
        unfold upN
        split
        · omega
        · exact i1 i hi
      · show upN _ x _ i = _
        unfold upN
        rw [if_neg (by omega)]
        exact i2 i hi
  exact cr_enc hn (fun i hi => (L n (Nat.le_refl n)).1 i (by omega)) (fun i hi => (L n (Nat.le_refl n)).2 i hi)
abbrev cl (x : Int32) : Nat := x.toNatClampNeg
theorem cl_nI {j : Nat} (h : j < 2147483648) : cl (nI j) = j := nI_clamp h
def putR (σ : aS) (s k : Nat) : Int32 × aS := (nI (rankF (cr σ.1 k) σ.1), upC σ s k)
def uniteR (σ : aS) (s x y : Int32) : Int32 × aS := if inB 6 s && (inB σ.1 x && inB σ.1 y) then putR σ (cl s) (puC σ.1 (σ.2.1 (cl s)) (cl x) (cl y)) else (-2, σ)
def meetR (σ : aS) (s a b : Int32) : Int32 × aS := if inB 6 s && (inB 6 a && inB 6 b) then putR σ (cl s) (meC σ.1 (σ.2.1 (cl a)) (σ.2.1 (cl b))) else (-2, σ)
def joinR (σ : aS) (s a b : Int32) : Int32 × aS := if inB 6 s && (inB 6 a && inB 6 b) then putR σ (cl s) (joC σ.1 (σ.2.1 (cl a)) (σ.2.1 (cl b))) else (-2, σ)
def compR (σ : aS) (s a : Int32) : Int32 × aS := if inB 6 s && inB 6 a then putR σ (cl s) (coC σ.1 (σ.2.1 (cl a))) else (-2, σ)
def turnR (σ : aS) (s a : Int32) : Int32 × aS := if inB 6 s && inB 6 a then (nI (plcF (cr σ.1 (tuC σ.1 (σ.2.1 (cl a)))) σ.1), upC σ (cl s) (tuC σ.1 (σ.2.1 (cl a)))) else (-2, σ)
def takeR (σ : aS) (s k : Int32) : Int32 × aS := if inB 6 s && inB (catN σ.1) k then putR σ (cl s) (taC σ.1 (cl k)) else (-2, σ)
def rgB (lo hi : Int) (x : Int32) : Bool := decide (lo ≤ x.toInt ∧ x.toInt ≤ hi)
theorem rgB_t {lo hi : Int} {x : Int32} (h1 : lo ≤ x.toInt) (h2 : x.toInt ≤ hi) : rgB lo hi x = true := decide_eq_true ⟨h1, h2⟩
theorem rgB_f {lo hi : Int} {x : Int32} (h : x.toInt < lo ∨ hi < x.toInt) : rgB lo hi x = false := decide_eq_false (fun q => by omega)
def pointR (σ : aS) (k : Int32) : Int32 × aS := if rgB 1 8 k then (nI σ.1, (cl k, fun _ => idC (cl k), σ.2.2)) else (-2, σ)
def numR (σ : aS) (n v : Int32) : Int32 × aS := if rgB 1 8 n && rgB (-9) 9 v then (σ.2.2 (cl n - 1) + nI 100, (σ.1, σ.2.1, fun i => if i = cl n - 1 then v else σ.2.2 i)) else (-2, σ)
section BOARD2
variable {N : Nat} {h : aH} {P : aP} {σ : aS}
theorem LW.h20 (w : LW h) : h 20 = latO := w.1
/-- the frame of a change -/
def FrB (h h' : aH) : Prop := ∀ z, z < 4 ∨ 46 ≤ z → h' z = h z
theorem BoardAt.made {h h' : aH} {k : Nat} (B : BoardAt h σ) (w : LW h') (e : ∀ z, z < 20 ∨ 46 ≤ z → h' z = h z) (h44 : h' 44 = oP σ.1 45) (h45 : h' 45 = iA 8 (cr σ.1 k)) : BoardAt h' σ := ⟨by rw [e 4 (by omega), B.1], B.2.1.same (fun z z1 z2 => e z (by omega)), w, PartAt.of0 h44 h45 (cr_0 _ B.2.1.2.2.2.2.2.1)⟩
theorem c_unite {s x y : Int32} (B : BoardAt h σ) (hP : ∀ h', BoardAt h' (uniteR σ s x y).2 → FrB h h' → P (some (.int (uniteR σ s x y).1)) N h') : AM X0_unite [.ref 4, .int s, .int x, .int y] N h P := by
  obtain ⟨b1, b2, w, b4⟩ := id B
  have x5 := b2.1
  have x6 := b2.2.1
  have hn := b2.2.2.2.2.2.1
  refine AM.of0 rfl (Nat.le_of_ble_eq_true rfl) rfl [some (.ref 4), some (.int s), some (.int x), some (.int y)] rfl ?_
  have F : (inB 6 s && (inB σ.1 x && inB σ.1 y)) = false → AW X0_unite 23 [some (.ref 4), some (.int s), some (.int x), some (.int y)] [] N (0, 0) h P := by
    intro e
    have hP := hP h
    rw [uniteR, e] at hP
    refine AW.bipush 25 dX0_unite_23 rfl (-2) rfl ?_
    refine AW.iret dX0_unite_25 rfl ?_
    exact hP B (fun _ _ => rfl)
  refine AW.iload_n 1 dX0_unite_0 rfl (by rfl) ?_
  refine AW.cN1 4 dX0_unite_1 rfl mi_X7_isSlot ms_X7_isSlot lk_X0_44 ⟨(Nat.le_of_ble_eq_true rfl), (Nat.le_of_ble_eq_true rfl)⟩ rfl (Nat.le_of_ble_eq_true rfl) (c_isSlot ?_)
  refine AW.zeq 23 7 dX0_unite_4 (by decide) rfl (fun c1 => ?_) (fun c1 => ?_)
  · exact F (by rw [← slotB_eq, c1]; rfl)
  · refine AW.aload_n 8 dX0_unite_7 rfl (by rfl) ?_
    refine AW.iload_n 9 dX0_unite_8 rfl (by rfl) ?_
    refine AW.cV1 12 dX0_unite_9 rfl mi_X0_isPoint mv_X0_isPoint lk_X0_48 ⟨(Nat.le_of_ble_eq_true rfl), (Nat.le_of_ble_eq_true rfl)⟩ rfl (by assumption) rfl (Nat.le_of_ble_eq_true rfl) (c_isPoint B ?_)
    refine AW.zeq 23 15 dX0_unite_12 (by decide) rfl (fun c2 => ?_) (fun c2 => ?_)
    · exact F (by rw [c2, Bool.false_and, Bool.and_false])
    · refine AW.aload_n 16 dX0_unite_15 rfl (by rfl) ?_
      refine AW.iload_n 17 dX0_unite_16 rfl (by rfl) ?_
      refine AW.cV1 20 dX0_unite_17 rfl mi_X0_isPoint mv_X0_isPoint lk_X0_48 ⟨(Nat.le_of_ble_eq_true rfl), (Nat.le_of_ble_eq_true rfl)⟩ rfl (by assumption) rfl (Nat.le_of_ble_eq_true rfl) (c_isPoint B ?_)
      refine AW.zne 26 23 dX0_unite_20 (by decide) rfl (fun c3 => ?_) (fun c3 => ?_)
      · rcases inB_cases (m := 6) (by omega) s with ⟨s', hs', rfl, e1⟩ | ⟨-, e1⟩
        · rcases inB_cases (m := σ.1) (by omega) x with ⟨x', hx', rfl, e2⟩ | ⟨-, e2⟩
          · rcases inB_cases (m := σ.1) (by omega) y with ⟨y', hy', rfl, e3⟩ | ⟨-, e3⟩
            · have eR : uniteR σ (nI s') (nI x') (nI y') = putR σ s' (puC σ.1 (σ.2.1 s') x' y') := by simp only [uniteR, e1, e2, e3, Bool.and_self, if_true, cl_nI (show s' < 2147483648 by omega), cl_nI (show x' < 2147483648 by omega), cl_nI (show y' < 2147483648 by omega)]
              rw [eR] at hP
              obtain ⟨p1, p2⟩ := b2.2.2.1 s' hs'
              refine AW.aload_n 27 dX0_unite_26 rfl (by rfl) ?_
              refine AW.getfield 30 dX0_unite_27 rfl fl_X0_21 (by assumption) (by rfl) ?_
              refine AW.aload_n 31 dX0_unite_30 rfl (by rfl) ?_
              refine AW.getfield 34 dX0_unite_31 rfl fl_X0_28 (by assumption) (by rfl) ?_
              refine AW.aload_n 35 dX0_unite_34 rfl (by rfl) ?_
              refine AW.getfield 38 dX0_unite_35 rfl fl_X0_12 (by assumption) (by rfl) ?_
              refine AW.getfield 41 dX0_unite_38 rfl fl_X0_36 (by assumption) (by rfl) ?_
              refine AW.iload_n 42 dX0_unite_41 rfl (by rfl) ?_
              refine AW.aaload 43 _ dX0_unite_42 rfl (by assumption) (fun _ => rfl) rfl (ix_nI (by omega)) (by omega) (if_pos (show s' < 6 by omega)) ?_
              refine AW.aload_n 44 dX0_unite_43 rfl (by rfl) ?_
              refine AW.getfield 47 dX0_unite_44 rfl fl_X0_21 (by assumption) (by rfl) ?_
              refine AW.aload_n 48 dX0_unite_47 rfl (by rfl) ?_
              refine AW.getfield 51 dX0_unite_48 rfl fl_X0_12 (by assumption) (by rfl) ?_
              refine AW.getfield 54 dX0_unite_51 rfl fl_X0_32 (by assumption) (by rfl) ?_
              refine AW.iload_n 55 dX0_unite_54 rfl (by rfl) ?_
              refine AW.iload_n 56 dX0_unite_55 rfl (by rfl) ?_
              have w1 := w.1
              refine AW.cV3 59 dX0_unite_56 rfl mi_X1_pairOf mv_X1_pairOf lk_X0_51 ⟨(Nat.le_of_ble_eq_true rfl), (Nat.le_of_ble_eq_true rfl)⟩ rfl (by assumption) rfl (Nat.le_of_ble_eq_true rfl) (c_pairOf w (by omega) (by omega) ?_)
              generalize hH1 : hs (hs h 40 (oP σ.1 41)) 41 (iA 8 (pairF x' y')) = H1
              have W1 : LW H1 := by rw [← hH1]; exact w.part (p := 40) (by omega) (pair_ok (by omega) (by omega)).2
              have f1 : ∀ a, a ≠ 40 → a ≠ 41 → H1 a = h a := fun a z1 z2 => by rw [← hH1, hs_ne z2, hs_ne z1]
              have e1a : H1 40 = oP σ.1 41 := by rw [← hH1, hs_ne (by decide), hs_eq]
              have e1b : H1 41 = iA 8 (pairF x' y') := by rw [← hH1, hs_eq]
              have W1_20 : H1 20 = latO := W1.1
              have m1 : PartAt H1 44 45 := by rw [← hH1]; exact (b4.ne (by decide) (by decide)).ne (by decide) (by decide)
              refine AW.cV3 62 dX0_unite_59 rfl mi_X1_join mv_X1_join lk_X0_55 ⟨(Nat.le_of_ble_eq_true rfl), (Nat.le_of_ble_eq_true rfl)⟩ rfl (by assumption) rfl (Nat.le_of_ble_eq_true rfl) (c_join W1 ((f1 _ (by omega) (by omega)).trans p1) ((f1 _ (by omega) (by omega)).trans p2) e1a e1b m1 (Or.inr ⟨by decide, by decide, by decide⟩) (by omega) (by omega) (by omega) (by omega) hn (fun i hi => cr_lt _ _ i (by omega)) (fun i hi => (pair_ok (by omega) (by omega)).1 i (by omega)) (fun h' W' e' q1 q2 => ?_))
              have q2' : h' 45 = iA 8 (cr σ.1 (puC σ.1 (σ.2.1 s') x' y')) := by rw [q2, puC, joinF, cr_un hn]
              have B' := BoardAt.made B W' (fun z hz => by
                rcases hz with hz | hz
                · rw [e' z (Or.inl hz) (by omega) (by omega), f1 z (by omega) (by omega)]
                · rw [e' z (by omega) (by omega) (by omega), f1 z (by omega) (by omega)]) q1 q2'
              have y4 := B'.1
              refine AW.aload_n 63 dX0_unite_62 rfl (by rfl) ?_
              refine AW.iload_n 64 dX0_unite_63 rfl (by rfl) ?_
              refine AW.cV1 67 dX0_unite_64 rfl mi_X0_putMade mv_X0_putMade lk_X0_59 ⟨(Nat.le_of_ble_eq_true rfl), (Nat.le_of_ble_eq_true rfl)⟩ rfl (by assumption) rfl (Nat.le_of_ble_eq_true rfl) (c_putMade B' q1 q2' hs' (fun h2 B2 _ _ f2 => ?_))
              refine AW.iret dX0_unite_67 rfl ?_
              exact hP h2 B2 (fun z hz => by rw [f2 z hz, e' z (by omega) (by omega) (by omega), f1 z (by omega) (by omega)])
            · rw [c3] at e3; cases e3
          · rw [c2] at e2; cases e2
        · rw [← slotB_eq, c1] at e1; cases e1
      · exact F (by rw [c3, Bool.and_false, Bool.and_false])
theorem c_putJoin {s a b : Int32} (B : BoardAt h σ) (hP : ∀ h', BoardAt h' (joinR σ s a b).2 → FrB h h' → P (some (.int (joinR σ s a b).1)) N h') : AM X0_putJoin [.ref 4, .int s, .int a, .int b] N h P := by
  obtain ⟨b1, b2, w, b4⟩ := id B
  have x5 := b2.1
  have x6 := b2.2.1
  have hn := b2.2.2.2.2.2.1
  refine AM.of0 rfl (Nat.le_of_ble_eq_true rfl) rfl [some (.ref 4), some (.int s), some (.int a), some (.int b)] rfl ?_
  have F : (inB 6 s && (inB 6 a && inB 6 b)) = false → AW X0_putJoin 21 [some (.ref 4), some (.int s), some (.int a), some (.int b)] [] N (0, 0) h P := by
    intro e
    have hP := hP h
    rw [joinR, e] at hP
    refine AW.bipush 23 dX0_putJoin_21 rfl (-2) rfl ?_
    refine AW.iret dX0_putJoin_23 rfl ?_
    exact hP B (fun _ _ => rfl)
  refine AW.iload_n 1 dX0_putJoin_0 rfl (by rfl) ?_
  refine AW.cN1 4 dX0_putJoin_1 rfl mi_X7_isSlot ms_X7_isSlot lk_X0_44 ⟨(Nat.le_of_ble_eq_true rfl), (Nat.le_of_ble_eq_true rfl)⟩ rfl (Nat.le_of_ble_eq_true rfl) (c_isSlot ?_)
  refine AW.zeq 21 7 dX0_putJoin_4 (by decide) rfl (fun c1 => ?_) (fun c1 => ?_)
  · exact F (by rw [← slotB_eq, c1]; rfl)
  · refine AW.iload_n 8 dX0_putJoin_7 rfl (by rfl) ?_
    refine AW.cN1 11 dX0_putJoin_8 rfl mi_X7_isSlot ms_X7_isSlot lk_X0_44 ⟨(Nat.le_of_ble_eq_true rfl), (Nat.le_of_ble_eq_true rfl)⟩ rfl (Nat.le_of_ble_eq_true rfl) (c_isSlot ?_)
    refine AW.zeq 21 14 dX0_putJoin_11 (by decide) rfl (fun c2 => ?_) (fun c2 => ?_)
    · exact F (by rw [← slotB_eq a, c2, Bool.false_and, Bool.and_false])
    · refine AW.iload_n 15 dX0_putJoin_14 rfl (by rfl) ?_
      refine AW.cN1 18 dX0_putJoin_15 rfl mi_X7_isSlot ms_X7_isSlot lk_X0_44 ⟨(Nat.le_of_ble_eq_true rfl), (Nat.le_of_ble_eq_true rfl)⟩ rfl (Nat.le_of_ble_eq_true rfl) (c_isSlot ?_)
      refine AW.zne 24 21 dX0_putJoin_18 (by decide) rfl (fun c3 => ?_) (fun c3 => ?_)
      · rcases inB_cases (m := 6) (by omega) s with ⟨s', hs', rfl, e1⟩ | ⟨-, e1⟩
        · rcases inB_cases (m := 6) (by omega) a with ⟨a', ha', rfl, e2⟩ | ⟨-, e2⟩
          · rcases inB_cases (m := 6) (by omega) b with ⟨b', hb', rfl, e3⟩ | ⟨-, e3⟩
            · have eR : joinR σ (nI s') (nI a') (nI b') = putR σ s' (joC σ.1 (σ.2.1 a') (σ.2.1 b')) := by simp only [joinR, e1, e2, e3, Bool.and_self, if_true, cl_nI (show s' < 2147483648 by omega), cl_nI (show a' < 2147483648 by omega), cl_nI (show b' < 2147483648 by omega)]
              rw [eR] at hP
              obtain ⟨p1, p2⟩ := b2.2.2.1 a' ha'
              obtain ⟨p3, p4⟩ := b2.2.2.1 b' hb'
              refine AW.aload_n 25 dX0_putJoin_24 rfl (by rfl) ?_
              refine AW.getfield 28 dX0_putJoin_25 rfl fl_X0_21 (by assumption) (by rfl) ?_
              refine AW.aload_n 29 dX0_putJoin_28 rfl (by rfl) ?_
              refine AW.getfield 32 dX0_putJoin_29 rfl fl_X0_28 (by assumption) (by rfl) ?_
              refine AW.aload_n 33 dX0_putJoin_32 rfl (by rfl) ?_
              refine AW.getfield 36 dX0_putJoin_33 rfl fl_X0_12 (by assumption) (by rfl) ?_
              refine AW.getfield 39 dX0_putJoin_36 rfl fl_X0_36 (by assumption) (by rfl) ?_
              refine AW.iload_n 40 dX0_putJoin_39 rfl (by rfl) ?_
              refine AW.aaload 41 _ dX0_putJoin_40 rfl (by assumption) (fun _ => rfl) rfl (ix_nI (by omega)) (by omega) (if_pos (show a' < 6 by omega)) ?_
              refine AW.aload_n 42 dX0_putJoin_41 rfl (by rfl) ?_
              refine AW.getfield 45 dX0_putJoin_42 rfl fl_X0_12 (by assumption) (by rfl) ?_
              refine AW.getfield 48 dX0_putJoin_45 rfl fl_X0_36 (by assumption) (by rfl) ?_
              refine AW.iload_n 49 dX0_putJoin_48 rfl (by rfl) ?_
              refine AW.aaload 50 _ dX0_putJoin_49 rfl (by assumption) (fun _ => rfl) rfl (ix_nI (by omega)) (by omega) (if_pos (show b' < 6 by omega)) ?_
              have w1 := w.1
              refine AW.cV3 53 dX0_putJoin_50 rfl mi_X1_join mv_X1_join lk_X0_55 ⟨(Nat.le_of_ble_eq_true rfl), (Nat.le_of_ble_eq_true rfl)⟩ rfl (by assumption) rfl (Nat.le_of_ble_eq_true rfl) (c_join w p1 p2 p3 p4 b4 (Or.inr ⟨by decide, by decide, by decide⟩) (by omega) (by omega) (by omega) (by omega) hn (fun i hi => cr_lt _ _ i (by omega)) (fun i hi => cr_lt _ _ i (by omega)) (fun h' W' e' q1 q2 => ?_))
              have q2' : h' 45 = iA 8 (cr σ.1 (joC σ.1 (σ.2.1 a') (σ.2.1 b'))) := by rw [q2, joC, joinF, cr_un hn]
              have fr : ∀ z, z < 4 ∨ 46 ≤ z → h' z = h z := fun z hz => e' z (by omega) (by omega) (by omega)
              have B' := BoardAt.made B W' (fun z hz => e' z (by omega) (by omega) (by omega)) q1 q2'
              have y4 := B'.1
              refine AW.aload_n 54 dX0_putJoin_53 rfl (by rfl) ?_
              refine AW.iload_n 55 dX0_putJoin_54 rfl (by rfl) ?_
              refine AW.cV1 58 dX0_putJoin_55 rfl mi_X0_putMade mv_X0_putMade lk_X0_59 ⟨(Nat.le_of_ble_eq_true rfl), (Nat.le_of_ble_eq_true rfl)⟩ rfl (by assumption) rfl (Nat.le_of_ble_eq_true rfl) (c_putMade B' q1 q2' hs' (fun h2 B2 _ _ f2 => ?_))
              refine AW.iret dX0_putJoin_58 rfl ?_
              exact hP h2 B2 (fun z hz => by rw [f2 z hz, fr z hz])
            · rw [← slotB_eq, c3] at e3; cases e3
          · rw [← slotB_eq, c2] at e2; cases e2
        · rw [← slotB_eq, c1] at e1; cases e1
      · exact F (by rw [← slotB_eq b, c3, Bool.and_false, Bool.and_false])
theorem c_putMeet {s a b : Int32} (B : BoardAt h σ) (hP : ∀ h', BoardAt h' (meetR σ s a b).2 → FrB h h' → P (some (.int (meetR σ s a b).1)) N h') : AM X0_putMeet [.ref 4, .int s, .int a, .int b] N h P := by
  obtain ⟨b1, b2, w, b4⟩ := id B
  have x5 := b2.1
  have x6 := b2.2.1
  have hn := b2.2.2.2.2.2.1
  refine AM.of0 rfl (Nat.le_of_ble_eq_true rfl) rfl [some (.ref 4), some (.int s), some (.int a), some (.int b)] rfl ?_
  have F : (inB 6 s && (inB 6 a && inB 6 b)) = false → AW X0_putMeet 21 [some (.ref 4), some (.int s), some (.int a), some (.int b)] [] N (0, 0) h P := by
    intro e
    have hP := hP h
    rw [meetR, e] at hP
    refine AW.bipush 23 dX0_putMeet_21 rfl (-2) rfl ?_
    refine AW.iret dX0_putMeet_23 rfl ?_
    exact hP B (fun _ _ => rfl)
  refine AW.iload_n 1 dX0_putMeet_0 rfl (by rfl) ?_
  refine AW.cN1 4 dX0_putMeet_1 rfl mi_X7_isSlot ms_X7_isSlot lk_X0_44 ⟨(Nat.le_of_ble_eq_true rfl), (Nat.le_of_ble_eq_true rfl)⟩ rfl (Nat.le_of_ble_eq_true rfl) (c_isSlot ?_)
  refine AW.zeq 21 7 dX0_putMeet_4 (by decide) rfl (fun c1 => ?_) (fun c1 => ?_)
  · exact F (by rw [← slotB_eq, c1]; rfl)
  · refine AW.iload_n 8 dX0_putMeet_7 rfl (by rfl) ?_
    refine AW.cN1 11 dX0_putMeet_8 rfl mi_X7_isSlot ms_X7_isSlot lk_X0_44 ⟨(Nat.le_of_ble_eq_true rfl), (Nat.le_of_ble_eq_true rfl)⟩ rfl (Nat.le_of_ble_eq_true rfl) (c_isSlot ?_)
    refine AW.zeq 21 14 dX0_putMeet_11 (by decide) rfl (fun c2 => ?_) (fun c2 => ?_)
    · exact F (by rw [← slotB_eq a, c2, Bool.false_and, Bool.and_false])
    · refine AW.iload_n 15 dX0_putMeet_14 rfl (by rfl) ?_
      refine AW.cN1 18 dX0_putMeet_15 rfl mi_X7_isSlot ms_X7_isSlot lk_X0_44 ⟨(Nat.le_of_ble_eq_true rfl), (Nat.le_of_ble_eq_true rfl)⟩ rfl (Nat.le_of_ble_eq_true rfl) (c_isSlot ?_)
      refine AW.zne 24 21 dX0_putMeet_18 (by decide) rfl (fun c3 => ?_) (fun c3 => ?_)
      · rcases inB_cases (m := 6) (by omega) s with ⟨s', hs', rfl, e1⟩ | ⟨-, e1⟩
        · rcases inB_cases (m := 6) (by omega) a with ⟨a', ha', rfl, e2⟩ | ⟨-, e2⟩
          · rcases inB_cases (m := 6) (by omega) b with ⟨b', hb', rfl, e3⟩ | ⟨-, e3⟩
            · have eR : meetR σ (nI s') (nI a') (nI b') = putR σ s' (meC σ.1 (σ.2.1 a') (σ.2.1 b')) := by simp only [meetR, e1, e2, e3, Bool.and_self, if_true, cl_nI (show s' < 2147483648 by omega), cl_nI (show a' < 2147483648 by omega), cl_nI (show b' < 2147483648 by omega)]
              rw [eR] at hP
              obtain ⟨p1, p2⟩ := b2.2.2.1 a' ha'
              obtain ⟨p3, p4⟩ := b2.2.2.1 b' hb'
              refine AW.aload_n 25 dX0_putMeet_24 rfl (by rfl) ?_
              refine AW.getfield 28 dX0_putMeet_25 rfl fl_X0_21 (by assumption) (by rfl) ?_
              refine AW.aload_n 29 dX0_putMeet_28 rfl (by rfl) ?_
              refine AW.getfield 32 dX0_putMeet_29 rfl fl_X0_28 (by assumption) (by rfl) ?_
              refine AW.aload_n 33 dX0_putMeet_32 rfl (by rfl) ?_
              refine AW.getfield 36 dX0_putMeet_33 rfl fl_X0_12 (by assumption) (by rfl) ?_
              refine AW.getfield 39 dX0_putMeet_36 rfl fl_X0_36 (by assumption) (by rfl) ?_
              refine AW.iload_n 40 dX0_putMeet_39 rfl (by rfl) ?_
              refine AW.aaload 41 _ dX0_putMeet_40 rfl (by assumption) (fun _ => rfl) rfl (ix_nI (by omega)) (by omega) (if_pos (show a' < 6 by omega)) ?_
              refine AW.aload_n 42 dX0_putMeet_41 rfl (by rfl) ?_
              refine AW.getfield 45 dX0_putMeet_42 rfl fl_X0_12 (by assumption) (by rfl) ?_
              refine AW.getfield 48 dX0_putMeet_45 rfl fl_X0_36 (by assumption) (by rfl) ?_
              refine AW.iload_n 49 dX0_putMeet_48 rfl (by rfl) ?_
              refine AW.aaload 50 _ dX0_putMeet_49 rfl (by assumption) (fun _ => rfl) rfl (ix_nI (by omega)) (by omega) (if_pos (show b' < 6 by omega)) ?_
              have w1 := w.1
              refine AW.cV3 53 dX0_putMeet_50 rfl mi_X1_meet mv_X1_meet lk_X0_63 ⟨(Nat.le_of_ble_eq_true rfl), (Nat.le_of_ble_eq_true rfl)⟩ rfl (by assumption) rfl (Nat.le_of_ble_eq_true rfl) (c_meet p1 p2 p3 p4 b4 (by omega) hn (fun i hi => cr_lt _ _ i (by omega)) (fun i hi => cr_lt _ _ i (by omega)) ?_)
              generalize hh' : hs (hs h 44 (oP σ.1 45)) 45 (iA 8 (meetF (cr σ.1 (σ.2.1 a')) (cr σ.1 (σ.2.1 b')) σ.1)) = h'
              have q1 : h' 44 = oP σ.1 45 := by rw [← hh', hs_ne (by decide), hs_eq]
              have q2' : h' 45 = iA 8 (cr σ.1 (meC σ.1 (σ.2.1 a') (σ.2.1 b'))) := by rw [← hh', hs_eq, meC, cr_meet hn]
              have W' : LW h' := by rw [← hh']; exact (w.out (by decide)).out (by decide)
              have fr : ∀ z, z < 4 ∨ 46 ≤ z → h' z = h z := fun z hz => by rw [← hh', hs_ne (by omega), hs_ne (by omega)]
              have B' := BoardAt.made B W' (fun z hz => by rw [← hh', hs_ne (by omega), hs_ne (by omega)]) q1 q2'
              have y4 := B'.1
              refine AW.aload_n 54 dX0_putMeet_53 rfl (by rfl) ?_
              refine AW.iload_n 55 dX0_putMeet_54 rfl (by rfl) ?_
              refine AW.cV1 58 dX0_putMeet_55 rfl mi_X0_putMade mv_X0_putMade lk_X0_59 ⟨(Nat.le_of_ble_eq_true rfl), (Nat.le_of_ble_eq_true rfl)⟩ rfl (by assumption) rfl (Nat.le_of_ble_eq_true rfl) (c_putMade B' q1 q2' hs' (fun h2 B2 _ _ f2 => ?_))
              refine AW.iret dX0_putMeet_58 rfl ?_
              exact hP h2 B2 (fun z hz => by rw [f2 z hz, fr z hz])
            · rw [← slotB_eq, c3] at e3; cases e3
          · rw [← slotB_eq, c2] at e2; cases e2
        · rw [← slotB_eq, c1] at e1; cases e1
      · exact F (by rw [← slotB_eq b, c3, Bool.and_false, Bool.and_false])
theorem c_putComplement {s a : Int32} (B : BoardAt h σ) (hP : ∀ h', BoardAt h' (compR σ s a).2 → FrB h h' → P (some (.int (compR σ s a).1)) N h') : AM X0_putComplement [.ref 4, .int s, .int a] N h P := by
  obtain ⟨b1, b2, w, b4⟩ := id B
  have x5 := b2.1
  have x6 := b2.2.1
  have hn := b2.2.2.2.2.2.1
  refine AM.of0 rfl (Nat.le_of_ble_eq_true rfl) rfl [some (.ref 4), some (.int s), some (.int a)] rfl ?_
  have F : (inB 6 s && inB 6 a) = false → AW X0_putComplement 14 [some (.ref 4), some (.int s), some (.int a)] [] N (0, 0) h P := by
    intro e
    have hP := hP h
    rw [compR, e] at hP
    refine AW.bipush 16 dX0_putComplement_14 rfl (-2) rfl ?_
    refine AW.iret dX0_putComplement_16 rfl ?_
    exact hP B (fun _ _ => rfl)
  refine AW.iload_n 1 dX0_putComplement_0 rfl (by rfl) ?_
  refine AW.cN1 4 dX0_putComplement_1 rfl mi_X7_isSlot ms_X7_isSlot lk_X0_44 ⟨(Nat.le_of_ble_eq_true rfl), (Nat.le_of_ble_eq_true rfl)⟩ rfl (Nat.le_of_ble_eq_true rfl) (c_isSlot ?_)
  refine AW.zeq 14 7 dX0_putComplement_4 (by decide) rfl (fun c1 => ?_) (fun c1 => ?_)
  · exact F (by rw [← slotB_eq, c1]; rfl)
  · refine AW.iload_n 8 dX0_putComplement_7 rfl (by rfl) ?_
    refine AW.cN1 11 dX0_putComplement_8 rfl mi_X7_isSlot ms_X7_isSlot lk_X0_44 ⟨(Nat.le_of_ble_eq_true rfl), (Nat.le_of_ble_eq_true rfl)⟩ rfl (Nat.le_of_ble_eq_true rfl) (c_isSlot ?_)
    refine AW.zne 17 14 dX0_putComplement_11 (by decide) rfl (fun c2 => ?_) (fun c2 => ?_)
    · rcases inB_cases (m := 6) (by omega) s with ⟨s', hs', rfl, e1⟩ | ⟨-, e1⟩
      · rcases inB_cases (m := 6) (by omega) a with ⟨a', ha', rfl, e2⟩ | ⟨-, e2⟩
        · have eR : compR σ (nI s') (nI a') = putR σ s' (coC σ.1 (σ.2.1 a')) := by simp only [compR, e1, e2, Bool.and_self, if_true, cl_nI (show s' < 2147483648 by omega), cl_nI (show a' < 2147483648 by omega)]
          rw [eR] at hP
          obtain ⟨p1, p2⟩ := b2.2.2.1 a' ha'
          obtain ⟨f, w2⟩ := w.2.1
          have w1 := w.1
          refine AW.aload_n 18 dX0_putComplement_17 rfl (by rfl) ?_
          refine AW.getfield 21 dX0_putComplement_18 rfl fl_X0_21 (by assumption) (by rfl) ?_
          refine AW.aload_n 22 dX0_putComplement_21 rfl (by rfl) ?_
          refine AW.getfield 25 dX0_putComplement_22 rfl fl_X0_28 (by assumption) (by rfl) ?_
          refine AW.aload_n 26 dX0_putComplement_25 rfl (by rfl) ?_
          refine AW.getfield 29 dX0_putComplement_26 rfl fl_X0_12 (by assumption) (by rfl) ?_
          refine AW.getfield 32 dX0_putComplement_29 rfl fl_X0_36 (by assumption) (by rfl) ?_
          refine AW.iload_n 33 dX0_putComplement_32 rfl (by rfl) ?_
          refine AW.aaload 34 _ dX0_putComplement_33 rfl (by assumption) (fun _ => rfl) rfl (ix_nI (by omega)) (by omega) (if_pos (show a' < 6 by omega)) ?_
          refine AW.cV2 37 dX0_putComplement_34 rfl mi_X1_complement mv_X1_complement lk_X0_66 ⟨(Nat.le_of_ble_eq_true rfl), (Nat.le_of_ble_eq_true rfl)⟩ rfl (by assumption) rfl (Nat.le_of_ble_eq_true rfl) (c_complement w1 w2 p1 p2 b4 (by omega) hn (fun i hi => cr_lt _ _ i (by omega)) (fun f1 => ?_))
          generalize hh' : hs (hs (hs h 21 (stO f1)) 44 (oP σ.1 45)) 45 (iA 8 (compF (cr σ.1 (σ.2.1 a')) σ.1)) = h'
          have q1 : h' 44 = oP σ.1 45 := by rw [← hh', hs_ne (by decide), hs_eq]
          have q2' : h' 45 = iA 8 (cr σ.1 (coC σ.1 (σ.2.1 a'))) := by rw [← hh', hs_eq, coC, cr_comp hn]
          have W' : LW h' := by rw [← hh']; exact (w.s21.out (by decide)).out (by decide)
          have fr : ∀ z, z < 4 ∨ 46 ≤ z → h' z = h z := fun z hz => by rw [← hh', hs_ne (by omega), hs_ne (by omega), hs_ne (by omega)]
          have B' := BoardAt.made B W' (fun z hz => by rw [← hh', hs_ne (by omega), hs_ne (by omega), hs_ne (by omega)]) q1 q2'
          have y4 := B'.1
          refine AW.aload_n 38 dX0_putComplement_37 rfl (by rfl) ?_
          refine AW.iload_n 39 dX0_putComplement_38 rfl (by rfl) ?_
          refine AW.cV1 42 dX0_putComplement_39 rfl mi_X0_putMade mv_X0_putMade lk_X0_59 ⟨(Nat.le_of_ble_eq_true rfl), (Nat.le_of_ble_eq_true rfl)⟩ rfl (by assumption) rfl (Nat.le_of_ble_eq_true rfl) (c_putMade B' q1 q2' hs' (fun h2 B2 _ _ f2 => ?_))
          refine AW.iret dX0_putComplement_42 rfl ?_
          exact hP h2 B2 (fun z hz => by rw [f2 z hz, fr z hz])
        · rw [← slotB_eq, c2] at e2; cases e2
      · rw [← slotB_eq, c1] at e1; cases e1
    · exact F (by rw [← slotB_eq a, c2, Bool.and_false])
theorem c_putTurned {s a : Int32} (B : BoardAt h σ) (hV : ∀ a, a < 6 → (∀ x, x < σ.1 → cr σ.1 (σ.2.1 a) x ≤ x) ∧ ∀ x, x < σ.1 → cr σ.1 (tuC σ.1 (σ.2.1 a)) x ≤ x) (hP : ∀ h', BoardAt h' (turnR σ s a).2 → FrB h h' → P (some (.int (turnR σ s a).1)) N h') : AM X0_putTurned [.ref 4, .int s, .int a] N h P := by
  obtain ⟨b1, b2, w, b4⟩ := id B
  have x5 := b2.1
  have x6 := b2.2.1
  have hn := b2.2.2.2.2.2.1
  refine AM.of0 rfl (Nat.le_of_ble_eq_true rfl) rfl [some (.ref 4), some (.int s), some (.int a)] rfl ?_
  have F : (inB 6 s && inB 6 a) = false → AW X0_putTurned 14 [some (.ref 4), some (.int s), some (.int a)] [] N (0, 0) h P := by
    intro e
    have hP := hP h
    rw [turnR, e] at hP
    refine AW.bipush 16 dX0_putTurned_14 rfl (-2) rfl ?_
    refine AW.iret dX0_putTurned_16 rfl ?_
    exact hP B (fun _ _ => rfl)
  refine AW.iload_n 1 dX0_putTurned_0 rfl (by rfl) ?_
  refine AW.cN1 4 dX0_putTurned_1 rfl mi_X7_isSlot ms_X7_isSlot lk_X0_44 ⟨(Nat.le_of_ble_eq_true rfl), (Nat.le_of_ble_eq_true rfl)⟩ rfl (Nat.le_of_ble_eq_true rfl) (c_isSlot ?_)
  refine AW.zeq 14 7 dX0_putTurned_4 (by decide) rfl (fun c1 => ?_) (fun c1 => ?_)
  · exact F (by rw [← slotB_eq, c1]; rfl)
  · refine AW.iload_n 8 dX0_putTurned_7 rfl (by rfl) ?_
    refine AW.cN1 11 dX0_putTurned_8 rfl mi_X7_isSlot ms_X7_isSlot lk_X0_44 ⟨(Nat.le_of_ble_eq_true rfl), (Nat.le_of_ble_eq_true rfl)⟩ rfl (Nat.le_of_ble_eq_true rfl) (c_isSlot ?_)
    refine AW.zne 17 14 dX0_putTurned_11 (by decide) rfl (fun c2 => ?_) (fun c2 => ?_)
    · rcases inB_cases (m := 6) (by omega) s with ⟨s', hs', rfl, e1⟩ | ⟨-, e1⟩
      · rcases inB_cases (m := 6) (by omega) a with ⟨a', ha', rfl, e2⟩ | ⟨-, e2⟩
        · have eR : turnR σ (nI s') (nI a') = (nI (plcF (cr σ.1 (tuC σ.1 (σ.2.1 a'))) σ.1), upC σ s' (tuC σ.1 (σ.2.1 a'))) := by simp only [turnR, e1, e2, Bool.and_self, if_true, cl_nI (show s' < 2147483648 by omega), cl_nI (show a' < 2147483648 by omega)]
          rw [eR] at hP
          obtain ⟨p1, p2⟩ := b2.2.2.1 a' ha'
          obtain ⟨f, w2⟩ := w.2.1
          have w1 := w.1
          refine AW.aload_n 18 dX0_putTurned_17 rfl (by rfl) ?_
          refine AW.getfield 21 dX0_putTurned_18 rfl fl_X0_21 (by assumption) (by rfl) ?_
          refine AW.aload_n 22 dX0_putTurned_21 rfl (by rfl) ?_
          refine AW.getfield 25 dX0_putTurned_22 rfl fl_X0_28 (by assumption) (by rfl) ?_
          refine AW.aload_n 26 dX0_putTurned_25 rfl (by rfl) ?_
          refine AW.getfield 29 dX0_putTurned_26 rfl fl_X0_12 (by assumption) (by rfl) ?_
          refine AW.getfield 32 dX0_putTurned_29 rfl fl_X0_36 (by assumption) (by rfl) ?_
          refine AW.iload_n 33 dX0_putTurned_32 rfl (by rfl) ?_
          refine AW.aaload 34 _ dX0_putTurned_33 rfl (by assumption) (fun _ => rfl) rfl (ix_nI (by omega)) (by omega) (if_pos (show a' < 6 by omega)) ?_
          have hVa := hV a' ha'
          refine AW.cV2 37 dX0_putTurned_34 rfl mi_X1_turn mv_X1_turn lk_X0_70 ⟨(Nat.le_of_ble_eq_true rfl), (Nat.le_of_ble_eq_true rfl)⟩ rfl (by assumption) rfl (Nat.le_of_ble_eq_true rfl) (c_turn w1 w2 p1 p2 b4 (by omega) hn (fun i hi => by have := hVa.1 i hi; omega) (fun f1 => ?_))
          generalize hh' : hs (hs (hs h 21 (stO f1)) 44 (oP σ.1 45)) 45 (iA 8 (trnF (cr σ.1 (σ.2.1 a')) σ.1)) = h'
          have q1 : h' 44 = oP σ.1 45 := by rw [← hh', hs_ne (by decide), hs_eq]
          have q2' : h' 45 = iA 8 (cr σ.1 (tuC σ.1 (σ.2.1 a'))) := by rw [← hh', hs_eq, tuC, cr_trn hn]
          have W' : LW h' := by rw [← hh']; exact (w.s21.out (by decide)).out (by decide)
          have fr : ∀ z, z < 4 ∨ 46 ≤ z → h' z = h z := fun z hz => by rw [← hh', hs_ne (by omega), hs_ne (by omega), hs_ne (by omega)]
          have B' := BoardAt.made B W' (fun z hz => by rw [← hh', hs_ne (by omega), hs_ne (by omega), hs_ne (by omega)]) q1 q2'
          have y4 := B'.1
          refine AW.aload_n 38 dX0_putTurned_37 rfl (by rfl) ?_
          refine AW.iload_n 39 dX0_putTurned_38 rfl (by rfl) ?_
          refine AW.cV1 42 dX0_putTurned_39 rfl mi_X0_putMade mv_X0_putMade lk_X0_59 ⟨(Nat.le_of_ble_eq_true rfl), (Nat.le_of_ble_eq_true rfl)⟩ rfl (by assumption) rfl (Nat.le_of_ble_eq_true rfl) (c_putMade B' q1 q2' hs' (fun h2 B2 k1 k2 f2 => ?_))
          have y4 := B2.1
          have y20 := B2.2.2.1.1
          refine AW.pop 43 dX0_putTurned_42 rfl rfl ?_
          refine AW.aload_n 44 dX0_putTurned_43 rfl (by rfl) ?_
          refine AW.getfield 47 dX0_putTurned_44 rfl fl_X0_21 (by assumption) (by rfl) ?_
          refine AW.aload_n 48 dX0_putTurned_47 rfl (by rfl) ?_
          refine AW.getfield 51 dX0_putTurned_48 rfl fl_X0_28 (by assumption) (by rfl) ?_
          refine AW.cV1 54 dX0_putTurned_51 rfl mi_X1_placeOf mv_X1_placeOf lk_X0_73 ⟨(Nat.le_of_ble_eq_true rfl), (Nat.le_of_ble_eq_true rfl)⟩ rfl (by assumption) rfl (Nat.le_of_ble_eq_true rfl) (c_placeOf B2.2.2.1 k1 k2 (by decide) (by decide) hn hVa.2 (fun f3 => ?_))
          refine AW.iret dX0_putTurned_54 rfl ?_
          refine hP _ ?_ (fun z hz => by rw [hs_ne (by omega), f2 z hz, fr z hz])
          exact ⟨by rw [hs_ne (by decide), B2.1], B2.2.1.same (fun z z1 z2 => hs_ne (by omega)), B2.2.2.1.s22, B2.2.2.2.ne (by decide) (by decide)⟩
        · rw [← slotB_eq, c2] at e2; cases e2
      · rw [← slotB_eq, c1] at e1; cases e1
    · exact F (by rw [← slotB_eq a, c2, Bool.and_false])
theorem wy_lt0 : ∀ i, i < 9 → ∀ d, d < 9 → wy i d < 2147483648 := by decide +kernel
theorem wy_lt (i d : Nat) (hi : i < 9) (hd : d < 9) : wy i d < 2147483648 := wy_lt0 i hi d hd
theorem catN_lt : ∀ i, i < 9 → catN i < 2000 := by decide
theorem c_putPlace {s k : Int32} (hC : h 0 = sA catN) (B : BoardAt h σ) (hP : ∀ h', BoardAt h' (takeR σ s k).2 → FrB h h' → P (some (.int (takeR σ s k).1)) N h') : AM X0_putPlace [.ref 4, .int s, .int k] N h P := by
  obtain ⟨b1, b2, w, b4⟩ := id B
  have x5 := b2.1
  have x6 := b2.2.1
  have hn := b2.2.2.2.2.2.1
  have hcl := catN_lt σ.1 (by omega)
  refine AM.of0 rfl (Nat.le_of_ble_eq_true rfl) rfl [some (.ref 4), some (.int s), some (.int k)] rfl ?_
  have F : (inB 6 s && inB (catN σ.1) k) = false → AW X0_putPlace 26 [some (.ref 4), some (.int s), some (.int k)] [] N (0, 0) h P := by
    intro e
    have hP := hP h
    rw [takeR, e] at hP
    refine AW.bipush 28 dX0_putPlace_26 rfl (-2) rfl ?_
    refine AW.iret dX0_putPlace_28 rfl ?_
    exact hP B (fun _ _ => rfl)
  refine AW.iload_n 1 dX0_putPlace_0 rfl (by rfl) ?_
  refine AW.cN1 4 dX0_putPlace_1 rfl mi_X7_isSlot ms_X7_isSlot lk_X0_44 ⟨(Nat.le_of_ble_eq_true rfl), (Nat.le_of_ble_eq_true rfl)⟩ rfl (Nat.le_of_ble_eq_true rfl) (c_isSlot ?_)
  refine AW.zeq 26 7 dX0_putPlace_4 (by decide) rfl (fun c1 => ?_) (fun c1 => ?_)
  · exact F (by rw [← slotB_eq, c1]; rfl)
  · refine AW.iload_n 8 dX0_putPlace_7 rfl (by rfl) ?_
    refine AW.if_lt 26 11 dX0_putPlace_8 (by decide) rfl (fun c2 => ?_) (fun c2 => ?_)
    · exact F (by rw [inB_f (by omega) (Or.inl c2), Bool.and_false])
    · refine AW.iload_n 12 dX0_putPlace_11 rfl (by rfl) ?_
      refine AW.getCat 15 dX0_putPlace_12 rfl fn_X0_77 ?_
      refine AW.aload_n 16 dX0_putPlace_15 rfl (by rfl) ?_
      refine AW.getfield 19 dX0_putPlace_16 rfl fl_X0_12 (by assumption) (by rfl) ?_
      refine AW.getfield 22 dX0_putPlace_19 rfl fl_X0_32 (by assumption) (by rfl) ?_
      refine AW.iaload 23 _ dX0_putPlace_22 rfl (by assumption) (by first | exact Or.inl rfl | exact Or.inr rfl) (ix_nI (by omega)) (by omega) ?_
      refine AW.icmp_lt 29 26 dX0_putPlace_23 (by decide) rfl (fun c3 => ?_) (fun c3 => ?_)
      · rcases inB_cases (m := 6) (by omega) s with ⟨s', hs', rfl, e1⟩ | ⟨-, e1⟩
        · rcases inB_cases (m := catN σ.1) (by omega) k with ⟨k', hk', rfl, e2⟩ | ⟨z, -⟩
          · have eR : takeR σ (nI s') (nI k') = putR σ s' (taC σ.1 k') := by simp only [takeR, e1, e2, Bool.and_self, if_true, cl_nI (show s' < 2147483648 by omega), cl_nI (show k' < 2147483648 by omega)]
            rw [eR] at hP
            have w1 := w.1
            refine AW.aload_n 30 dX0_putPlace_29 rfl (by rfl) ?_
            refine AW.getfield 33 dX0_putPlace_30 rfl fl_X0_21 (by assumption) (by rfl) ?_
            refine AW.aload_n 34 dX0_putPlace_33 rfl (by rfl) ?_
            refine AW.getfield 37 dX0_putPlace_34 rfl fl_X0_28 (by assumption) (by rfl) ?_
            refine AW.aload_n 38 dX0_putPlace_37 rfl (by rfl) ?_
            refine AW.getfield 41 dX0_putPlace_38 rfl fl_X0_12 (by assumption) (by rfl) ?_
            refine AW.getfield 44 dX0_putPlace_41 rfl fl_X0_32 (by assumption) (by rfl) ?_
            refine AW.iload_n 45 dX0_putPlace_44 rfl (by rfl) ?_
            refine AW.cV3 48 dX0_putPlace_45 rfl mi_X1_takePlace mv_X1_takePlace lk_X0_81 ⟨(Nat.le_of_ble_eq_true rfl), (Nat.le_of_ble_eq_true rfl)⟩ rfl (by assumption) rfl (Nat.le_of_ble_eq_true rfl) (c_takePlace w b4 (by decide) hn (by omega) wy_lt (fun f1 => ?_))
            generalize hh' : hs (hs (hs h 23 (.inl (0, (9, .inl f1)))) 44 (oP σ.1 45)) 45 (iA 8 (tkF σ.1 k')) = h'
            have q1 : h' 44 = oP σ.1 45 := by rw [← hh', hs_ne (by decide), hs_eq]
            have q2' : h' 45 = iA 8 (cr σ.1 (taC σ.1 k')) := by rw [← hh', hs_eq, cr_tk hn]
            have W' : LW h' := by rw [← hh']; exact (w.s23.out (by decide)).out (by decide)
            have fr : ∀ z, z < 4 ∨ 46 ≤ z → h' z = h z := fun z hz => by rw [← hh', hs_ne (by omega), hs_ne (by omega), hs_ne (by omega)]
            have B' := BoardAt.made B W' (fun z hz => by rw [← hh', hs_ne (by omega), hs_ne (by omega), hs_ne (by omega)]) q1 q2'
            have y4 := B'.1
            refine AW.aload_n 49 dX0_putPlace_48 rfl (by rfl) ?_
            refine AW.iload_n 50 dX0_putPlace_49 rfl (by rfl) ?_
            refine AW.cV1 53 dX0_putPlace_50 rfl mi_X0_putMade mv_X0_putMade lk_X0_59 ⟨(Nat.le_of_ble_eq_true rfl), (Nat.le_of_ble_eq_true rfl)⟩ rfl (by assumption) rfl (Nat.le_of_ble_eq_true rfl) (c_putMade B' q1 q2' hs' (fun h2 B2 _ _ f2 => ?_))
            refine AW.iret dX0_putPlace_53 rfl ?_
            exact hP h2 B2 (fun z hz => by rw [f2 z hz, fr z hz])
          · rcases z with z | z
            · exact absurd z c2
            · exact (Int32.lt_irrefl (Int32.lt_of_lt_of_le c3 z)).elim
        · rw [← slotB_eq, c1] at e1; cases e1
      · refine F ?_
        rw [inB_f (by omega) (Or.inr (Int32.not_lt.mp c3)), Bool.and_false]
theorem c_changePoints {k : Int32} (B : BoardAt h σ) (hP : ∀ h', BoardAt h' (pointR σ k).2 → FrB h h' → P (some (.int (pointR σ k).1)) N h') : AM X0_changePoints [.ref 4, .int k] N h P := by
  obtain ⟨b1, b2, w, b4⟩ := id B
  have x5 := b2.1
  have x6 := b2.2.1
  have hn := b2.2.2.2.2.2.1
  refine AM.of0 rfl (Nat.le_of_ble_eq_true rfl) rfl [some (.ref 4), some (.int k), none, none] rfl ?_
  have F : rgB 1 8 k = false → AW X0_changePoints 11 [some (.ref 4), some (.int k), none, none] [] N (0, 0) h P := by
    intro e
    have hP := hP h
    rw [pointR, e] at hP
    refine AW.bipush 13 dX0_changePoints_11 rfl (-2) rfl ?_
    refine AW.iret dX0_changePoints_13 rfl ?_
    exact hP B (fun _ _ => rfl)
  have t1 : (nI 1).toInt = 1 := rfl
  have t8 : (nI 8).toInt = 8 := rfl
  refine AW.iload_n 1 dX0_changePoints_0 rfl (by rfl) ?_
  refine AW.iconst 2 dX0_changePoints_1 rfl (nI 1) rfl ?_
  refine AW.icmp_lt 11 5 dX0_changePoints_2 (by decide) rfl (fun c1 => ?_) (fun c1 => ?_)
  · have := Int32.lt_iff_toInt_lt.mp c1
    exact F (rgB_f (by omega))
  · have d1 := Int32.le_iff_toInt_le.mp (Int32.not_lt.mp c1)
    refine AW.iload_n 6 dX0_changePoints_5 rfl (by rfl) ?_
    refine AW.bipush 8 dX0_changePoints_6 rfl (nI 8) rfl ?_
    refine AW.icmp_le 14 11 dX0_changePoints_8 (by decide) rfl (fun c2 => ?_) (fun c2 => ?_)
    · have d2 := Int32.le_iff_toInt_le.mp c2
      obtain ⟨m, hm, rfl⟩ : ∃ m, m < 9 ∧ k = nI m := by
        rcases pk_ix k (n := 9) (by omega) with z | z | z
        · have := Int32.lt_iff_toInt_lt.mp z
          rw [show (0 : Int32).toInt = 0 from rfl] at this
          omega
        · have := Int32.le_iff_toInt_le.mp z
          rw [show (nI 9).toInt = 9 from rfl] at this
          omega
        · exact z
      have em : (nI m).toInt = (m : Int) := nI_toInt (by omega)
      have eR : pointR σ (nI m) = (nI σ.1, (m, fun _ => idC m, σ.2.2)) := by
        rw [pointR, rgB_t (by omega) (by omega), if_pos rfl, cl_nI (by omega)]
      rw [eR] at hP
      refine AW.aload_n 15 dX0_changePoints_14 rfl (by rfl) ?_
      refine AW.getfield 18 dX0_changePoints_15 rfl fl_X0_12 (by assumption) (by rfl) ?_
      refine AW.getfield 21 dX0_changePoints_18 rfl fl_X0_32 (by assumption) (by rfl) ?_
      refine AW.istore_n 22 dX0_changePoints_21 rfl (Nat.le_of_ble_eq_true rfl) rfl ?_
      refine AW.aload_n 23 dX0_changePoints_22 rfl (by rfl) ?_
      refine AW.getfield 26 dX0_changePoints_23 rfl fl_X0_12 (by assumption) (by rfl) ?_
      refine AW.iload_n 27 dX0_changePoints_26 rfl (by rfl) ?_
      refine AW.putfield 30 dX0_changePoints_27 rfl fl_X0_32 (by assumption) (Nat.le_of_ble_eq_true rfl) (fun _ => ⟨rfl, rfl⟩) ?_
      refine AW.heap (hs h 5 (statO 5 m)) rfl ?_
      refine AW.iconst 31 dX0_changePoints_30 rfl (nI 0) rfl ?_
      refine AW.istore_n 32 dX0_changePoints_31 rfl (Nat.le_of_ble_eq_true rfl) rfl ?_
      have L : ∀ j s, s + j = 6 → ∀ h1 : aH, h1 4 = brdO → h1 5 = statO 5 m → h1 6 = partsO 5 → (∀ i, i < s → h1 (5 + 2 + 2 * i) = oP m (5 + 2 + 2 * i + 1) ∧ h1 (5 + 2 + 2 * i + 1) = iA 8 idn) → (∀ i, i < 6 → PartAt h1 (5 + 2 + 2 * i) (5 + 2 + 2 * i + 1)) → (∀ z, z < 5 ∨ 19 ≤ z → h1 z = h z) → AW X0_changePoints 32 [some (.ref 4), some (.int (nI m)), some (.int (nI σ.1)), some (.int (nI s))] [] N (0, 0) h1 P := by
        intro j
        induction j with
        | zero =>
          intro s hs6 h1 g1 g2 g3 g4 g5 g6
          refine AW.iload_n 33 dX0_changePoints_32 rfl (by rfl) ?_
          refine AW.bipush 35 dX0_changePoints_33 rfl (nI 6) rfl ?_
          refine AW.nge 57 38 dX0_changePoints_35 (by decide) rfl (by omega) (by omega) (fun c => ?_) (fun c => ?_)
          · refine AW.iload_n 58 dX0_changePoints_57 rfl (by rfl) ?_
            refine AW.iret dX0_changePoints_58 rfl ?_
            refine hP h1 ⟨g1, ⟨g2, g3, fun i hi => ⟨(g4 i (by omega)).1, by rw [(g4 i (by omega)).2]; show iA 8 idn = iA 8 (cr m (idC m)); rw [cr_id (show m ≤ 8 by omega)]⟩, by rw [g6 _ (by omega)]; exact b2.2.2.2.1, (show 1 ≤ m by omega), (show m ≤ 8 by omega), b2.2.2.2.2.2.2⟩, ?_, ?_⟩ (fun z hz => g6 z (by omega))
            · obtain ⟨w1, ⟨f2, w2⟩, ⟨f3, w3⟩, ⟨f4, w4⟩, w5, w6, w7, w8, w9, w10, w11⟩ := w
              have pa : ∀ {p q : Nat}, 19 ≤ p → 19 ≤ q → PartAt h p q → PartAt h1 p q := fun hp hq ⟨m, f, r1, r2, r3⟩ => ⟨m, f, by rw [g6 _ (by omega), r1], by rw [g6 _ (by omega), r2], r3⟩
              exact ⟨by rw [g6 _ (by omega), w1], ⟨f2, by rw [g6 _ (by omega), w2]⟩, ⟨f3, by rw [g6 _ (by omega), w3]⟩, ⟨f4, by rw [g6 _ (by omega), w4]⟩, by rw [g6 _ (by omega), w5], fun i hi => by rw [g6 _ (by omega), w6 i hi], pa (by omega) (by omega) w7, pa (by omega) (by omega) w8, pa (by omega) (by omega) w9, pa (by omega) (by omega) w10, pa (by omega) (by omega) w11⟩
            · obtain ⟨m0, f, r1, r2, r3⟩ := b4
              exact ⟨m0, f, by rw [g6 _ (by omega), r1], by rw [g6 _ (by omega), r2], r3⟩
          · omega
        | succ j ih =>
          intro s hs6 h1 g1 g2 g3 g4 g5 g6
          refine AW.iload_n 33 dX0_changePoints_32 rfl (by rfl) ?_
          refine AW.bipush 35 dX0_changePoints_33 rfl (nI 6) rfl ?_
          refine AW.nge 57 38 dX0_changePoints_35 (by decide) rfl (by omega) (by omega) (fun c => ?_) (fun c => ?_)
          · omega
          · obtain ⟨m0, f0, r1, r2, r3⟩ := g5 s (by omega)
            refine AW.aload_n 39 dX0_changePoints_38 rfl (by rfl) ?_
            refine AW.getfield 42 dX0_changePoints_39 rfl fl_X0_12 (by assumption) (by rfl) ?_
            refine AW.getfield 45 dX0_changePoints_42 rfl fl_X0_36 (by assumption) (by rfl) ?_
            refine AW.iload_n 46 dX0_changePoints_45 rfl (by rfl) ?_
            refine AW.aaload 47 _ dX0_changePoints_46 rfl (by assumption) (fun _ => rfl) rfl (ix_nI (by omega)) (by omega) (if_pos (show s < 6 by omega)) ?_
            refine AW.iload_n 48 dX0_changePoints_47 rfl (by rfl) ?_
            refine AW.cV1 51 dX0_changePoints_48 rfl mi_X3_split mv_X3_split lk_X0_40 ⟨(Nat.le_of_ble_eq_true rfl), (Nat.le_of_ble_eq_true rfl)⟩ rfl (by assumption) rfl (Nat.le_of_ble_eq_true rfl) (c_split1 (g5 s (by omega)) (by omega) ?_)
            refine AW.iinc1 54 dX0_changePoints_51 rfl (by rfl) rfl ?_
            refine AW.goto 32 dX0_changePoints_54 (by decide) ?_
            refine ih (s + 1) (by omega) _ ?_ ?_ ?_ (fun i hi => ?_) (fun i hi => ?_) (fun z hz => ?_)
            · rw [hs_ne (by omega), hs_ne (by omega), g1]
            · rw [hs_ne (by omega), hs_ne (by omega), g2]
            · rw [hs_ne (by omega), hs_ne (by omega), g3]
            · by_cases e : i = s
              · subst e; exact ⟨by rw [hs_ne (by omega), hs_eq], by rw [hs_eq]⟩
              · exact ⟨by rw [hs_ne (by omega), hs_ne (by omega), (g4 i (by omega)).1], by rw [hs_ne (by omega), hs_ne (by omega), (g4 i (by omega)).2]⟩
            · exact (g5 i hi).put Row_idn.2 (by omega)
            · rw [hs_ne (by omega), hs_ne (by omega), g6 z hz]
      refine L 6 0 (by omega) _ (by rw [hs_ne (by decide), b1]) (hs_eq _ _ _) (by rw [hs_ne (by decide)]; exact x6) (fun i hi => by omega) (fun i hi => ?_) (fun z hz => hs_ne (by omega))
      exact (PartAt.of0 (b2.2.2.1 i hi).1 (b2.2.2.1 i hi).2 (cr_0 _ hn)).ne (by omega) (by omega)
    · have d2 := Int32.lt_iff_toInt_lt.mp (Int32.not_le.mp c2)
      exact F (rgB_f (by omega))
theorem c_changeNumber {n v : Int32} (B : BoardAt h σ) (hP : ∀ h', BoardAt h' (numR σ n v).2 → FrB h h' → P (some (.int (numR σ n v).1)) N h') : AM X0_changeNumber [.ref 4, .int n, .int v] N h P := by
  obtain ⟨b1, b2, w, b4⟩ := id B
  have x5 := b2.1
  have x19 : h 19 = .inl (0, (8, .inl σ.2.2)) := b2.2.2.2.1
  refine AM.of0 rfl (Nat.le_of_ble_eq_true rfl) rfl [some (.ref 4), some (.int n), some (.int v), none] rfl ?_
  have F : (rgB 1 8 n && rgB (-9) 9 v) = false → AW X0_changeNumber 23 [some (.ref 4), some (.int n), some (.int v), none] [] N (0, 0) h P := by
    intro e
    have hP := hP h
    rw [numR, e] at hP
    refine AW.bipush 25 dX0_changeNumber_23 rfl (-2) rfl ?_
    refine AW.iret dX0_changeNumber_25 rfl ?_
    exact hP B (fun _ _ => rfl)
  have t1 : (nI 1).toInt = 1 := rfl
  have t8 : (nI 8).toInt = 8 := rfl
  have t9 : (nI 9).toInt = 9 := rfl
  have tm : (-9 : Int32).toInt = -9 := rfl
  refine AW.iload_n 1 dX0_changeNumber_0 rfl (by rfl) ?_
  refine AW.iconst 2 dX0_changeNumber_1 rfl (nI 1) rfl ?_
  refine AW.icmp_lt 23 5 dX0_changeNumber_2 (by decide) rfl (fun c1 => ?_) (fun c1 => ?_)
  · have := Int32.lt_iff_toInt_lt.mp c1
    exact F (by rw [rgB_f (by omega)]; rfl)
  · have d1 := Int32.le_iff_toInt_le.mp (Int32.not_lt.mp c1)
    refine AW.iload_n 6 dX0_changeNumber_5 rfl (by rfl) ?_
    refine AW.bipush 8 dX0_changeNumber_6 rfl (nI 8) rfl ?_
    refine AW.icmp_gt 23 11 dX0_changeNumber_8 (by decide) rfl (fun c2 => ?_) (fun c2 => ?_)
    · have d2 := Int32.lt_iff_toInt_lt.mp c2
      exact F (by rw [rgB_f (by omega)]; rfl)
    · have d2 := Int32.le_iff_toInt_le.mp (Int32.not_lt.mp c2)
      refine AW.iload_n 12 dX0_changeNumber_11 rfl (by rfl) ?_
      refine AW.bipush 14 dX0_changeNumber_12 rfl (-9) rfl ?_
      refine AW.icmp_lt 23 17 dX0_changeNumber_14 (by decide) rfl (fun c3 => ?_) (fun c3 => ?_)
      · have d3 := Int32.lt_iff_toInt_lt.mp c3
        exact F (by rw [rgB_f (x := v) (by omega), Bool.and_false])
      · have d3 := Int32.le_iff_toInt_le.mp (Int32.not_lt.mp c3)
        refine AW.iload_n 18 dX0_changeNumber_17 rfl (by rfl) ?_
        refine AW.bipush 20 dX0_changeNumber_18 rfl (nI 9) rfl ?_
        refine AW.icmp_le 26 23 dX0_changeNumber_20 (by decide) rfl (fun c4 => ?_) (fun c4 => ?_)
        · have d4 := Int32.le_iff_toInt_le.mp c4
          obtain ⟨m, hm, rfl⟩ : ∃ m, m < 9 ∧ n = nI m := by
            rcases pk_ix n (n := 9) (by omega) with z | z | z
            · have := Int32.lt_iff_toInt_lt.mp z
              rw [show (0 : Int32).toInt = 0 from rfl] at this
              omega
            · have := Int32.le_iff_toInt_le.mp z
              omega
            · exact z
          have dm : (nI m).toInt = (m : Int) := nI_toInt (by omega)
          have eR : numR σ (nI m) v = (σ.2.2 (m - 1) + nI 100, (σ.1, σ.2.1, fun i => if i = m - 1 then v else σ.2.2 i)) := by
            rw [numR, rgB_t (by omega) (by omega), rgB_t (by omega) (by omega), Bool.and_self, if_pos rfl, cl_nI (by omega)]
          rw [eR] at hP
          refine AW.aload_n 27 dX0_changeNumber_26 rfl (by rfl) ?_
          refine AW.getfield 30 dX0_changeNumber_27 rfl fl_X0_12 (by assumption) (by rfl) ?_
          refine AW.getfield 33 dX0_changeNumber_30 rfl fl_X0_93 (by assumption) (by rfl) ?_
          refine AW.iload_n 34 dX0_changeNumber_33 rfl (by rfl) ?_
          refine AW.iconst 35 dX0_changeNumber_34 rfl (nI 1) rfl ?_
          first | refine AW.isubN 36 dX0_changeNumber_35 rfl (by omega) ?_ | refine AW.isub 36 dX0_changeNumber_35 rfl ?_
          refine AW.iaload 37 _ dX0_changeNumber_36 rfl (by assumption) (by first | exact Or.inl rfl | exact Or.inr rfl) (ix_nI (by omega)) (by omega) ?_
          refine AW.istore_n 38 dX0_changeNumber_37 rfl (Nat.le_of_ble_eq_true rfl) rfl ?_
          refine AW.aload_n 39 dX0_changeNumber_38 rfl (by rfl) ?_
          refine AW.getfield 42 dX0_changeNumber_39 rfl fl_X0_12 (by assumption) (by rfl) ?_
          refine AW.getfield 45 dX0_changeNumber_42 rfl fl_X0_93 (by assumption) (by rfl) ?_
          refine AW.iload_n 46 dX0_changeNumber_45 rfl (by rfl) ?_
          refine AW.iconst 47 dX0_changeNumber_46 rfl (nI 1) rfl ?_
          first | refine AW.isubN 48 dX0_changeNumber_47 rfl (by omega) ?_ | refine AW.isub 48 dX0_changeNumber_47 rfl ?_
          refine AW.iload_n 49 dX0_changeNumber_48 rfl (by rfl) ?_
          have y5 : h 5 = statO 5 σ.1 := x5
          refine AW.iastore 50 _ dX0_changeNumber_49 rfl (by assumption) (ix_nI (by omega)) (by omega) ?_
          refine AW.iload_n 51 dX0_changeNumber_50 rfl (by rfl) ?_
          refine AW.bipush 53 dX0_changeNumber_51 rfl (nI 100) rfl ?_
          first | refine AW.iaddN 54 dX0_changeNumber_53 rfl ?_ | refine AW.iadd 54 dX0_changeNumber_53 rfl ?_
          refine AW.iret dX0_changeNumber_54 rfl ?_
          refine hP _ ⟨by rw [hs_ne (by decide), b1], ⟨by rw [hs_ne (by decide)]; exact b2.1, by rw [hs_ne (by decide)]; exact b2.2.1, fun i hi => ⟨by rw [hs_ne (by omega)]; exact (b2.2.2.1 i hi).1, by rw [hs_ne (by omega)]; exact (b2.2.2.1 i hi).2⟩, by rw [hs_eq]; rfl, b2.2.2.2.2.1, b2.2.2.2.2.2.1, fun j hj => ?_⟩, ?_, b4.ne (by decide) (by decide)⟩ (fun z hz => hs_ne (by omega))
          · show (if j = m - 1 then v else σ.2.2 j) = _
            rw [if_neg (by omega)]
            exact b2.2.2.2.2.2.2 j hj
          · exact w.out (by decide)
        · have d4 := Int32.lt_iff_toInt_lt.mp (Int32.not_le.mp c4)
          exact F (by rw [rgB_f (x := v) (by omega), Bool.and_false])
end BOARD2
