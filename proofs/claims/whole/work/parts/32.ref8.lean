/-! THE MODEL, ninth part: the changes of the state now -/
def puM (n x y : Nat) : Nat := pkF n (upN (fun i => i) x y)
def putM (σ : aS) (s c : Nat) : Int32 × aS := (nI (rkM σ.1 c), upC σ s c)
def uniteM (σ : aS) (s x y : Int32) : Int32 × aS := if inB 6 s && (inB σ.1 x && inB σ.1 y) then putM σ (cl s) (joM σ.1 (σ.2.1 (cl s)) (puM σ.1 (cl x) (cl y))) else (-2, σ)
def meetM (σ : aS) (s a b : Int32) : Int32 × aS := if inB 6 s && (inB 6 a && inB 6 b) then putM σ (cl s) (meM σ.1 (σ.2.1 (cl a)) (σ.2.1 (cl b))) else (-2, σ)
def joinM (σ : aS) (s a b : Int32) : Int32 × aS := if inB 6 s && (inB 6 a && inB 6 b) then putM σ (cl s) (joM σ.1 (σ.2.1 (cl a)) (σ.2.1 (cl b))) else (-2, σ)
def compM (σ : aS) (s a : Int32) : Int32 × aS := if inB 6 s && inB 6 a then putM σ (cl s) (coM σ.1 (σ.2.1 (cl a))) else (-2, σ)
def turnM (σ : aS) (s a : Int32) : Int32 × aS := if inB 6 s && inB 6 a then (nI (numM σ.1 (tuM σ.1 (σ.2.1 (cl a)))), upC σ (cl s) (tuM σ.1 (σ.2.1 (cl a)))) else (-2, σ)
def takeM (σ : aS) (s k : Int32) : Int32 × aS := if inB 6 s && inB (catN σ.1) k then putM σ (cl s) (tb σ.1 (cl k)) else (-2, σ)
theorem lsD_min {g : Nat → Nat} {v : Nat} : ∀ k acc, (∀ y, y < k → g y = v → lsD g v k acc ≤ y) ∧ (lsD g v k acc = acc ∨ (lsD g v k acc < k ∧ g (lsD g v k acc) = v)) := by
  intro k
  induction k with
  | zero => intro acc; exact ⟨fun y hy => by omega, Or.inl rfl⟩
  | succ k ih =>
    intro acc
    rw [lsD]
    obtain ⟨i1, i2⟩ := ih (if g k = v then k else acc)
    refine ⟨fun y hy e => ?_, ?_⟩
    · rcases Nat.lt_or_ge y k with z | z
      · exact i1 y z e
      · have : y = k := by omega
        subst this
        rw [if_pos e] at i2 ⊢
        rcases i2 with q | q <;> omega
    · rcases i2 with q | q
      · by_cases e : g k = v
        · rw [if_pos e] at q ⊢
          exact Or.inr ⟨by omega, by rw [q, e]⟩
        · rw [if_neg e] at q ⊢
          exact Or.inl q
      · exact Or.inr ⟨by omega, q.2⟩
theorem pkR_g (g : Nat → Nat) (x : Nat) : g (pkR g x) = g x := by
  rcases (@lsD_min g (g x) (x + 1) x).2 with q | q
  · rw [pkR, q]
  · exact q.2
theorem pkR_min (g : Nat → Nat) (x y : Nat) (h : y ≤ x) (e : g y = g x) : pkR g x ≤ y := (@lsD_min g (g x) (x + 1) x).1 y (by omega) e
theorem pkR_eq (g : Nat → Nat) (x y : Nat) (e : g x = g y) : pkR g x = pkR g y := by
  have a := pkR_le g x
  have b := pkR_le g y
  have a2 := pkR_g g x
  have b2 := pkR_g g y
  have c : pkR g x ≤ pkR g y := by
    rcases Nat.le_total (pkR g y) x with z | z
    · exact pkR_min g x _ z (by rw [b2, e])
    · omega
  have d : pkR g y ≤ pkR g x := by
    rcases Nat.le_total (pkR g x) y with z | z
    · exact pkR_min g y _ z (by rw [a2, e])
    · omega
  omega
theorem pkR_idem (g : Nat → Nat) (x : Nat) : pkR g (pkR g x) = pkR g x := pkR_eq g _ _ (pkR_g g x)
theorem rw8_enc {r : Nat → Nat} {n x : Nat} (hn : n ≤ 8) (hr : ∀ i, i < n → r i < 8) (hx : x < n) : rw8 (enc r n) x = r x := by
  have := @cr_enc (fun i => if i < n then r i else idn i) n hn (fun i hi => by show (if i < n then r i else idn i) < 8; rw [if_pos hi]; exact hr i hi) (fun i hi => by show (if i < n then r i else idn i) = _; rw [if_neg (by omega)])
  have e : enc (fun i => if i < n then r i else idn i) n = enc r n := cnt_congr n (fun i hi => by show (if i < n then r i else idn i) * _ = _; rw [if_pos hi])
  rw [e] at this
  have := congrFun this x
  rw [cr_rw hx] at this
  rw [this]
  exact if_pos hx
theorem rw8_pk {g : Nat → Nat} {n x : Nat} (hn : n ≤ 8) (hx : x < n) : rw8 (pkF n g) x = pkR g x := rw8_enc hn (fun i hi => by have := pkR_le g i; omega) hx
theorem WfC_pk {g : Nat → Nat} {n : Nat} (hn : n ≤ 8) : WfC n (pkF n g) := by
  refine ⟨pkF_lt hn g, fun x hx => ?_⟩
  have := pkR_le g x
  rw [rw8_pk hn hx, rw8_pk hn (show pkR g x < n by omega)]
  exact ⟨this, pkR_idem g x⟩
theorem idC_lt {n : Nat} (hn : n ≤ 8) : idC n < 16777216 := by
  have := @enc_lt idn n hn (fun i hi => by rw [idn]; split <;> omega)
  have h2 : 0 < 8 ^ (8 - n) := Nat.pow_pos (by decide)
  unfold idC
  omega
theorem WfC_id {n : Nat} (hn : n ≤ 8) : WfC n (idC n) := by
  have e : ∀ x, x < n → rw8 (idC n) x = x := fun x hx => by rw [idC, rw8_enc hn (fun i hi => by rw [idn]; split <;> omega) hx, idn, if_pos (by omega)]
  exact ⟨idC_lt hn, fun x hx => by rw [e x hx, e x hx]; exact ⟨Nat.le_refl _, rfl⟩⟩
theorem lyS_wl {n i : Nat} (hi : i < catN n) : ∀ k c m, m ≤ i → lyS n k c m = true → wlM n (tb n i) = true := by
  intro k
  induction k with
  | zero => intro c m _ q; exact absurd q (by rw [lyS]; decide)
  | succ k ih =>
    intro c m hm q
    rw [lyS] at q
    rcases c1 : Nat.ble c 16777215
    · rw [c1] at q; exact absurd (show false = true from q) (by decide)
    rw [c1, cond_true] at q
    have K : ∀ m', m' ≤ i → ∀ x c, clK (fun x c => cond (Nat.beq x 0) (Nat.beq m' (catN n)) (frc (Nat.add c (Nat.pow 8 (Nat.sub 7 x))) fun c => lyS n k c m')) x c = true → wlM n (tb n i) = true := by
      intro m' hm' x
      have E : ∀ x c, cond (Nat.beq x 0) (Nat.beq m' (catN n)) (frc (Nat.add c (Nat.pow 8 (Nat.sub 7 x))) fun c => lyS n k c m') = true → wlM n (tb n i) = true := by
        intro x c q
        rcases x with _ | x
        · have := Nat.eq_of_beq_eq_true (show Nat.beq m' (catN n) = true from q)
          omega
        · have q : frc (Nat.add c (Nat.pow 8 (Nat.sub 7 (x + 1)))) (fun c => lyS n k c m') = true := q
          rw [frc_eq] at q
          exact ih _ m' hm' q
      induction x with
      | zero => intro c q; exact E 0 c q
      | succ x ihx =>
        intro c q
        rw [clK] at q
        rcases c2 : Nat.beq (rwQ c (Nat.succ x)) (Nat.succ x)
        · rw [c2, cond_false] at q; exact E (x + 1) c q
        · rw [c2, cond_true, frc_eq] at q
          exact ihx _ q
    rcases z : wlQ n c
    · rw [z, cond_false] at q
      exact K m hm _ _ q
    · rw [z, cond_true] at q
      rcases c2 : Nat.beq (tb n m) c
      · rw [c2] at q; exact absurd (show false = true from q) (by decide)
      rcases c3 : Nat.ble (Nat.succ m) (catN n)
      · rw [c2, c3] at q; exact absurd (show false = true from q) (by decide)
      rw [c2, c3, cond_true, cond_true, frc_eq] at q
      rcases Nat.lt_or_ge m i with w | w
      · exact K (m + 1) w _ _ q
      · have : i = m := by omega
        subst this
        rw [Nat.eq_of_beq_eq_true c2, ← wlQ_eq, z]
theorem tb_wl {n i : Nat} (h1 : 1 ≤ n) (h2 : n ≤ 8) (hi : i < catN n) : wlM n (tb n i) = true := by
  obtain ⟨F, hF⟩ := ly_all n h1 h2
  exact lyS_wl hi F 0 0 (Nat.zero_le _) hF
theorem WfC_wl {n c : Nat} (hc : c < 16777216) (h : wlM n c = true) : WfC n c := by
  refine ⟨hc, fun x hx => ?_⟩
  rw [wlM, Bool.and_eq_true] at h
  have := alln_iff.mp h.1 x hx
  rw [Bool.and_eq_true, decide_eq_true_iff, beq_iff_eq] at this
  exact this
theorem WfC_tb {n i : Nat} (h1 : 1 ≤ n) (h2 : n ≤ 8) (hi : i < catN n) : WfC n (tb n i) := WfC_wl (tb_lt n i) (tb_wl h1 h2 hi)
section REF8
variable {N n : Nat} {h : aH} {P : aP} {X : aX}
theorem nowF_c {σ : aS} {s : Nat} (hs : s < 6) : nowF σ (1 + s) = nI (σ.2.1 s) := by rw [nowF, if_neg (by omega), if_pos (by omega), show 1 + s - 1 = s by omega]
theorem nowF_v {σ : aS} {s : Nat} (hs : s < 8) : nowF σ (7 + s) = σ.2.2 s := by rw [nowF, if_neg (by omega), if_neg (by omega), if_pos (by omega), show 7 + s - 7 = s by omega]
theorem nowF_up {σ : aS} {s c : Nat} (hs : s < 6) : upd (nowF σ) (1 + s) (nI c) = nowF (upC σ s c) := by
  funext i
  unfold upd nowF upC upN
  by_cases e : i = 1 + s
  · subst e
    rw [if_pos rfl, if_neg (by omega), if_pos (by omega)]
    simp
  · rw [if_neg e]
    by_cases e0 : i = 0
    · rw [if_pos e0, if_pos e0]
    · rw [if_neg e0, if_neg e0]
      by_cases e7 : i < 7
      · rw [if_pos e7, if_pos e7]
        simp [show i - 1 ≠ s by omega]
      · rw [if_neg e7, if_neg e7]
theorem RfAt.n197 {σ : aS} (K : RfAt h X) (w : WfS σ) : RfAt (hs h 197 (nowA σ)) (σ, X.2) := by
  obtain ⟨⟨la, ma, at_, fa, od, d, k1, kl⟩, k2, ⟨p1, p2, f, p3, p4⟩, k4, k5, k6, ⟨g, k7, k7'⟩, k8, k9⟩ := K
  exact ⟨⟨la, ma, at_, fa, od, d, by rw [hs_ne (by decide), k1], kl.same (hs_ne (by decide)) (hs_ne (by decide))⟩, hs_eq _ _ _, ⟨p1, p2, f, by rw [hs_ne (by decide), p3], p4⟩, by rw [hs_ne (by decide), k4], by rw [hs_ne (by decide), k5], k6, ⟨g, by rw [hs_ne (by decide), k7], k7'⟩, k8.same (fun z hz => hs_ne (by omega)), w⟩
theorem WfS.up {σ : aS} {s c : Nat} (w : WfS σ) (hc : WfC σ.1 c) : WfS (upC σ s c) := by
  refine ⟨w.1, w.2.1, fun t ht => ?_⟩
  show WfC σ.1 (upN σ.2.1 s c t)
  unfold upN
  split
  · exact hc
  · exact w.2.2 t ht
theorem r_put {s c : Nat} (K : RfAt h X) (hs6 : s < 6) (hc : WfC X.1.1 c) (hP : ∀ h', RfAt h' ((putM X.1 s c).2, X.2) → FrM h h' → P (some (.int (putM X.1 s c).1)) N h') : AM X8_put [.ref 196, .int (nI s), .int (nI c)] N h P := by
  obtain ⟨_, _, _, _, _, _, x196, -⟩ := K.1
  have x197 : h 197 = .inl (0, (15, .inl (nowF X.1))) := K.2.1
  have w := K.2.2.2.2.2.2.2.2
  refine AM.of0 rfl (Nat.le_of_ble_eq_true rfl) rfl [some (.ref 196), some (.int (nI s)), some (.int (nI c))] rfl ?_
  refine AW.aload_n 1 dX8_put_0 rfl (by rfl) ?_
  refine AW.getfield 4 dX8_put_1 rfl fl_X8_7 (by assumption) (by rfl) ?_
  refine AW.iconst 5 dX8_put_4 rfl (nI 1) rfl ?_
  refine AW.iload_n 6 dX8_put_5 rfl (by rfl) ?_
  first | refine AW.iaddN 7 dX8_put_6 rfl ?_ | refine AW.iadd 7 dX8_put_6 rfl ?_
  refine AW.iload_n 8 dX8_put_7 rfl (by rfl) ?_
  refine AW.iastore 9 _ dX8_put_8 rfl (by assumption) (ix_nI (by omega)) (by omega) ?_
  rw [nowF_up hs6]
  have K' := K.n197 (w.up (s := s) hc)
  refine AW.heap (hs h 197 (nowA (upC X.1 s c))) rfl ?_
  have G := K'.now
  obtain ⟨_, _, _, _, _, _, y196, -⟩ := K'.1
  refine AW.aload_n 10 dX8_put_9 rfl (by rfl) ?_
  refine AW.iload_n 11 dX8_put_10 rfl (by rfl) ?_
  refine AW.cV1 14 dX8_put_11 rfl mi_X8_rankOf mv_X8_rankOf lk_X8_93 ⟨(Nat.le_of_ble_eq_true rfl), (Nat.le_of_ble_eq_true rfl)⟩ rfl (by assumption) rfl (Nat.le_of_ble_eq_true rfl) (c_rankOf G hc.1 ?_)
  refine AW.iret dX8_put_14 rfl ?_
  exact hP _ K' (FrM.at (by omega))
/-- a change's contract -/
def Chg (h : aH) (X : aX) (N : Nat) (P : aP) (r : Int32 × aS) : Prop := ∀ h', RfAt h' (r.2, X.2) → FrM h h' → P (some (.int r.1)) N h'
theorem RfAt.self (K : RfAt h X) : RfAt h (X.1, X.2) := K
theorem r_doMeets {s a b : Int32} (K : RfAt h X) (hP : Chg h X N P (meetM X.1 s a b)) : AM X8_doMeets [.ref 196, .int s, .int a, .int b] N h P := by
  obtain ⟨_, _, _, _, _, _, x196, -⟩ := id K.1
  have x197 : h 197 = .inl (0, (15, .inl (nowF X.1))) := K.2.1
  have w := K.2.2.2.2.2.2.2.2
  refine AM.of0 rfl (Nat.le_of_ble_eq_true rfl) rfl [some (.ref 196), some (.int s), some (.int a), some (.int b)] rfl ?_
  have F : (inB 6 s && (inB 6 a && inB 6 b)) = false → AW X8_doMeets 49 [some (.ref 196), some (.int s), some (.int a), some (.int b)] [] N (0, 0) h P := by
    intro e
    unfold Chg at hP
    rw [meetM, e] at hP
    refine AW.bipush 51 dX8_doMeets_49 rfl (-2) rfl ?_
    refine AW.iret dX8_doMeets_51 rfl ?_
    exact hP h K FrM.refl
  refine AW.iload_n 1 dX8_doMeets_0 rfl (by rfl) ?_
  refine AW.cS1 4 dX8_doMeets_1 rfl mi_X8_isSlot ms_X8_isSlot lk_X8_104 ⟨(Nat.le_of_ble_eq_true rfl), (Nat.le_of_ble_eq_true rfl)⟩ rfl (Nat.le_of_ble_eq_true rfl) (r_isSlot ?_)
  refine AW.zeq 49 7 dX8_doMeets_4 (by decide) rfl (fun c1 => ?_) (fun c1 => ?_)
  · exact F (by rw [c1]; rfl)
  · refine AW.iload_n 8 dX8_doMeets_7 rfl (by rfl) ?_
    refine AW.cS1 11 dX8_doMeets_8 rfl mi_X8_isSlot ms_X8_isSlot lk_X8_104 ⟨(Nat.le_of_ble_eq_true rfl), (Nat.le_of_ble_eq_true rfl)⟩ rfl (Nat.le_of_ble_eq_true rfl) (r_isSlot ?_)
    refine AW.zeq 49 14 dX8_doMeets_11 (by decide) rfl (fun c2 => ?_) (fun c2 => ?_)
    · exact F (by rw [c2, Bool.false_and, Bool.and_false])
    · refine AW.iload_n 15 dX8_doMeets_14 rfl (by rfl) ?_
      refine AW.cS1 18 dX8_doMeets_15 rfl mi_X8_isSlot ms_X8_isSlot lk_X8_104 ⟨(Nat.le_of_ble_eq_true rfl), (Nat.le_of_ble_eq_true rfl)⟩ rfl (Nat.le_of_ble_eq_true rfl) (r_isSlot ?_)
      refine AW.zeq 49 21 dX8_doMeets_18 (by decide) rfl (fun c3 => ?_) (fun c3 => ?_)
      · exact F (by rw [c3, Bool.and_false, Bool.and_false])
      · rcases inB_cases (m := 6) (by omega) s with ⟨s', hs', rfl, e1⟩ | ⟨-, e1⟩
        · rcases inB_cases (m := 6) (by omega) a with ⟨a', ha', rfl, e2⟩ | ⟨-, e2⟩
          · rcases inB_cases (m := 6) (by omega) b with ⟨b', hb', rfl, e3⟩ | ⟨-, e3⟩
            · have wa := w.2.2 a' ha'
              have wb := w.2.2 b' hb'
              obtain ⟨g, G⟩ := K.grp
              refine AW.aload_n 22 dX8_doMeets_21 rfl (by rfl) ?_
              refine AW.iload_n 23 dX8_doMeets_22 rfl (by rfl) ?_
              refine AW.aload_n 24 dX8_doMeets_23 rfl (by rfl) ?_
              refine AW.aload_n 25 dX8_doMeets_24 rfl (by rfl) ?_
              refine AW.getfield 28 dX8_doMeets_25 rfl fl_X8_7 (by assumption) (by rfl) ?_
              refine AW.iconst 29 dX8_doMeets_28 rfl (nI 1) rfl ?_
              refine AW.iload_n 30 dX8_doMeets_29 rfl (by rfl) ?_
              first | refine AW.iaddN 31 dX8_doMeets_30 rfl ?_ | refine AW.iadd 31 dX8_doMeets_30 rfl ?_
              refine AW.iaload 32 _ dX8_doMeets_31 rfl (by assumption) (by first | exact Or.inl rfl | exact Or.inr rfl) (ix_nI (by omega)) (by omega) ?_
              rw [nowF_c ha']
              refine AW.aload_n 33 dX8_doMeets_32 rfl (by rfl) ?_
              refine AW.getfield 36 dX8_doMeets_33 rfl fl_X8_7 (by assumption) (by rfl) ?_
              refine AW.iconst 37 dX8_doMeets_36 rfl (nI 1) rfl ?_
              refine AW.iload_n 38 dX8_doMeets_37 rfl (by rfl) ?_
              first | refine AW.iaddN 39 dX8_doMeets_38 rfl ?_ | refine AW.iadd 39 dX8_doMeets_38 rfl ?_
              refine AW.iaload 40 _ dX8_doMeets_39 rfl (by assumption) (by first | exact Or.inl rfl | exact Or.inr rfl) (ix_nI (by omega)) (by omega) ?_
              rw [nowF_c hb']
              refine AW.cV2 43 dX8_doMeets_40 rfl mi_X8_met mv_X8_met lk_X8_116 ⟨(Nat.le_of_ble_eq_true rfl), (Nat.le_of_ble_eq_true rfl)⟩ rfl (by assumption) rfl (Nat.le_of_ble_eq_true rfl) (c_met G wa.1 wb.1 ?_)
              intro g' hg'
              have K' := K.g202 hg'
              obtain ⟨_, _, _, _, _, _, y196, -⟩ := id K'.1
              refine AW.cV2 46 dX8_doMeets_43 rfl mi_X8_put mv_X8_put lk_X8_113 ⟨(Nat.le_of_ble_eq_true rfl), (Nat.le_of_ble_eq_true rfl)⟩ rfl (by assumption) rfl (Nat.le_of_ble_eq_true rfl) (r_put K' hs' (WfC_pk w.2.1) ?_)
              intro h' K2 F2
              refine AW.goto 51 dX8_doMeets_46 (by decide) ?_
              refine AW.iret dX8_doMeets_51 rfl ?_
              unfold Chg at hP
              rw [meetM, c1, c2, c3, cl_nI (by omega), cl_nI (by omega), cl_nI (by omega)] at hP
              exact hP h' K2 (FrM.trans (FrM.at (by omega)) F2)
            · rw [e3] at c3; exact absurd c3 (by decide)
          · rw [e2] at c2; exact absurd c2 (by decide)
        · rw [e1] at c1; exact absurd c1 (by decide)
end REF8
