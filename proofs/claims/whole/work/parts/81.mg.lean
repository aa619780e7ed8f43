/-! MATHEMATICS 16: counts, half turns, the digest -/
def cntA (f : Nat → Nat) (m : Nat) : Nat → Nat := Nat.rec (motive := fun _ => Nat → Nat) (fun acc => acc) (fun k ih acc => frc (Nat.add acc (f k)) ih) m
theorem cntA_eq (f : Nat → Nat) : ∀ m acc, cntA f m acc = acc + cnt f m
  | 0, _ => rfl
  | m + 1, acc => by
    show frc (acc + f m) (cntA f m) = _
    rw [frc_eq, cntA_eq f m, cnt]
    omega
def amQ (n w : Nat) : Nat := cntA (fun k => cond (Nat.beq (Nat.add (rkQ n (tb n k)) 2) w) 1 0) (catN n) 0
theorem am_tab : ∀ n, n ≤ 8 → ∀ w, w < 10 → (n = 0 ∨ w < 2 ∨ amtF n w = nI (amQ n w)) := by decide +kernel
def itQ (n : Nat) : Nat → Nat → Nat
  | 0, c => c
  | x + 1, c => frc (itQ n x c) (tuM n)
theorem itQ_eq (n : Nat) : ∀ x c, itQ n x c = ituM n x c
  | 0, _ => rfl
  | x + 1, c => by rw [itQ, frc_eq, itQ_eq n x c, ituM]
def evQ (n : Nat) : Nat := cntA (fun k => frc (tb n k) fun c => cond (Nat.beq (itQ n (Nat.div n 2) c) c) 1 0) (catN n) 0
theorem ev_2 : Nat.beq (chF 2 1) (evQ 2) = true := by decide +kernel
theorem ev_4 : Nat.beq (chF 4 2) (evQ 4) = true := by decide +kernel
theorem ev_6 : Nat.beq (chF 6 3) (evQ 6) = true := by decide +kernel
theorem ev_8 : Nat.beq (chF 8 4) (evQ 8) = true := by decide +kernel
section MG
variable {n : Nat} {X : aX}
theorem amt_eq (h1 : 1 ≤ n) (h2 : n ≤ 8) {w : Nat} (hw : w < 10) : amtF n w = nI (amtM n w) := by
  by_cases c0 : w = 0
  · subst c0; rfl
  · by_cases c1 : w = 1
    · subst c1; rfl
    · rcases am_tab n h2 w hw with h | h | h
      · omega
      · omega
      · rw [h, amQ, cntA_eq, Nat.zero_add, amtM, if_neg c0, if_neg c1]
        congr 1
        refine cnt_congr _ (fun k _ => ?_)
        show cond (Nat.beq (rkQ n (tb n k) + 2) w) 1 0 = (if rkM n (tb n k) = w - 2 then 1 else 0)
        rw [rkQ_eq, nb_eq]
        by_cases e : rkM n (tb n k) = w - 2
        · rw [if_pos e, decide_eq_true (show rkM n (tb n k) + 2 = w by omega)]; rfl
        · rw [if_neg e, decide_eq_false (show ¬ rkM n (tb n k) + 2 = w by omega)]; rfl
theorem ev_eq (hn : n = 2 ∨ n = 4 ∨ n = 6 ∨ n = 8) : chF n (n / 2) = evM n := by
  have E : evQ n = evM n := by
    rw [evQ, cntA_eq, Nat.zero_add]
    refine cnt_congr _ (fun k _ => ?_)
    show frc (tb n k) (fun c => cond (Nat.beq (itQ n (n / 2) c) c) 1 0) = _
    rw [frc_eq, itQ_eq, nb_eq]
    by_cases e : ituM n (n / 2) (tb n k) = tb n k
    · rw [if_pos e, decide_eq_true e]; rfl
    · rw [if_neg e, decide_eq_false e]; rfl
  rw [← E]
  rcases hn with rfl | rfl | rfl | rfl
  · rw [show 2 / 2 = 1 from rfl]
    exact Nat.eq_of_beq_eq_true ev_2
  · rw [show 4 / 2 = 2 from rfl]
    exact Nat.eq_of_beq_eq_true ev_4
  · rw [show 6 / 2 = 3 from rfl]
    exact Nat.eq_of_beq_eq_true ev_6
  · rw [show 8 / 2 = 4 from rfl]
    exact Nat.eq_of_beq_eq_true ev_8
theorem E_count (g : GdX X) (w : Int32) : countR X w = countM X w := by
  unfold countR countM
  by_cases c : inB 10 w = true
  · rw [if_pos c, if_pos c, amt_eq g.1.1 g.1.2.1 (inB_cl (by omega) c)]
  · rw [if_neg c, if_neg c]
theorem E_evens (g : GdX X) : evensR X = evensM X := by
  have h1 := g.1.1
  have h2 := g.1.2.1
  unfold evensR evensM
  by_cases c : X.1.1 % 2 = 0
  · rw [if_pos c, if_neg (by omega), ev_eq (by omega)]
  · rw [if_neg c, if_pos (by omega)]
theorem fldL_congr {f g : Nat → Int64} : ∀ k h, (∀ i, i < k → f i = g i) → fldL f k h = fldL g k h
  | 0, _, _ => rfl
  | k + 1, h, e => by rw [fldL, fldL, fldL_congr k h (fun i hi => e i (by omega)), e k (by omega)]
theorem dgS_eq {σ : aS} (g : GdS σ) {s : Nat} (hs : s < 6) (h : Int64) : dgS σ s h = dgSM σ s h := by
  have gc := g.2.2.1 s hs
  unfold dgS dgSM
  rw [fldL_congr 6 h (fun w hw => by rw [prop_eq g.1 g.2.1 gc hw])]
  exact fldL_congr _ _ (fun x hx => by rw [cr_rw8 hx])
theorem dgT_eq {σ : aS} (g : GdS σ) : ∀ s h, s ≤ 6 → dgT σ s h = dgTM σ s h
  | 0, _, _ => rfl
  | s + 1, h, hs => by rw [dgT, dgTM, dgT_eq g s h (by omega), dgS_eq g (by omega)]
theorem E_digD (g : GdX X) (d : Int64) : digD X d = digMD X d := by
  unfold digD digMD
  rw [dgT_eq g.1 6 _ (Nat.le_refl _), fldL_congr 10 _ (fun w hw => by rw [amt_eq g.1.1 g.1.2.1 hw])]
theorem E_dig (g : GdX X) : digR X = digMD X 2413 := E_digD g 2413
end MG
