/-! THE ABSTRACT MACHINE of this proof. Abstract addresses 0, 1, 2 are the two static rows and the script (read only, tag 6); k + 3 is the k-th cell made since the law began. A cell is an array (tag, length, contents) or an object (class, fields). -/
def gT : List Cond := lw_tbl.filter goodWord
theorem gm {w : Cond} (h : w ∈ lw_tbl) (hg : goodWord w = true) : w ∈ gT := List.mem_filter.mpr ⟨h, hg⟩
abbrev aE : Type := (Nat × vp_A) ⊕ (Nat × List Value)
abbrev aH : Type := Nat → aE
abbrev aM : Type := (Nat → ClassId) × (Nat × Nat × Nat × Nat)
abbrev aB (M : aM) : Nat := M.2.2.2.2
def aR (M : aM) (k : Nat) : Nat := match k with
  | 0 => M.2.1
  | 1 => M.2.2.1
  | 2 => M.2.2.2.1
  | k + 3 => aB M + k
def vm (M : aM) (v : Value) : Value := match v with
  | .ref a => .ref (aR M a)
  | v => v
def dm (M : aM) (d : vp_A) : vp_A := match d with
  | (n, .inr (.inr (.inr (.inr f)))) => (n, .inr (.inr (.inr (.inr (fun i => (f i).map (aR M))))))
  | d => d
def tE (M : aM) (e : aE) : va_E := match e with
  | .inl (t, d) => .inl (M.1 t, dm M d)
  | .inr (ci, fs) => .inr (ci, fs.map (vm M))
def aT (M : aM) : List (ClassId × FieldType) := [(M.1 0, .int), (M.1 1, .long), (M.1 2, .array .int), (M.1 3, .array .long), (M.1 4, .object RX3), (M.1 5, .object RX6)]
abbrev junk : aE := .inr (1000, [])
def hs (h : aH) (a : Nat) (e : aE) : aH := fun k => if k = a then e else h k
theorem hs_eq (h : aH) (a : Nat) (e : aE) : hs h a e a = e := if_pos rfl
theorem hs_ne {h : aH} {a k : Nat} {e : aE} (q : k ≠ a) : hs h a e k = h k := if_neg q
theorem hs_hs (h : aH) (a : Nat) (e e' : aE) : hs (hs h a e) a e' = hs h a e' := by
  funext k
  by_cases q : k = a <;> simp [hs, q]
theorem hs_self {h : aH} {a : Nat} {e : aE} (q : h a = e) : hs h a e = h := by
  funext k
  by_cases z : k = a
  · subst z; simp [hs, q]
  · simp [hs, z]
theorem hs_comm (h : aH) {a b : Nat} (e e' : aE) (q : a ≠ b) : hs (hs h a e) b e' = hs (hs h b e') a e := by
  funext k
  by_cases z : k = a
  · subst z; simp [hs, q]
  · simp [hs, z]
abbrev aSw (M : aM) : Nat → Prop := fun q => aB M ≤ q
/-- a row that is only read: nothing is known of its cell but its class and numbers -/
def RoAt (M : aM) (k : Nat) (e : aE) (H : Heap) : Prop := ∃ (n : Nat) (f : Nat → Int32) (cell : Cell), e = .inl (6, (n, .inl f)) ∧ H[aR M k]? = some cell ∧ cell.cls = M.1 (6 + k) ∧ cell.vm ≠ .unknown ∧ (∀ j, cell.vm ≠ .statics j) ∧ n ≤ cell.slots.size ∧ cell.slots.size.toInt32 = Int32.ofNat n ∧ ∀ j, j < n → cell.slots[j]? = some (.int (f j))
def Rep (D : va_G) (M : aM) (N : Nat) (h : aH) (H : Heap) : Prop :=
  3 ≤ N ∧ H.size + 3 = aB M + N ∧ (M.2.1 < aB M ∧ M.2.2.1 < aB M ∧ M.2.2.2.1 < aB M) ∧ (∀ k, k < 3 → RoAt M k (h k) H) ∧ (∀ k, N ≤ k → h k = junk) ∧ ∀ k, 3 ≤ k → k < N → va_at D vwCl (aR M k, tE M (h k)) H
theorem aR_lt {M : aM} {k : Nat} (hc : M.2.1 < aB M ∧ M.2.2.1 < aB M ∧ M.2.2.2.1 < aB M) (hk : k < 3) : aR M k < aB M := by
  match k, hk with
  | 0, _ => exact hc.1
  | 1, _ => exact hc.2.1
  | 2, _ => exact hc.2.2
theorem RoAt.kept {M : aM} {k : Nat} {e : aE} {H H1 : Heap} (r : RoAt M k e H) (q : H1[aR M k]? = H[aR M k]?) : RoAt M k e H1 := by
  obtain ⟨n, f, cell, a, b, c⟩ := r
  exact ⟨n, f, cell, a, by rw [q, b], c⟩
theorem aR_new {M : aM} {N : Nat} {H : Heap} (h3 : 3 ≤ N) (hz : H.size + 3 = aB M + N) : aR M N = H.size := by
  obtain ⟨k, rfl⟩ : ∃ k, N = k + 3 := ⟨N - 3, by omega⟩
  show aB M + k = _
  omega
theorem aR_inj {M : aM} {j k : Nat} (hc : M.2.1 < aB M ∧ M.2.2.1 < aB M ∧ M.2.2.2.1 < aB M) (hk : 3 ≤ k) (hjk : j ≠ k) : aR M j ≠ aR M k := by
  obtain ⟨k, rfl⟩ : ∃ q, k = q + 3 := ⟨k - 3, by omega⟩
  obtain ⟨h1, h2, h3⟩ := hc
  match j, hjk with
  | 0, _ => exact fun q => by have q : M.2.1 = aB M + k := q; omega
  | 1, _ => exact fun q => by have q : M.2.2.1 = aB M + k := q; omega
  | 2, _ => exact fun q => by have q : M.2.2.2.1 = aB M + k := q; omega
  | j + 3, hjk => exact fun q => by have q : aB M + j = aB M + k := q; omega
theorem aR_base {M : aM} {k : Nat} (hk : 3 ≤ k) : aB M ≤ aR M k := by
  obtain ⟨k, rfl⟩ : ∃ q, k = q + 3 := ⟨k - 3, by omega⟩
  exact Nat.le_add_right _ _
theorem Rep.set {D : va_G} {M : aM} {N k : Nat} {h : aH} {H H1 : Heap} {e : aE} (R : Rep D M N h H) (hk : 3 ≤ k) (hN : k < N) (he : va_at D vwCl (aR M k, tE M e) H1) (hz : H1.size = H.size) (ho : ∀ q, q ≠ aR M k → H1[q]? = H[q]?) : Rep D M N (hs h k e) H1 := by
  obtain ⟨r1, r2, r3, r4, r5, r6⟩ := R
  refine ⟨r1, by rw [hz]; exact r2, r3, fun j hj => ?_, fun j hj => ?_, fun j hj3 hj => ?_⟩
  · rw [hs_ne (by omega)]; exact (r4 j hj).kept (ho _ (aR_inj r3 hk (by omega)))
  · rw [hs_ne (by omega)]; exact r5 j hj
  · by_cases q : j = k
    · subst q; rw [hs_eq]; exact he
    · rw [hs_ne q]; exact (r6 j hj3 hj).kept (ho _ (aR_inj r3 hk q))
theorem Rep.push {D : va_G} {M : aM} {N : Nat} {h : aH} {H H1 : Heap} {e : aE} (R : Rep D M N h H) (he : va_at D vwCl (H.size, tE M e) H1) (hz : H1.size = H.size + 1) (ho : ∀ q, q < H.size → H1[q]? = H[q]?) : Rep D M (N + 1) (hs h N e) H1 := by
  obtain ⟨r1, r2, r3, r4, r5, r6⟩ := R
  refine ⟨by omega, by rw [hz]; omega, r3, fun j hj => ?_, fun j hj => ?_, fun j hj3 hj => ?_⟩
  · rw [hs_ne (by omega)]; exact (r4 j hj).kept (ho _ (by have := aR_lt r3 hj; omega))
  · rw [hs_ne (by omega)]; exact r5 j (by omega)
  · by_cases q : j = N
    · subst q; rw [hs_eq, aR_new r1 r2]; exact he
    · rw [hs_ne q]; exact (r6 j hj3 (by omega)).kept (ho _ (r6 j hj3 (by omega)).lt)
theorem Rep.lt_o {D : va_G} {M : aM} {N k ci : Nat} {h : aH} {H : Heap} {fs : List Value} {q : vw_C} (R : Rep D M N h H) (hk : h k = .inr (ci, fs)) (hc : vwCl[ci]? = some q) : 3 ≤ k ∧ k < N := by
  obtain ⟨r1, r2, r3, r4, r5, r6⟩ := R
  refine ⟨?_, ?_⟩
  · rcases Nat.lt_or_ge k 3 with z | z
    · obtain ⟨n, f, _, hx, -⟩ := r4 k z; rw [hx] at hk; cases hk
    · exact z
  · rcases Nat.lt_or_ge k N with z | z
    · exact z
    · rw [r5 k z] at hk; cases hk; cases hc
theorem Rep.lt_a {D : va_G} {M : aM} {N k t : Nat} {h : aH} {H : Heap} {x : vp_A} (R : Rep D M N h H) (hk : h k = .inl (t, x)) : k < N ∧ (t ≠ 6 → 3 ≤ k) := by
  obtain ⟨r1, r2, r3, r4, r5, r6⟩ := R
  refine ⟨?_, fun ht => ?_⟩
  · rcases Nat.lt_or_ge k N with z | z
    · exact z
    · rw [r5 k z] at hk; cases hk
  · rcases Nat.lt_or_ge k 3 with z | z
    · obtain ⟨n, f, _, hx, -⟩ := r4 k z; rw [hx] at hk; cases hk; exact absurd rfl ht
    · exact z
theorem Rep.o {D : va_G} {M : aM} {N k ci : Nat} {h : aH} {H : Heap} {fs : List Value} {q : vw_C} (R : Rep D M N h H) (hk : h k = .inr (ci, fs)) (hc : vwCl[ci]? = some q) : va_P D vwCl [(aR M k, .inr (ci, fs.map (vm M)))] H := by
  have z := R.lt_o hk hc
  have r := R.2.2.2.2.2 k z.1 z.2
  rw [hk] at r
  intro j x hx
  match j, hx with
  | 0, hx => cases hx; exact r
theorem Rep.a {D : va_G} {M : aM} {N k t : Nat} {h : aH} {H : Heap} {x : vp_A} (R : Rep D M N h H) (hk : h k = .inl (t, x)) (h3 : 3 ≤ k) : va_P D vwCl [(aR M k, .inl (M.1 t, dm M x))] H := by
  have z := (R.lt_a hk).1
  have r := R.2.2.2.2.2 k h3 z
  rw [hk] at r
  intro j x hx
  match j, hx with
  | 0, hx => cases hx; exact r
/-! locals by place -/
def lg : List (Option Value) → Nat → Option Value
  | [], _ => none
  | a :: _, 0 => a
  | _ :: t, i + 1 => lg t i
def lset : List (Option Value) → Nat → Value → List (Option Value)
  | [], _, _ => []
  | _ :: t, 0, v => some v :: t
  | a :: t, i + 1, v => a :: lset t i v
def lset2 : List (Option Value) → Nat → Value → List (Option Value)
  | [], _, _ => []
  | _ :: [], 0, v => some v :: []
  | _ :: _ :: t, 0, v => some v :: none :: t
  | a :: t, i + 1, v => a :: lset2 t i v
def okst (ls : List (Option Value)) (i : Nat) : Bool := match i with
  | 0 => true
  | j + 1 => match lg ls j with
    | some v => v.category == 1
    | none => true
def aL (M : aM) (n : Nat) (ls : List (Option Value)) (lsA : Array Slot) : Prop := lsA.size = n ∧ lv_wf lsA ∧ ∀ i v, lg ls i = some v → lsA[i]? = some (.val (vm M v))
theorem vm_cat (M : aM) (v : Value) : (vm M v).category = v.category := by cases v <;> rfl
theorem lg_lset : ∀ (ls : List (Option Value)) (i j : Nat) (v w : Value), lg (lset ls i v) j = some w → (j = i ∧ w = v) ∨ (j ≠ i ∧ lg ls j = some w)
  | [], _, _, _, _, h => by cases h
  | _ :: t, 0, 0, v, w, h => by cases h; exact Or.inl ⟨rfl, rfl⟩
  | _ :: t, 0, j + 1, v, w, h => Or.inr ⟨by omega, h⟩
  | a :: t, i + 1, 0, v, w, h => Or.inr ⟨by omega, h⟩
  | a :: t, i + 1, j + 1, v, w, h => by
    rcases lg_lset t i j v w h with ⟨h1, h2⟩ | ⟨h1, h2⟩
    · exact Or.inl ⟨by omega, h2⟩
    · exact Or.inr ⟨by omega, h2⟩
theorem lg_lset2 : ∀ (ls : List (Option Value)) (i j : Nat) (v w : Value), lg (lset2 ls i v) j = some w → (j = i ∧ w = v) ∨ (j ≠ i ∧ j ≠ i + 1 ∧ lg ls j = some w)
  | [], _, _, _, _, h => by cases h
  | _ :: [], 0, 0, v, w, h => by cases h; exact Or.inl ⟨rfl, rfl⟩
  | _ :: [], 0, j + 1, v, w, h => by cases h
  | _ :: _ :: t, 0, 0, v, w, h => by cases h; exact Or.inl ⟨rfl, rfl⟩
  | _ :: _ :: t, 0, 1, v, w, h => by cases h
  | _ :: _ :: t, 0, j + 2, v, w, h => Or.inr ⟨by omega, by omega, h⟩
  | a :: [], i + 1, 0, v, w, h => Or.inr ⟨by omega, by omega, h⟩
  | a :: [], i + 1, j + 1, v, w, h => by cases h
  | a :: b :: t, i + 1, 0, v, w, h => Or.inr ⟨by omega, by omega, h⟩
  | a :: b :: t, i + 1, j + 1, v, w, h => by
    rcases lg_lset2 (b :: t) i j v w h with ⟨h1, h2⟩ | ⟨h1, h3, h2⟩
    · exact Or.inl ⟨by omega, h2⟩
    · exact Or.inr ⟨by omega, by omega, h2⟩
def aA (M : aM) (n : Nat) (ls : List (Option Value)) : List (Nat × Value) := (List.range n).filterMap (fun i => (lg ls i).map (fun v => (i, vm M v)))
theorem aA_mem {M : aM} {n : Nat} {ls : List (Option Value)} {i : Nat} {v : Value} (h : lg ls i = some v) (hn : i < n) : (i, vm M v) ∈ aA M n ls := List.mem_filterMap.mpr ⟨i, List.mem_range.mpr hn, by rw [h]; rfl⟩
theorem aL.has {M : aM} {n : Nat} {ls : List (Option Value)} {lsA : Array Slot} (h : aL M n ls lsA) : lv_has lsA n (aA M n ls) := by
  refine ⟨h.1, h.2.1, fun q hq => ?_⟩
  obtain ⟨i, -, hi⟩ := List.mem_filterMap.mp hq
  cases hv : lg ls i with
  | none => rw [hv] at hi; cases hi
  | some v => rw [hv] at hi; cases hi; exact h.2.2 i v hv
theorem aL.lt {M : aM} {n : Nat} {ls : List (Option Value)} {lsA : Array Slot} (h : aL M n ls lsA) {i : Nat} {v : Value} (hv : lg ls i = some v) : i < n := by
  have := (Array.getElem?_eq_some_iff.mp (h.2.2 i v hv)).1
  rw [h.1] at this
  exact this
theorem okst_spec {ls : List (Option Value)} {i j : Nat} {v : Value} (h : okst ls i = true) (hj : j + 1 = i) (hv : lg ls j = some v) : v.category = 1 := by
  subst hj
  simp only [okst, hv] at h
  simpa using h
theorem aL.set1 {M : aM} {n : Nat} {ls : List (Option Value)} {lsA lsB : Array Slot} {i : Nat} {v : Value} (h : aL M n ls lsA) (ho : okst ls i = true) (hB : lv_has lsB n ((i, vm M v) :: (aA M n ls).filter (fun q => !(q.1 == i) && !(q.1 + 1 == i && q.2.category == 2)))) : aL M n (lset ls i v) lsB := by
  refine ⟨hB.1, hB.2.1, fun j w hw => ?_⟩
  rcases lg_lset ls i j v w hw with ⟨rfl, rfl⟩ | ⟨h1, h2⟩
  · exact hB.2.2 (j, vm M w) List.mem_cons_self
  · refine hB.2.2 (j, vm M w) (List.mem_cons_of_mem _ (List.mem_filter.mpr ⟨aA_mem h2 (h.lt h2), ?_⟩))
    by_cases q : j + 1 = i
    · have := okst_spec ho q h2
      simp [h1, vm_cat, this]
    · simp [h1, q]
theorem aL.set2 {M : aM} {n : Nat} {ls : List (Option Value)} {lsA lsB : Array Slot} {i : Nat} {v : Value} (h : aL M n ls lsA) (ho : okst ls i = true) (hB : lv_has lsB n ((i, vm M v) :: (aA M n ls).filter (fun q => !(q.1 == i) && (!(q.1 == i + 1) && !(q.1 + 1 == i && q.2.category == 2))))) : aL M n (lset2 ls i v) lsB := by
  refine ⟨hB.1, hB.2.1, fun j w hw => ?_⟩
  rcases lg_lset2 ls i j v w hw with ⟨rfl, rfl⟩ | ⟨h1, h3, h2⟩
  · exact hB.2.2 (j, vm M w) List.mem_cons_self
  · refine hB.2.2 (j, vm M w) (List.mem_cons_of_mem _ (List.mem_filter.mpr ⟨aA_mem h2 (h.lt h2), ?_⟩))
    by_cases q : j + 1 = i
    · have := okst_spec ho q h2
      simp [h1, h3, vm_cat, this]
    · simp [h1, h3, q]
def alocs : List Value → Nat → List (Option Value)
  | [], n => List.replicate n none
  | v :: vs, n => if v.category = 2 then some v :: none :: alocs vs (n - 2) else some v :: alocs vs (n - 1)
theorem lg_rep : ∀ (n i : Nat), lg (List.replicate n none) i = none
  | 0, _ => rfl
  | n + 1, 0 => rfl
  | n + 1, i + 1 => lg_rep n i
theorem alocs_args (M : aM) : ∀ (vs : List Value) (n o i : Nat) (v : Value), lg (alocs vs n) i = some v → (o + i, vm M v) ∈ lv_args o (vs.map (vm M))
  | [], n, o, i, v, h => by rw [alocs, lg_rep] at h; cases h
  | x :: vs, n, o, i, v, h => by
    unfold alocs at h
    rw [List.map_cons]
    unfold lv_args
    by_cases hc : x.category = 2
    · rw [if_pos hc] at h
      rw [if_pos (by rw [vm_cat]; exact hc)]
      match i, h with
      | 0, h => cases h; exact List.mem_cons_self
      | 1, h => cases h
      | i + 2, h =>
        have := alocs_args M vs (n - 2) (o + 2) i v h
        rw [show o + 2 + i = o + (i + 2) by omega] at this
        exact List.mem_cons_of_mem _ this
    · rw [if_neg hc] at h
      rw [if_neg (by rw [vm_cat]; exact hc)]
      match i, h with
      | 0, h => cases h; exact List.mem_cons_self
      | i + 1, h =>
        have := alocs_args M vs (n - 1) (o + 1) i v h
        rw [show o + 1 + i = o + (i + 1) by omega] at this
        exact List.mem_cons_of_mem _ this
/-! methods: name, code, locals, answer, level (calls inside), cells, slots -/
abbrev aY : Type := MethodName × ByteArray × Nat × Option FieldType × Nat × Nat × Nat
abbrev aP : Type := Option Value → Nat → aH → Prop
def aRm (Y : aY) : Room := { frames := Y.2.2.2.2.1, cells := Y.2.2.2.2.2.1, slots := Y.2.2.2.2.2.2, locals := 38 * Y.2.2.2.2.1 }
def aWs (Y : aY) : List Cond := .code Y.1 Y.2.1 Y.2.2.1 Y.2.2.2.1 :: gT
def nM : List (String × Nat × MethodName) := [(RX0, 44, yX7_isSlot), (RX3, 35, yX7_choose), (RX0, 137, yX7_choose), (RX5, 38, yX7_choose)]
def nF : List (String × Nat × String) := [(RX0, 77, "CATALAN"), (RX3, 39, "LONG_CHAINS"), (RX3, 42, "CATALAN")]
def aNs (s : State) : Prop := (∀ q ∈ nM, va_Nw (.methodLinkNest q.1 q.2.1 q.2.2 RX7) s) ∧ (∀ q ∈ nF, va_Nw (.fieldLinkNest q.1 q.2.1 RX7 q.2.2 "[I" RX7) s) ∧ va_AO RX3 s ∧ va_AO RX6 s ∧ (Cond.arrayOver (.array .int)).before #[] s = true ∧ (Cond.arrayOver (.array .long)).before #[] s = true
def aSt (M : aM) (s : State) : Prop := (va_Z RX7 "CATALAN" "[I" (.ref (aR M 0)) (aSw M) s s.heap ∧ ∀ k, k < 3 → ArrOfT s (M.1 (6 + k)) .int) ∧ va_Z RX7 "LONG_CHAINS" "[I" (.ref (aR M 1)) (aSw M) s s.heap ∧ aNs s
def RK (ret : Option FieldType) (ins : Instr) (r : Option Value) : Prop :=
  (ret = none ∧ ins = .return_ ∧ r = none) ∨ (∃ v, ret = some .int ∧ ins = .ireturn ∧ r = some (.int v)) ∨ (∃ v, ret = some .boolean ∧ ins = .ireturn ∧ r = some (.int v) ∧ narrow .boolean (.int v) = .int v) ∨ (∃ v, ret = some .long ∧ ins = .lreturn ∧ r = some (.long v)) ∨ (∃ t a, ret = some (.object t) ∧ ins = .areturn ∧ r = some (.ref a))
def aCx (Y : aY) (P : aP) (D : va_G) (M : aM) (p : Program) (l : Launch) (e : Env) (R : Room) (s : State) (m : MethodId) (args : Array Value) (below : List Frame) (meth : Method) (c : Code) (Z : State → Prop) : Prop :=
  p.tables.exec = Jvm.exec ∧ c.code = Y.2.1 ∧ c.maxLocals = Y.2.2.1 ∧ s.vm.findClass Y.1.cls = some m.cls ∧ (∀ w ∈ gT, w.before args s = true) ∧ va_K D vwCl (aT M) s ∧ aSt M s ∧ (Y.1.name = "<init>" → meth.name = "<init>") ∧ (Y.2.2.2.2.1 ≤ R.frames ∧ 38 * Y.2.2.2.2.1 ≤ R.locals) ∧
  ∀ (r : Option Value) (ins : Instr) (pc N' : Nat) (h' : aH) (H : Heap) (locs : List Loc) (cells slots : Nat) (lsA : Array Slot), RK Y.2.2.2.1 ins r → P r N' h' → decode Y.2.1 pc = .ok (ins, 1) → Rep D M N' h' H → va_S (aSw M) s.heap H locs → cells ≤ R.cells → slots ≤ R.slots → W p l e R s m args below meth c H locs cells slots Z (F0 m pc lsA (r.toList.map (vm M)))
/-- THE JUDGEMENT: from the place pc of Y, with these locals, stack and heap, the method comes to its end, with P -/
def AW (Y : aY) (pc : Nat) (ls : List (Option Value)) (st : List Value) (N : Nat) (u : Nat × Nat) (h : aH) (P : aP) : Prop :=
  ∀ (D : va_G) (M : aM) (p : Program) (l : Launch) (e : Env) (R : Room) (s : State) (m : MethodId) (args : Array Value) (below : List Frame) (meth : Method) (c : Code) (Z : State → Prop), aCx Y P D M p l e R s m args below meth c Z →
    ∀ (H : Heap) (locs : List Loc) (cells slots : Nat) (lsA : Array Slot), Rep D M N h H → va_S (aSw M) s.heap H locs → cells + u.1 ≤ R.cells → slots + u.2 ≤ R.slots → aL M Y.2.2.1 ls lsA →
      W p l e R s m args below meth c H locs cells slots Z (F0 m pc lsA (st.map (vm M)))
def aPc (D : va_G) (M : aM) (as : List Value) (N : Nat) (h : aH) : Array Value → State → Prop := fun a U => a = (as.map (vm M)).toArray ∧ Rep D M N h U.heap ∧ va_K D vwCl (aT M) U ∧ aSt M U
def aQc (D : va_G) (M : aM) (P : aP) : Array Value → State → Outcome → State → Prop := fun _ st o t => ∃ (r : Option Value) (N' : Nat) (h' : aH), o = .returned (r.map (vm M)) ∧ P r N' h' ∧ Rep D M N' h' t.heap ∧ st.heap.size ≤ t.heap.size ∧ ∀ q, q < st.heap.size → ¬ aSw M q → t.heap[q]? = st.heap[q]?
/-- a method, from its call to its end -/
def AM (Y : aY) (as : List Value) (N : Nat) (h : aH) (P : aP) : Prop :=
  ∀ (D : va_G) (M : aM) (l : Launch), Met l Y.1 (aWs Y) (aRm Y) (aPc D M as N h) (aQc D M P) Y.2.2.2.2.2.1 Y.2.2.2.2.2.2 (aSw M)

section AWR
variable {Y : aY} {pc : Nat} {ls : List (Option Value)} {st : List Value} {N : Nat} {u : Nat × Nat} {h : aH} {P : aP}
theorem AW.iconst {n : Int} (q : Nat) (hd : decode Y.2.1 pc = .ok (.iconst n, 1)) (hq : pc + 1 = q) (v : Int32) (hv : Int32.ofInt n = v) (k : AW Y q ls (.int v :: st) N u h P) : AW Y pc ls (st) N u h P := by
  subst hq
  intro D M p l e R s m args below meth c Z C H locs cells slots lsA hR hS h1 h2 hL
  exact lv_iconst C.1 C.2.1 hd hv (k D M p l e R s m args below meth c Z C H locs cells slots lsA hR hS h1 h2 hL)
theorem AW.bipush {n : Int} (q : Nat) (hd : decode Y.2.1 pc = .ok (.bipush n, 2)) (hq : pc + 2 = q) (v : Int32) (hv : (Int8.ofInt n).toInt32 = v) (k : AW Y q ls (.int v :: st) N u h P) : AW Y pc ls (st) N u h P := by
  subst hq
  intro D M p l e R s m args below meth c Z C H locs cells slots lsA hR hS h1 h2 hL
  exact lv_bipush C.1 C.2.1 hd hv (k D M p l e R s m args below meth c Z C H locs cells slots lsA hR hS h1 h2 hL)
theorem AW.sipush {n : Int} (q : Nat) (hd : decode Y.2.1 pc = .ok (.sipush n, 3)) (hq : pc + 3 = q) (v : Int32) (hv : (Int16.ofInt n).toInt32 = v) (k : AW Y q ls (.int v :: st) N u h P) : AW Y pc ls (st) N u h P := by
  subst hq
  intro D M p l e R s m args below meth c Z C H locs cells slots lsA hR hS h1 h2 hL
  exact lv_sipush C.1 C.2.1 hd hv (k D M p l e R s m args below meth c Z C H locs cells slots lsA hR hS h1 h2 hL)
theorem AW.lconst {n : Fin 2} (q : Nat) (hd : decode Y.2.1 pc = .ok (.lconst n, 1)) (hq : pc + 1 = q) (v : Int64) (hv : Int64.ofNat (n : Nat) = v) (k : AW Y q ls (.long v :: st) N u h P) : AW Y pc ls (st) N u h P := by
  subst hq
  intro D M p l e R s m args below meth c Z C H locs cells slots lsA hR hS h1 h2 hL
  exact lv_lconst C.1 C.2.1 hd hv (k D M p l e R s m args below meth c Z C H locs cells slots lsA hR hS h1 h2 hL)
theorem AW.ldc2 {i : Nat} {v : Int64} (q : Nat) (hd : decode Y.2.1 pc = .ok (.ldc2_w i, 3)) (hq : pc + 3 = q) (hw : Jvm.Cond.constantLong Y.1.cls i v ∈ gT) (k : AW Y q ls (.long v :: st) N u h P) : AW Y pc ls (st) N u h P := by
  subst hq
  intro D M p l e R s m args below meth c Z C H locs cells slots lsA hR hS h1 h2 hL
  exact lv_ldc2 C.1 C.2.1 C.2.2.2.1 (C.2.2.2.2.1 _ hw) hd (k D M p l e R s m args below meth c Z C H locs cells slots lsA hR hS h1 h2 hL)
theorem AW.iload_n {n : Fin 4} {x : Int32} (q : Nat) (hd : decode Y.2.1 pc = .ok (.iload_n n, 1)) (hq : pc + 1 = q) (hl : lg ls (n : Nat) = some (.int x)) (k : AW Y q ls (.int x :: st) N u h P) : AW Y pc ls (st) N u h P := by
  subst hq
  intro D M p l e R s m args below meth c Z C H locs cells slots lsA hR hS h1 h2 hL
  exact lv_iload_n C.1 C.2.1 hd rfl (hL.2.2 _ _ hl) (k D M p l e R s m args below meth c Z C H locs cells slots lsA hR hS h1 h2 hL)
theorem AW.iload {i : Nat} {x : Int32} (q : Nat) (hd : decode Y.2.1 pc = .ok (.iload i, 2)) (hq : pc + 2 = q) (hl : lg ls i = some (.int x)) (k : AW Y q ls (.int x :: st) N u h P) : AW Y pc ls (st) N u h P := by
  subst hq
  intro D M p l e R s m args below meth c Z C H locs cells slots lsA hR hS h1 h2 hL
  exact lv_iload C.1 C.2.1 hd (hL.2.2 _ _ hl) (k D M p l e R s m args below meth c Z C H locs cells slots lsA hR hS h1 h2 hL)
theorem AW.lload_n {n : Fin 4} {x : Int64} (q : Nat) (hd : decode Y.2.1 pc = .ok (.lload_n n, 1)) (hq : pc + 1 = q) (hl : lg ls (n : Nat) = some (.long x)) (k : AW Y q ls (.long x :: st) N u h P) : AW Y pc ls (st) N u h P := by
  subst hq
  intro D M p l e R s m args below meth c Z C H locs cells slots lsA hR hS h1 h2 hL
  exact lv_lload_n C.1 C.2.1 hd rfl (hL.2.2 _ _ hl) (k D M p l e R s m args below meth c Z C H locs cells slots lsA hR hS h1 h2 hL)
theorem AW.lload {i : Nat} {x : Int64} (q : Nat) (hd : decode Y.2.1 pc = .ok (.lload i, 2)) (hq : pc + 2 = q) (hl : lg ls i = some (.long x)) (k : AW Y q ls (.long x :: st) N u h P) : AW Y pc ls (st) N u h P := by
  subst hq
  intro D M p l e R s m args below meth c Z C H locs cells slots lsA hR hS h1 h2 hL
  exact lv_lload C.1 C.2.1 hd (hL.2.2 _ _ hl) (k D M p l e R s m args below meth c Z C H locs cells slots lsA hR hS h1 h2 hL)
theorem AW.aload_n {n : Fin 4} {x : Nat} (q : Nat) (hd : decode Y.2.1 pc = .ok (.aload_n n, 1)) (hq : pc + 1 = q) (hl : lg ls (n : Nat) = some (.ref x)) (k : AW Y q ls (.ref x :: st) N u h P) : AW Y pc ls (st) N u h P := by
  subst hq
  intro D M p l e R s m args below meth c Z C H locs cells slots lsA hR hS h1 h2 hL
  exact lv_aload_n C.1 C.2.1 hd rfl (hL.2.2 _ _ hl) (k D M p l e R s m args below meth c Z C H locs cells slots lsA hR hS h1 h2 hL)
theorem AW.aload {i : Nat} {x : Nat} (q : Nat) (hd : decode Y.2.1 pc = .ok (.aload i, 2)) (hq : pc + 2 = q) (hl : lg ls i = some (.ref x)) (k : AW Y q ls (.ref x :: st) N u h P) : AW Y pc ls (st) N u h P := by
  subst hq
  intro D M p l e R s m args below meth c Z C H locs cells slots lsA hR hS h1 h2 hL
  exact lv_aload C.1 C.2.1 hd (hL.2.2 _ _ hl) (k D M p l e R s m args below meth c Z C H locs cells slots lsA hR hS h1 h2 hL)
theorem AW.istore_n {n : Fin 4} {x : Int32} (q : Nat) (hd : decode Y.2.1 pc = .ok (.istore_n n, 1)) (hq : pc + 1 = q) (hi : (n : Nat) < Y.2.2.1) (ho : okst ls (n : Nat) = true) (k : AW Y q (lset ls (n : Nat) (.int x)) st N u h P) : AW Y pc ls (.int x :: st) N u h P := by
  subst hq
  intro D M p l e R s m args below meth c Z C H locs cells slots lsA hR hS h1 h2 hL
  exact lv_istore_n C.1 C.2.1 hd rfl hL.has hi rfl (fun ls1 hL1 => k D M p l e R s m args below meth c Z C H locs cells slots ls1 hR hS h1 h2 (hL.set1 (v := .int x) ho hL1))
theorem AW.istore {i : Nat} {x : Int32} (q : Nat) (hd : decode Y.2.1 pc = .ok (.istore i, 2)) (hq : pc + 2 = q) (hi : i < Y.2.2.1) (ho : okst ls i = true) (k : AW Y q (lset ls i (.int x)) st N u h P) : AW Y pc ls (.int x :: st) N u h P := by
  subst hq
  intro D M p l e R s m args below meth c Z C H locs cells slots lsA hR hS h1 h2 hL
  exact lv_istore C.1 C.2.1 hd hL.has hi rfl (fun ls1 hL1 => k D M p l e R s m args below meth c Z C H locs cells slots ls1 hR hS h1 h2 (hL.set1 (v := .int x) ho hL1))
theorem AW.astore_n {n : Fin 4} {x : Nat} (q : Nat) (hd : decode Y.2.1 pc = .ok (.astore_n n, 1)) (hq : pc + 1 = q) (hi : (n : Nat) < Y.2.2.1) (ho : okst ls (n : Nat) = true) (k : AW Y q (lset ls (n : Nat) (.ref x)) st N u h P) : AW Y pc ls (.ref x :: st) N u h P := by
  subst hq
  intro D M p l e R s m args below meth c Z C H locs cells slots lsA hR hS h1 h2 hL
  exact lv_astore_n C.1 C.2.1 hd rfl hL.has hi rfl (fun ls1 hL1 => k D M p l e R s m args below meth c Z C H locs cells slots ls1 hR hS h1 h2 (hL.set1 (v := .ref x) ho hL1))
theorem AW.astore {i : Nat} {x : Nat} (q : Nat) (hd : decode Y.2.1 pc = .ok (.astore i, 2)) (hq : pc + 2 = q) (hi : i < Y.2.2.1) (ho : okst ls i = true) (k : AW Y q (lset ls i (.ref x)) st N u h P) : AW Y pc ls (.ref x :: st) N u h P := by
  subst hq
  intro D M p l e R s m args below meth c Z C H locs cells slots lsA hR hS h1 h2 hL
  exact lv_astore C.1 C.2.1 hd hL.has hi rfl (fun ls1 hL1 => k D M p l e R s m args below meth c Z C H locs cells slots ls1 hR hS h1 h2 (hL.set1 (v := .ref x) ho hL1))
theorem AW.lstore_n {n : Fin 4} {x : Int64} (q : Nat) (hd : decode Y.2.1 pc = .ok (.lstore_n n, 1)) (hq : pc + 1 = q) (hi : (n : Nat) + 1 < Y.2.2.1) (ho : okst ls (n : Nat) = true) (k : AW Y q (lset2 ls (n : Nat) (.long x)) st N u h P) : AW Y pc ls (.long x :: st) N u h P := by
  subst hq
  intro D M p l e R s m args below meth c Z C H locs cells slots lsA hR hS h1 h2 hL
  exact lv_lstore_n C.1 C.2.1 hd rfl hL.has hi rfl (fun ls1 hL1 => k D M p l e R s m args below meth c Z C H locs cells slots ls1 hR hS h1 h2 (hL.set2 (v := .long x) ho hL1))
theorem AW.lstore {i : Nat} {x : Int64} (q : Nat) (hd : decode Y.2.1 pc = .ok (.lstore i, 2)) (hq : pc + 2 = q) (hi : i + 1 < Y.2.2.1) (ho : okst ls i = true) (k : AW Y q (lset2 ls i (.long x)) st N u h P) : AW Y pc ls (.long x :: st) N u h P := by
  subst hq
  intro D M p l e R s m args below meth c Z C H locs cells slots lsA hR hS h1 h2 hL
  exact lv_lstore C.1 C.2.1 hd hL.has hi rfl (fun ls1 hL1 => k D M p l e R s m args below meth c Z C H locs cells slots ls1 hR hS h1 h2 (hL.set2 (v := .long x) ho hL1))
theorem AW.iinc {i : Nat} {n : Int} {x : Int32} (q : Nat) (hd : decode Y.2.1 pc = .ok (.iinc i n, 3)) (hq : pc + 3 = q) (hl : lg ls i = some (.int x)) (d v : Int32) (hd2 : Int32.ofInt n = d) (hv : x + d = v) (ho : okst ls i = true) (k : AW Y q (lset ls i (.int v)) st N u h P) : AW Y pc ls st N u h P := by
  subst hq
  subst hd2
  intro D M p l e R s m args below meth c Z C H locs cells slots lsA hR hS h1 h2 hL
  obtain ⟨j, hj⟩ := List.getElem?_of_mem (aA_mem (M := M) hl (hL.lt hl))
  exact lv_iinc C.1 C.2.1 hd hL.has hj hv (hL.lt hl) rfl (fun ls1 hL1 => k D M p l e R s m args below meth c Z C H locs cells slots ls1 hR hS h1 h2 (hL.set1 (v := .int v) ho hL1))
theorem AW.iadd {x y : Int32} (q : Nat) (hd : decode Y.2.1 pc = .ok (.iadd, 1)) (hq : pc + 1 = q)  (k : AW Y q ls (.int (x + y) :: st) N u h P) : AW Y pc ls (.int y :: .int x :: st) N u h P := by
  subst hq
  intro D M p l e R s m args below meth c Z C H locs cells slots lsA hR hS h1 h2 hL
  exact lv_iadd C.1 C.2.1 hd (k D M p l e R s m args below meth c Z C H locs cells slots lsA hR hS h1 h2 hL)
theorem AW.isub {x y : Int32} (q : Nat) (hd : decode Y.2.1 pc = .ok (.isub, 1)) (hq : pc + 1 = q)  (k : AW Y q ls (.int (x - y) :: st) N u h P) : AW Y pc ls (.int y :: .int x :: st) N u h P := by
  subst hq
  intro D M p l e R s m args below meth c Z C H locs cells slots lsA hR hS h1 h2 hL
  exact lv_isub C.1 C.2.1 hd (k D M p l e R s m args below meth c Z C H locs cells slots lsA hR hS h1 h2 hL)
theorem AW.imul {x y : Int32} (q : Nat) (hd : decode Y.2.1 pc = .ok (.imul, 1)) (hq : pc + 1 = q)  (k : AW Y q ls (.int (x * y) :: st) N u h P) : AW Y pc ls (.int y :: .int x :: st) N u h P := by
  subst hq
  intro D M p l e R s m args below meth c Z C H locs cells slots lsA hR hS h1 h2 hL
  exact lv_imul C.1 C.2.1 hd (k D M p l e R s m args below meth c Z C H locs cells slots lsA hR hS h1 h2 hL)
theorem AW.iand {x y : Int32} (q : Nat) (hd : decode Y.2.1 pc = .ok (.iand, 1)) (hq : pc + 1 = q)  (k : AW Y q ls (.int (x &&& y) :: st) N u h P) : AW Y pc ls (.int y :: .int x :: st) N u h P := by
  subst hq
  intro D M p l e R s m args below meth c Z C H locs cells slots lsA hR hS h1 h2 hL
  exact lv_iand C.1 C.2.1 hd (k D M p l e R s m args below meth c Z C H locs cells slots lsA hR hS h1 h2 hL)
theorem AW.ior {x y : Int32} (q : Nat) (hd : decode Y.2.1 pc = .ok (.ior, 1)) (hq : pc + 1 = q)  (k : AW Y q ls (.int (x ||| y) :: st) N u h P) : AW Y pc ls (.int y :: .int x :: st) N u h P := by
  subst hq
  intro D M p l e R s m args below meth c Z C H locs cells slots lsA hR hS h1 h2 hL
  exact lv_ior C.1 C.2.1 hd (k D M p l e R s m args below meth c Z C H locs cells slots lsA hR hS h1 h2 hL)
theorem AW.ixor {x y : Int32} (q : Nat) (hd : decode Y.2.1 pc = .ok (.ixor, 1)) (hq : pc + 1 = q)  (k : AW Y q ls (.int (x ^^^ y) :: st) N u h P) : AW Y pc ls (.int y :: .int x :: st) N u h P := by
  subst hq
  intro D M p l e R s m args below meth c Z C H locs cells slots lsA hR hS h1 h2 hL
  exact lv_ixor C.1 C.2.1 hd (k D M p l e R s m args below meth c Z C H locs cells slots lsA hR hS h1 h2 hL)
theorem AW.idiv {x y : Int32} (q : Nat) (hd : decode Y.2.1 pc = .ok (.idiv, 1)) (hq : pc + 1 = q) (hne : ¬ y = 0) (k : AW Y q ls (.int (x / y) :: st) N u h P) : AW Y pc ls (.int y :: .int x :: st) N u h P := by
  subst hq
  intro D M p l e R s m args below meth c Z C H locs cells slots lsA hR hS h1 h2 hL
  exact lv_idiv C.1 C.2.1 hd hne (k D M p l e R s m args below meth c Z C H locs cells slots lsA hR hS h1 h2 hL)
theorem AW.ladd {x y : Int64} (q : Nat) (hd : decode Y.2.1 pc = .ok (.ladd, 1)) (hq : pc + 1 = q)  (k : AW Y q ls (.long (x + y) :: st) N u h P) : AW Y pc ls (.long y :: .long x :: st) N u h P := by
  subst hq
  intro D M p l e R s m args below meth c Z C H locs cells slots lsA hR hS h1 h2 hL
  exact lv_ladd C.1 C.2.1 hd (k D M p l e R s m args below meth c Z C H locs cells slots lsA hR hS h1 h2 hL)
theorem AW.lsub {x y : Int64} (q : Nat) (hd : decode Y.2.1 pc = .ok (.lsub, 1)) (hq : pc + 1 = q)  (k : AW Y q ls (.long (x - y) :: st) N u h P) : AW Y pc ls (.long y :: .long x :: st) N u h P := by
  subst hq
  intro D M p l e R s m args below meth c Z C H locs cells slots lsA hR hS h1 h2 hL
  exact lv_lsub C.1 C.2.1 hd (k D M p l e R s m args below meth c Z C H locs cells slots lsA hR hS h1 h2 hL)
theorem AW.lmul {x y : Int64} (q : Nat) (hd : decode Y.2.1 pc = .ok (.lmul, 1)) (hq : pc + 1 = q)  (k : AW Y q ls (.long (x * y) :: st) N u h P) : AW Y pc ls (.long y :: .long x :: st) N u h P := by
  subst hq
  intro D M p l e R s m args below meth c Z C H locs cells slots lsA hR hS h1 h2 hL
  exact lv_lmul C.1 C.2.1 hd (k D M p l e R s m args below meth c Z C H locs cells slots lsA hR hS h1 h2 hL)
theorem AW.ldiv {x y : Int64} (q : Nat) (hd : decode Y.2.1 pc = .ok (.ldiv, 1)) (hq : pc + 1 = q) (hne : ¬ y = 0) (k : AW Y q ls (.long (x / y) :: st) N u h P) : AW Y pc ls (.long y :: .long x :: st) N u h P := by
  subst hq
  intro D M p l e R s m args below meth c Z C H locs cells slots lsA hR hS h1 h2 hL
  exact lv_ldiv C.1 C.2.1 hd hne (k D M p l e R s m args below meth c Z C H locs cells slots lsA hR hS h1 h2 hL)
theorem AW.irem {x y : Int32} (q : Nat) (hd : decode Y.2.1 pc = .ok (.irem, 1)) (hq : pc + 1 = q) (hne : ¬ y = 0) (k : AW Y q ls (.int (x - x / y * y) :: st) N u h P) : AW Y pc ls (.int y :: .int x :: st) N u h P := by
  subst hq
  intro D M p l e R s m args below meth c Z C H locs cells slots lsA hR hS h1 h2 hL
  exact lv_irem C.1 C.2.1 hd hne (k D M p l e R s m args below meth c Z C H locs cells slots lsA hR hS h1 h2 hL)
theorem AW.ineg {x : Int32} (q : Nat) (hd : decode Y.2.1 pc = .ok (.ineg, 1)) (hq : pc + 1 = q)  (k : AW Y q ls (.int (-x) :: st) N u h P) : AW Y pc ls (.int x :: st) N u h P := by
  subst hq
  intro D M p l e R s m args below meth c Z C H locs cells slots lsA hR hS h1 h2 hL
  exact lv_ineg C.1 C.2.1 hd (k D M p l e R s m args below meth c Z C H locs cells slots lsA hR hS h1 h2 hL)
theorem AW.ishl {x y : Int32} (q : Nat) (hd : decode Y.2.1 pc = .ok (.ishl, 1)) (hq : pc + 1 = q)  (k : AW Y q ls (.int (x <<< (y &&& 31)) :: st) N u h P) : AW Y pc ls (.int y :: .int x :: st) N u h P := by
  subst hq
  intro D M p l e R s m args below meth c Z C H locs cells slots lsA hR hS h1 h2 hL
  exact lv_ishl C.1 C.2.1 hd (k D M p l e R s m args below meth c Z C H locs cells slots lsA hR hS h1 h2 hL)
theorem AW.ishr {x y : Int32} (q : Nat) (hd : decode Y.2.1 pc = .ok (.ishr, 1)) (hq : pc + 1 = q)  (k : AW Y q ls (.int (x >>> (y &&& 31)) :: st) N u h P) : AW Y pc ls (.int y :: .int x :: st) N u h P := by
  subst hq
  intro D M p l e R s m args below meth c Z C H locs cells slots lsA hR hS h1 h2 hL
  exact lv_ishr C.1 C.2.1 hd (k D M p l e R s m args below meth c Z C H locs cells slots lsA hR hS h1 h2 hL)
theorem AW.i2l {x : Int32} (q : Nat) (hd : decode Y.2.1 pc = .ok (.i2l, 1)) (hq : pc + 1 = q)  (k : AW Y q ls (.long x.toInt64 :: st) N u h P) : AW Y pc ls (.int x :: st) N u h P := by
  subst hq
  intro D M p l e R s m args below meth c Z C H locs cells slots lsA hR hS h1 h2 hL
  exact lv_i2l C.1 C.2.1 hd rfl (k D M p l e R s m args below meth c Z C H locs cells slots lsA hR hS h1 h2 hL)
theorem AW.lcmp {x y : Int64} (q : Nat) (hd : decode Y.2.1 pc = .ok (.lcmp, 1)) (hq : pc + 1 = q)  (k : AW Y q ls (.int (lg_cmp x y) :: st) N u h P) : AW Y pc ls (.long y :: .long x :: st) N u h P := by
  subst hq
  intro D M p l e R s m args below meth c Z C H locs cells slots lsA hR hS h1 h2 hL
  exact W.lcmp C.1 C.2.1 hd (k D M p l e R s m args below meth c Z C H locs cells slots lsA hR hS h1 h2 hL)
theorem AW.dup {v : Value} (q : Nat) (hd : decode Y.2.1 pc = .ok (.dup, 1)) (hq : pc + 1 = q) (hv : v.category = 1) (k : AW Y q ls (v :: v :: st) N u h P) : AW Y pc ls (v :: st) N u h P := by
  subst hq
  intro D M p l e R s m args below meth c Z C H locs cells slots lsA hR hS h1 h2 hL
  exact lv_dup C.1 C.2.1 hd (by rw [vm_cat]; exact hv) (k D M p l e R s m args below meth c Z C H locs cells slots lsA hR hS h1 h2 hL)
theorem AW.pop {v : Value} (q : Nat) (hd : decode Y.2.1 pc = .ok (.pop, 1)) (hq : pc + 1 = q) (hv : v.category = 1) (k : AW Y q ls (st) N u h P) : AW Y pc ls (v :: st) N u h P := by
  subst hq
  intro D M p l e R s m args below meth c Z C H locs cells slots lsA hR hS h1 h2 hL
  exact lv_pop C.1 C.2.1 hd (by rw [vm_cat]; exact hv) (k D M p l e R s m args below meth c Z C H locs cells slots lsA hR hS h1 h2 hL)
theorem AW.dup2 {v w : Value} (q : Nat) (hd : decode Y.2.1 pc = .ok (.dup2, 1)) (hq : pc + 1 = q) (hv : v.category = 1) (hw : w.category = 1) (k : AW Y q ls (v :: w :: v :: w :: st) N u h P) : AW Y pc ls (v :: w :: st) N u h P := by
  subst hq
  intro D M p l e R s m args below meth c Z C H locs cells slots lsA hR hS h1 h2 hL
  exact lv_dup2_11 C.1 C.2.1 hd (by rw [vm_cat]; exact hv) (by rw [vm_cat]; exact hw) (k D M p l e R s m args below meth c Z C H locs cells slots lsA hR hS h1 h2 hL)
theorem AW.topi {x : Int32} (y : Int32) (e : x = y) (k : AW Y pc ls (.int y :: st) N u h P) : AW Y pc ls (.int x :: st) N u h P := by subst e; exact k
theorem AW.topl {x : Int64} (y : Int64) (e : x = y) (k : AW Y pc ls (.long y :: st) N u h P) : AW Y pc ls (.long x :: st) N u h P := by subst e; exact k
theorem AW.stk (st' : List Value) (e : st = st') (k : AW Y pc ls st' N u h P) : AW Y pc ls st N u h P := by subst e; exact k
theorem AW.heap (h' : aH) (e : h = h') (k : AW Y pc ls st N u h' P) : AW Y pc ls st N u h P := by subst e; exact k
theorem AW.loc (ls' : List (Option Value)) (e : ∀ i v, lg ls' i = some v → lg ls i = some v) (k : AW Y pc ls' st N u h P) : AW Y pc ls st N u h P := by
  intro D M p l e' R s m args below meth c Z C H locs cells slots lsA hR hS h1 h2 hL
  exact k D M p l e' R s m args below meth c Z C H locs cells slots lsA hR hS h1 h2 ⟨hL.1, hL.2.1, fun i v hv => hL.2.2 i v (e i v hv)⟩
theorem AW.pcq (q : Nat) (e : pc = q) (k : AW Y q ls st N u h P) : AW Y pc ls st N u h P := by subst e; exact k
theorem AW.icmp_eq {x y : Int32} {off : Int} (t q : Nat) (hd : decode Y.2.1 pc = .ok (.if_icmp .eq off, 3)) (ht : (pc : Int) + off = (t : Int)) (hq : pc + 3 = q) (kt : x = y → AW Y t ls st N u h P) (kf : ¬ x = y → AW Y q ls st N u h P) : AW Y pc ls (.int y :: .int x :: st) N u h P := by
  subst hq
  intro D M p l e R s m args below meth c Z C H locs cells slots lsA hR hS h1 h2 hL
  exact lv_icmp_eq C.1 C.2.1 hd ht (fun z => kt z D M p l e R s m args below meth c Z C H locs cells slots lsA hR hS h1 h2 hL) (fun z => kf z D M p l e R s m args below meth c Z C H locs cells slots lsA hR hS h1 h2 hL)
theorem AW.if_eq {x : Int32} {off : Int} (t q : Nat) (hd : decode Y.2.1 pc = .ok (.ifCond .eq off, 3)) (ht : (pc : Int) + off = (t : Int)) (hq : pc + 3 = q) (kt : x = 0 → AW Y t ls st N u h P) (kf : ¬ x = 0 → AW Y q ls st N u h P) : AW Y pc ls (.int x :: st) N u h P := by
  subst hq
  intro D M p l e R s m args below meth c Z C H locs cells slots lsA hR hS h1 h2 hL
  exact lv_if_eq C.1 C.2.1 hd ht (fun z => kt z D M p l e R s m args below meth c Z C H locs cells slots lsA hR hS h1 h2 hL) (fun z => kf z D M p l e R s m args below meth c Z C H locs cells slots lsA hR hS h1 h2 hL)
theorem AW.icmp_ne {x y : Int32} {off : Int} (t q : Nat) (hd : decode Y.2.1 pc = .ok (.if_icmp .ne off, 3)) (ht : (pc : Int) + off = (t : Int)) (hq : pc + 3 = q) (kt : ¬ x = y → AW Y t ls st N u h P) (kf : x = y → AW Y q ls st N u h P) : AW Y pc ls (.int y :: .int x :: st) N u h P := by
  subst hq
  intro D M p l e R s m args below meth c Z C H locs cells slots lsA hR hS h1 h2 hL
  exact lv_icmp_ne C.1 C.2.1 hd ht (fun z => kt z D M p l e R s m args below meth c Z C H locs cells slots lsA hR hS h1 h2 hL) (fun z => kf z D M p l e R s m args below meth c Z C H locs cells slots lsA hR hS h1 h2 hL)
theorem AW.if_ne {x : Int32} {off : Int} (t q : Nat) (hd : decode Y.2.1 pc = .ok (.ifCond .ne off, 3)) (ht : (pc : Int) + off = (t : Int)) (hq : pc + 3 = q) (kt : ¬ x = 0 → AW Y t ls st N u h P) (kf : x = 0 → AW Y q ls st N u h P) : AW Y pc ls (.int x :: st) N u h P := by
  subst hq
  intro D M p l e R s m args below meth c Z C H locs cells slots lsA hR hS h1 h2 hL
  exact lv_if_ne C.1 C.2.1 hd ht (fun z => kt z D M p l e R s m args below meth c Z C H locs cells slots lsA hR hS h1 h2 hL) (fun z => kf z D M p l e R s m args below meth c Z C H locs cells slots lsA hR hS h1 h2 hL)
theorem AW.icmp_lt {x y : Int32} {off : Int} (t q : Nat) (hd : decode Y.2.1 pc = .ok (.if_icmp .lt off, 3)) (ht : (pc : Int) + off = (t : Int)) (hq : pc + 3 = q) (kt : x < y → AW Y t ls st N u h P) (kf : ¬ x < y → AW Y q ls st N u h P) : AW Y pc ls (.int y :: .int x :: st) N u h P := by
  subst hq
  intro D M p l e R s m args below meth c Z C H locs cells slots lsA hR hS h1 h2 hL
  exact lv_icmp_lt C.1 C.2.1 hd ht (fun z => kt z D M p l e R s m args below meth c Z C H locs cells slots lsA hR hS h1 h2 hL) (fun z => kf z D M p l e R s m args below meth c Z C H locs cells slots lsA hR hS h1 h2 hL)
theorem AW.if_lt {x : Int32} {off : Int} (t q : Nat) (hd : decode Y.2.1 pc = .ok (.ifCond .lt off, 3)) (ht : (pc : Int) + off = (t : Int)) (hq : pc + 3 = q) (kt : x < 0 → AW Y t ls st N u h P) (kf : ¬ x < 0 → AW Y q ls st N u h P) : AW Y pc ls (.int x :: st) N u h P := by
  subst hq
  intro D M p l e R s m args below meth c Z C H locs cells slots lsA hR hS h1 h2 hL
  exact lv_if_lt C.1 C.2.1 hd ht (fun z => kt z D M p l e R s m args below meth c Z C H locs cells slots lsA hR hS h1 h2 hL) (fun z => kf z D M p l e R s m args below meth c Z C H locs cells slots lsA hR hS h1 h2 hL)
theorem AW.icmp_ge {x y : Int32} {off : Int} (t q : Nat) (hd : decode Y.2.1 pc = .ok (.if_icmp .ge off, 3)) (ht : (pc : Int) + off = (t : Int)) (hq : pc + 3 = q) (kt : y ≤ x → AW Y t ls st N u h P) (kf : ¬ y ≤ x → AW Y q ls st N u h P) : AW Y pc ls (.int y :: .int x :: st) N u h P := by
  subst hq
  intro D M p l e R s m args below meth c Z C H locs cells slots lsA hR hS h1 h2 hL
  exact lv_icmp_ge C.1 C.2.1 hd ht (fun z => kt z D M p l e R s m args below meth c Z C H locs cells slots lsA hR hS h1 h2 hL) (fun z => kf z D M p l e R s m args below meth c Z C H locs cells slots lsA hR hS h1 h2 hL)
theorem AW.if_ge {x : Int32} {off : Int} (t q : Nat) (hd : decode Y.2.1 pc = .ok (.ifCond .ge off, 3)) (ht : (pc : Int) + off = (t : Int)) (hq : pc + 3 = q) (kt : 0 ≤ x → AW Y t ls st N u h P) (kf : ¬ 0 ≤ x → AW Y q ls st N u h P) : AW Y pc ls (.int x :: st) N u h P := by
  subst hq
  intro D M p l e R s m args below meth c Z C H locs cells slots lsA hR hS h1 h2 hL
  exact lv_if_ge C.1 C.2.1 hd ht (fun z => kt z D M p l e R s m args below meth c Z C H locs cells slots lsA hR hS h1 h2 hL) (fun z => kf z D M p l e R s m args below meth c Z C H locs cells slots lsA hR hS h1 h2 hL)
theorem AW.icmp_gt {x y : Int32} {off : Int} (t q : Nat) (hd : decode Y.2.1 pc = .ok (.if_icmp .gt off, 3)) (ht : (pc : Int) + off = (t : Int)) (hq : pc + 3 = q) (kt : y < x → AW Y t ls st N u h P) (kf : ¬ y < x → AW Y q ls st N u h P) : AW Y pc ls (.int y :: .int x :: st) N u h P := by
  subst hq
  intro D M p l e R s m args below meth c Z C H locs cells slots lsA hR hS h1 h2 hL
  exact lv_icmp_gt C.1 C.2.1 hd ht (fun z => kt z D M p l e R s m args below meth c Z C H locs cells slots lsA hR hS h1 h2 hL) (fun z => kf z D M p l e R s m args below meth c Z C H locs cells slots lsA hR hS h1 h2 hL)
theorem AW.if_gt {x : Int32} {off : Int} (t q : Nat) (hd : decode Y.2.1 pc = .ok (.ifCond .gt off, 3)) (ht : (pc : Int) + off = (t : Int)) (hq : pc + 3 = q) (kt : 0 < x → AW Y t ls st N u h P) (kf : ¬ 0 < x → AW Y q ls st N u h P) : AW Y pc ls (.int x :: st) N u h P := by
  subst hq
  intro D M p l e R s m args below meth c Z C H locs cells slots lsA hR hS h1 h2 hL
  exact lv_if_gt C.1 C.2.1 hd ht (fun z => kt z D M p l e R s m args below meth c Z C H locs cells slots lsA hR hS h1 h2 hL) (fun z => kf z D M p l e R s m args below meth c Z C H locs cells slots lsA hR hS h1 h2 hL)
theorem AW.icmp_le {x y : Int32} {off : Int} (t q : Nat) (hd : decode Y.2.1 pc = .ok (.if_icmp .le off, 3)) (ht : (pc : Int) + off = (t : Int)) (hq : pc + 3 = q) (kt : x ≤ y → AW Y t ls st N u h P) (kf : ¬ x ≤ y → AW Y q ls st N u h P) : AW Y pc ls (.int y :: .int x :: st) N u h P := by
  subst hq
  intro D M p l e R s m args below meth c Z C H locs cells slots lsA hR hS h1 h2 hL
  exact lv_icmp_le C.1 C.2.1 hd ht (fun z => kt z D M p l e R s m args below meth c Z C H locs cells slots lsA hR hS h1 h2 hL) (fun z => kf z D M p l e R s m args below meth c Z C H locs cells slots lsA hR hS h1 h2 hL)
theorem AW.if_le {x : Int32} {off : Int} (t q : Nat) (hd : decode Y.2.1 pc = .ok (.ifCond .le off, 3)) (ht : (pc : Int) + off = (t : Int)) (hq : pc + 3 = q) (kt : x ≤ 0 → AW Y t ls st N u h P) (kf : ¬ x ≤ 0 → AW Y q ls st N u h P) : AW Y pc ls (.int x :: st) N u h P := by
  subst hq
  intro D M p l e R s m args below meth c Z C H locs cells slots lsA hR hS h1 h2 hL
  exact lv_if_le C.1 C.2.1 hd ht (fun z => kt z D M p l e R s m args below meth c Z C H locs cells slots lsA hR hS h1 h2 hL) (fun z => kf z D M p l e R s m args below meth c Z C H locs cells slots lsA hR hS h1 h2 hL)
theorem AW.goto {off : Int} (t : Nat) (hd : decode Y.2.1 pc = .ok (.goto off, 3)) (ht : (pc : Int) + off = (t : Int)) (k : AW Y t ls st N u h P) : AW Y pc ls st N u h P := by
  intro D M p l e R s m args below meth c Z C H locs cells slots lsA hR hS h1 h2 hL
  exact lv_goto C.1 C.2.1 hd ht (k D M p l e R s m args below meth c Z C H locs cells slots lsA hR hS h1 h2 hL)
theorem AW.tsOut {dflt lo hi : Int} {offs : Array Int} {len : Nat} {x : Int32} (t : Nat) (hd : decode Y.2.1 pc = .ok (.tableswitch dflt lo hi offs, len)) (hx : x.toInt < lo ∨ hi < x.toInt) (ht : (pc : Int) + dflt = (t : Int)) (k : AW Y t ls st N u h P) : AW Y pc ls (.int x :: st) N u h P := by
  intro D M p l e R s m args below meth c Z C H locs cells slots lsA hR hS h1 h2 hL
  exact lv_tableOut C.1 C.2.1 hd hx ht (k D M p l e R s m args below meth c Z C H locs cells slots lsA hR hS h1 h2 hL)
theorem AW.tsIn {dflt lo hi : Int} {offs : Array Int} {len : Nat} {x : Int32} {off : Int} (t : Nat) (hd : decode Y.2.1 pc = .ok (.tableswitch dflt lo hi offs, len)) (hlo : ¬ x.toInt < lo) (hhi : ¬ hi < x.toInt) (ho : offs[(x.toInt - lo).toNat]? = some off) (ht : (pc : Int) + off = (t : Int)) (k : AW Y t ls st N u h P) : AW Y pc ls (.int x :: st) N u h P := by
  intro D M p l e R s m args below meth c Z C H locs cells slots lsA hR hS h1 h2 hL
  exact lv_tableIn C.1 C.2.1 hd hlo hhi ho ht (k D M p l e R s m args below meth c Z C H locs cells slots lsA hR hS h1 h2 hL)
def FL (own : String) (idx ci k : Nat) (ty : FieldType) (fin : Bool) : Prop := ∃ (C : String) (T : u_T) (n : Nat) (ty0 : Nat → FieldType), vwCl[ci]? = some (C, T, n) ∧ k < n ∧ Cond.fieldLink own idx C (T k).2.1 (T k).2.2.1 ∈ gT ∧ (T k).1 = C ∧ (∀ w ∈ u_ws C T n, w ∈ gT) ∧ (∀ j, j < n → parseFieldDescriptor (T j).2.2.1 = some (ty0 j)) ∧ (∀ a, a < n → ∀ b, b < n → a ≠ b → (T a).2.1 ≠ (T b).2.1) ∧ ty0 k = ty ∧ (T k).2.2.2 = fin
theorem AW.getfield {idx ci k a : Nat} {ty : FieldType} {fin : Bool} {fs : List Value} {v : Value} (q : Nat) (hd : decode Y.2.1 pc = .ok (.getfield idx, 3)) (hq : pc + 3 = q) (hf : FL Y.1.cls idx ci k ty fin) (ha : h a = .inr (ci, fs)) (hv : fs[k]? = some v) (kk : AW Y q ls (v :: st) N u h P) : AW Y pc ls (.ref a :: st) N u h P := by
  subst hq
  obtain ⟨C0, T, n, ty0, hc, hk, hlk, hT, hin, -⟩ := hf
  intro D M p l e R s m args below meth c Z C H locs cells slots lsA hR hS h1 h2 hL
  exact va_get (a := aR M a) C.1 C.2.1 C.2.2.2.2.1 hin C.2.2.2.1 C.2.2.2.2.2.1 (hR.o ha hc) 0 rfl hc k hk (C.2.2.2.2.1 _ hlk) (fun x hx => by rw [hT] at hx; exact hx) (v := vm M v) (by rw [List.getElem?_map, hv]; rfl) hd (kk D M p l e R s m args below meth c Z C H locs cells slots lsA hR hS h1 h2 hL)
theorem AW.putfield {idx ci k a : Nat} {ty : FieldType} {fs : List Value} {v : Value} (q : Nat) (hd : decode Y.2.1 pc = .ok (.putfield idx, 3)) (hq : pc + 3 = q) (hf : FL Y.1.cls idx ci k ty false) (ha : h a = .inr (ci, fs)) (hl : k < fs.length) (hn : ∀ M, narrow ty (vm M v) = vm M v ∧ fits ty (vm M v) = true) (kk : AW Y q ls st N u (hs h a (.inr (ci, fs.set k v))) P) : AW Y pc ls (v :: .ref a :: st) N u h P := by
  subst hq
  obtain ⟨C0, T, n, ty0, hc, hk, hlk, hT, hin, hty, hnm, hty0, hfin⟩ := hf
  intro D M p l e R s m args below meth c Z C H locs cells slots lsA hR hS h1 h2 hL
  have hts := C.2.2.2.2.1
  have hK := C.2.2.2.2.2.1
  have hap := va_apart (own := Y.1.cls) hts hin ty0 hty hnm hK hc
  obtain ⟨r, hr1, cell, q1, q2, q3, q4⟩ := hR.o ha hc 0 _ rfl
  have hr : r = (C0, T, n) := Option.some.inj (hr1.symm.trans hc)
  subst hr
  obtain ⟨hSl, hfc, kC, hkC, hkind⟩ := hK.1 ci _ hc
  obtain ⟨cf, kf, fi, f, hi, hsl⟩ := hSl k hk
  have hlay := hts _ (hin _ (u_in_lay hk))
  unfold u_lay at hlay
  obtain ⟨h3, hN⟩ := hR.lt_o ha hc
  have hsame : ∀ x, s.fieldFound? (T k).1 (T k).2.1 (T k).2.2.1 = some x → s.fieldFound? C0 (T k).2.1 (T k).2.2.1 = some x := fun x hx => by rw [hT] at hx; exact hx
  have hst := (u_facts hfc hkC (u_lays hts hin hk) hi).1
  have htk : parseFieldDescriptor (T k).2.2.1 = some ty := by rw [hty k hk, hty0]
  rw [if_neg (by rw [hfin]; decide)] at hlay
  have h6 := u_store hfc hkC hkind hlay hi htk (hn M).1 (hn M).2
  refine W.putK C.1 C.2.1 (f := f) ⟨C.2.2.2.1, hts _ hlk, ⟨_, _, _, hsame _ hi⟩, hst⟩ (by rw [q2]; exact h6) q1 q3 (by rw [hsl]; exact k2_hasslot (q4 k hk)) rfl rfl hd fun H' e1 e2 e3 => ?_
  rw [hsl] at e1
  refine kk D M p l e R s m args below meth c Z C H' _ cells slots lsA (hR.set h3 hN ⟨_, hc, t_OB.to (V := updV (vp_V (fs.map (vm M))) k (vm M v)) ⟨_, e1, q2, q3, t_set q4 hap hk _⟩ (fun j _ => ?_)⟩ e2 e3) (hS.put e2 e3 (aR_base h3)) h1 h2 hL
  rw [vp_updV_set (by rw [List.length_map]; exact hl), ← List.map_set]
theorem AW.putfieldF {idx ci k a : Nat} {ty : FieldType} {fs : List Value} {v : Value} (q : Nat) (hd : decode Y.2.1 pc = .ok (.putfield idx, 3)) (hq : pc + 3 = q) (hf : FL Y.1.cls idx ci k ty true) (ha : h a = .inr (ci, fs)) (hl : k < fs.length) (hn : ∀ M, narrow ty (vm M v) = vm M v ∧ fits ty (vm M v) = true) (hini : Y.1.name = "<init>") (hdc : (vwCl[ci]?).map (fun q => q.1) = some Y.1.cls) (kk : AW Y q ls st N u (hs h a (.inr (ci, fs.set k v))) P) : AW Y pc ls (v :: .ref a :: st) N u h P := by
  subst hq
  obtain ⟨C0, T, n, ty0, hc, hk, hlk, hT, hin, hty, hnm, hty0, hfin⟩ := hf
  intro D M p l e R s m args below meth c Z C H locs cells slots lsA hR hS h1 h2 hL
  have hts := C.2.2.2.2.1
  have hK := C.2.2.2.2.2.1
  have hap := va_apart (own := Y.1.cls) hts hin ty0 hty hnm hK hc
  obtain ⟨r, hr1, cell, q1, q2, q3, q4⟩ := hR.o ha hc 0 _ rfl
  have hr : r = (C0, T, n) := Option.some.inj (hr1.symm.trans hc)
  subst hr
  obtain ⟨hSl, hfc, kC, hkC, hkind⟩ := hK.1 ci _ hc
  obtain ⟨cf, kf, fi, f, hi, hsl⟩ := hSl k hk
  have hlay := hts _ (hin _ (u_in_lay hk))
  unfold u_lay at hlay
  obtain ⟨h3, hN⟩ := hR.lt_o ha hc
  have hsame : ∀ x, s.fieldFound? (T k).1 (T k).2.1 (T k).2.2.1 = some x → s.fieldFound? C0 (T k).2.1 (T k).2.2.1 = some x := fun x hx => by rw [hT] at hx; exact hx
  have hst := (u_facts hfc hkC (u_lays hts hin hk) hi).1
  have htk : parseFieldDescriptor (T k).2.2.1 = some ty := by rw [hty k hk, hty0]
  rw [if_pos hfin] at hlay
  have hC0 : C0 = Y.1.cls := by rw [hc] at hdc; exact Option.some.inj hdc
  have hcf : m.cls = cf := by
    obtain ⟨_, _, c', _, _, _, -, -, hf', -, -, -, hown2, -⟩ := Cond.laysFinal_spec hlay
    have e1 : c' = cf := by have := hi.symm.trans hf'; simp at this; exact this.1.symm
    rw [hT, hC0] at hown2
    rw [← e1]; exact Option.some.inj (C.2.2.2.1.symm.trans hown2)
  have h6 := u_fits hfc hkC hkind (Or.inr hlay) hi htk (hn M).1 (hn M).2
  refine W.putFinK C.1 C.2.1 C.2.2.2.1 (hts _ hlk) (hsame _ hi) hst hcf (C.2.2.2.2.2.2.2.1 hini) (by rw [q2]; exact h6) q1 q3 (by rw [hsl]; exact k2_hasslot (q4 k hk)) rfl rfl hd fun H' e1 e2 e3 => ?_
  rw [hsl] at e1
  refine kk D M p l e R s m args below meth c Z C H' _ cells slots lsA (hR.set h3 hN ⟨_, hc, t_OB.to (V := updV (vp_V (fs.map (vm M))) k (vm M v)) ⟨_, e1, q2, q3, t_set q4 hap hk _⟩ (fun j _ => ?_)⟩ e2 e3) (hS.put e2 e3 (aR_base h3)) h1 h2 hL
  rw [vp_updV_set (by rw [List.length_map]; exact hl), ← List.map_set]
theorem AW.getCat {idx : Nat} (q : Nat) (hd : decode Y.2.1 pc = .ok (.getstatic idx, 3)) (hq : pc + 3 = q) (hw : (Y.1.cls, idx, "CATALAN") ∈ nF) (kk : AW Y q ls (.ref 0 :: st) N u h P) : AW Y pc ls st N u h P := by
  subst hq
  intro D M p l e R s m args below meth c Z C H locs cells slots lsA hR hS h1 h2 hL
  exact va_getsN C.1 C.2.1 C.2.2.2.2.2.2.1.1.1 hS C.2.2.2.1 (va_Nw.use rfl (C.2.2.2.2.2.2.1.2.2.2.1 _ hw)) (fun x hx => hx) hd (kk D M p l e R s m args below meth c Z C H locs cells slots lsA hR hS h1 h2 hL)
theorem AW.getLong {idx : Nat} (q : Nat) (hd : decode Y.2.1 pc = .ok (.getstatic idx, 3)) (hq : pc + 3 = q) (hw : (Y.1.cls, idx, "LONG_CHAINS") ∈ nF) (kk : AW Y q ls (.ref 1 :: st) N u h P) : AW Y pc ls st N u h P := by
  subst hq
  intro D M p l e R s m args below meth c Z C H locs cells slots lsA hR hS h1 h2 hL
  exact va_getsN C.1 C.2.1 C.2.2.2.2.2.2.1.2.1 hS C.2.2.2.1 (va_Nw.use rfl (C.2.2.2.2.2.2.1.2.2.2.1 _ hw)) (fun x hx => hx) hd (kk D M p l e R s m args below meth c Z C H locs cells slots lsA hR hS h1 h2 hL)
/-- an index, read as a number -/
def ix (i : Int32) (j : Nat) : Prop := ¬ i < 0 ∧ i.toNatClampNeg = j
theorem ix_nI {j : Nat} (h : j < 2 ^ 31) : ix (nI j) j := ⟨nI_pos h, nI_clamp h⟩
theorem ix.in {i : Int32} {j n : Nat} (h : ix i j) (hj : j < n) : vp_in i n := fun q => by
  rcases q with q | q
  · exact h.1 q
  · rw [h.2] at q; omega
theorem Rep.rd {D : va_G} {M : aM} {N k t n : Nat} {h : aH} {H : Heap} {f : Nat → Int32} {s : State} (R : Rep D M N h H) (hK : va_K D vwCl (aT M) s) (hSt : aSt M s) (hk : h k = .inl (t, (n, .inl f))) (ht : t = 0 ∨ t = 6) : ∃ cell : Cell, H[aR M k]? = some cell ∧ s.isArrayOf cell .int ∧ cell.vm ≠ .unknown ∧ n ≤ cell.slots.size ∧ cell.slots.size.toInt32 = Int32.ofNat n ∧ ∀ j, j < n → cell.slots[j]? = some (.int (f j)) := by
  rcases Nat.lt_or_ge k 3 with z | z
  · obtain ⟨n', f', cell, e1, e2, e3, e4, e5, e6, e7, e8⟩ := R.2.2.2.1 k z
    rw [hk] at e1
    cases e1
    refine ⟨cell, e2, ⟨e5, ?_⟩, e4, e6, e7, e8⟩
    rw [e3]
    exact (hSt.1.2 k z 0 (fun _ => .null)).2
  · have P := R.a hk z 0 _ rfl
    have hA : ArrOfT s (M.1 t) .int := by
      rcases ht with rfl | rfl
      · exact (hK.2 0 _ rfl).1
      · exact hSt.1.2 0 (by decide)
    exact ⟨_, P, hA n (fun j => .int (f j)), (fun q => by cases q), Nat.le_of_eq (arrV_size _ _ _).symm, (by rw [show (vp_cell (M.1 t) (dm M (n, .inl f))).slots.size = n from arrV_size _ _ _] <;> rfl), fun j hj => arrV_read _ _ hj⟩
theorem AW.iaload {a t n : Nat} {f : Nat → Int32} {i : Int32} (q j : Nat) (hd : decode Y.2.1 pc = .ok (.iaload, 1)) (hq : pc + 1 = q) (ha : h a = .inl (t, (n, .inl f))) (ht : t = 0 ∨ t = 6) (hi : ix i j) (hj : j < n) (kk : AW Y q ls (.int (f j) :: st) N u h P) : AW Y pc ls (.int i :: .ref a :: st) N u h P := by
  subst hq
  intro D M p l e R s m args below meth c Z C H locs cells slots lsA hR hS h1 h2 hL
  obtain ⟨cell, g1, g2, g3, g4, g5, g6⟩ := hR.rd C.2.2.2.2.2.1 C.2.2.2.2.2.2.1 ha ht
  exact W.iald (v := .int (f j)) C.1 C.2.1 g1 g2 g3 (fun q => by rcases q with q | q; exact hi.1 q; rw [hi.2] at q; omega) (by rw [hi.2]; exact g6 j hj) rfl rfl hd (kk D M p l e R s m args below meth c Z C H locs cells slots lsA hR hS h1 h2 hL)
theorem AW.laload {a t n : Nat} {f : Nat → Int64} {i : Int32} (q j : Nat) (hd : decode Y.2.1 pc = .ok (.laload, 1)) (hq : pc + 1 = q) (ha : h a = .inl (t, (n, .inr (.inl f)))) (ht : t = 1) (hi : ix i j) (hj : j < n) (kk : AW Y q ls (.long (f j) :: st) N u h P) : AW Y pc ls (.int i :: .ref a :: st) N u h P := by
  subst hq
  subst ht
  intro D M p l e R s m args below meth c Z C H locs cells slots lsA hR hS h1 h2 hL
  refine va_lald (a := aR M a) C.1 C.2.1 C.2.2.2.2.2.1 (hR.a ha ((hR.lt_a ha).2 (by decide))) 0 1 rfl rfl (hi.in hj) hd ?_
  rw [hi.2]
  exact kk D M p l e R s m args below meth c Z C H locs cells slots lsA hR hS h1 h2 hL
theorem AW.iastore {a n : Nat} {f : Nat → Int32} {i : Int32} {x : Int32} (q j : Nat) (hd : decode Y.2.1 pc = .ok (.iastore, 1)) (hq : pc + 1 = q) (ha : h a = .inl (0, (n, .inl f))) (hi : ix i j) (hj : j < n) (kk : AW Y q ls st N u (hs h a (.inl (0, (n, .inl (upd f j x))))) P) : AW Y pc ls (.int x :: .int i :: .ref a :: st) N u h P := by
  subst hq
  intro D M p l e R s m args below meth c Z C H locs cells slots lsA hR hS h1 h2 hL
  obtain ⟨hN, h3⟩ := hR.lt_a ha
  have h3 := h3 (by decide)
  have hP := hR.a ha h3 0 _ rfl
  have hK := C.2.2.2.2.2.1
  refine W.iast C.1 C.2.1 hP ((hK.2 0 _ rfl).1 n (fun j => .int (f j))) (fun q => by cases q) (by show ¬ (i < 0 ∨ (arrV _ _ _).slots.size ≤ _); rw [arrV_size]; exact hi.in hj) rfl rfl hd fun H1 e1 e2 e3 => ?_
  refine kk D M p l e R s m args below meth c Z C H1 _ cells slots lsA (hR.set h3 hN ?_ e2 e3) (hS.put e2 e3 (aR_base h3)) h1 h2 hL
  show H1[aR M a]? = some (vp_cell _ _)
  rw [e1]
  show some ((vp_cell (M.1 0) (n, .inl f)).setSlot _ _) = some (vp_cell (M.1 0) (n, .inl (upd f j x)))
  rw [vp_cell_i, vp_cell_i, arrV_store]
  congr 2
  funext z
  rw [hi.2]
  by_cases hz : z = j
  · subst hz
    simp [updV, upd, vp_updL]
  · simp [updV, upd, vp_updL, hz]
theorem AW.lastore {a n : Nat} {f : Nat → Int64} {i : Int32} {x : Int64} (q j : Nat) (hd : decode Y.2.1 pc = .ok (.lastore, 1)) (hq : pc + 1 = q) (ha : h a = .inl (1, (n, .inr (.inl f)))) (hi : ix i j) (hj : j < n) (kk : AW Y q ls st N u (hs h a (.inl (1, (n, .inr (.inl (vp_updL f j x)))))) P) : AW Y pc ls (.long x :: .int i :: .ref a :: st) N u h P := by
  subst hq
  intro D M p l e R s m args below meth c Z C H locs cells slots lsA hR hS h1 h2 hL
  obtain ⟨hN, h3⟩ := hR.lt_a ha
  have h3 := h3 (by decide)
  have hP := hR.a ha h3 0 _ rfl
  have hK := C.2.2.2.2.2.1
  refine W.last C.1 C.2.1 hP ((hK.2 1 _ rfl).1 n (fun j => .long (f j))) (fun q => by cases q) (by show ¬ (i < 0 ∨ (arrV _ _ _).slots.size ≤ _); rw [arrV_size]; exact hi.in hj) rfl rfl hd fun H1 e1 e2 e3 => ?_
  refine kk D M p l e R s m args below meth c Z C H1 _ cells slots lsA (hR.set h3 hN ?_ e2 e3) (hS.put e2 e3 (aR_base h3)) h1 h2 hL
  show H1[aR M a]? = some (vp_cell _ _)
  rw [e1]
  show some ((vp_cell (M.1 1) (n, .inr (.inl f))).setSlot _ _) = some (vp_cell (M.1 1) (n, .inr (.inl (vp_updL f j x))))
  rw [vp_cell_l, vp_cell_l, arrV_store]
  congr 2
  funext z
  rw [hi.2]
  by_cases hz : z = j
  · subst hz
    simp [updV, upd, vp_updL]
  · simp [updV, upd, vp_updL, hz]
theorem AW.aaload {a t n b : Nat} {f : Nat → Option Nat} {i : Int32} {ty : FieldType} (q j : Nat) (hd : decode Y.2.1 pc = .ok (.aaload, 1)) (hq : pc + 1 = q) (ha : h a = .inl (t, (n, .inr (.inr (.inr (.inr f)))))) (ht : ∀ M, (aT M)[t]? = some (M.1 t, ty)) (hty : ty.isReference = true) (hi : ix i j) (hj : j < n) (hb : f j = some b) (kk : AW Y q ls (.ref b :: st) N u h P) : AW Y pc ls (.int i :: .ref a :: st) N u h P := by
  subst hq
  intro D M p l e R s m args below meth c Z C H locs cells slots lsA hR hS h1 h2 hL
  have h3 : 3 ≤ a := by
    rcases Nat.lt_or_ge a 3 with z | z
    · obtain ⟨_, _, _, hx, -⟩ := hR.2.2.2.1 a z
      rw [ha] at hx
      cases hx
    · exact z
  have hP := hR.a ha h3 0 _ rfl
  have hK := C.2.2.2.2.2.1
  refine W.aald (v := .ref (aR M b)) (ty := ty) C.1 C.2.1 hP ((hK.2 t _ (ht M)).1 n (fun j => va_rf ((f j).map (aR M)))) hty (fun q => by cases q) (by show ¬ (i < 0 ∨ (arrV _ _ _).slots.size ≤ _); rw [arrV_size]; exact hi.in hj) (by show (arrV _ _ _).slots[_]? = _; rw [arrV_read _ _ (by rw [hi.2]; exact hj), hi.2]; show some (va_rf ((f j).map (aR M))) = _; rw [hb]; rfl) rfl rfl hd ?_
  exact kk D M p l e R s m args below meth c Z C H locs cells slots lsA hR hS h1 h2 hL
theorem AW.arraylength {a t n : Nat} {x : Nat → Int32} (q : Nat) (hd : decode Y.2.1 pc = .ok (.arraylength, 1)) (hq : pc + 1 = q) (ha : h a = .inl (t, (n, .inl x))) (ht : t = 0 ∨ t = 6) (kk : AW Y q ls (.int (Int32.ofNat n) :: st) N u h P) : AW Y pc ls (.ref a :: st) N u h P := by
  subst hq
  intro D M p l e R s m args below meth c Z C H locs cells slots lsA hR hS h1 h2 hL
  obtain ⟨cell, g1, g2, g3, g4, g5, g6⟩ := hR.rd C.2.2.2.2.2.1 C.2.2.2.2.2.2.1 ha ht
  exact W.alen (n := Int32.ofNat n) C.1 C.2.1 g1 g2 g5 rfl rfl hd (kk D M p l e R s m args below meth c Z C H locs cells slots lsA hR hS h1 h2 hL)
theorem AW.iret {v : Int32} (hd : decode Y.2.1 pc = .ok (.ireturn, 1)) (hr : Y.2.2.2.1 = some .int) (hP : P (some (.int v)) N h) : AW Y pc ls [.int v] N u h P := by
  intro D M p l e R s m args below meth c Z C H locs cells slots lsA hR hS h1 h2 hL
  exact C.2.2.2.2.2.2.2.2.2 _ _ pc N h H locs cells slots lsA (Or.inr (Or.inl ⟨v, hr, rfl, rfl⟩)) hP hd hR hS (by omega) (by omega)
theorem AW.zret {v : Int32} (hd : decode Y.2.1 pc = .ok (.ireturn, 1)) (hr : Y.2.2.2.1 = some .boolean) (hz : narrow .boolean (.int v) = .int v) (hP : P (some (.int v)) N h) : AW Y pc ls [.int v] N u h P := by
  intro D M p l e R s m args below meth c Z C H locs cells slots lsA hR hS h1 h2 hL
  exact C.2.2.2.2.2.2.2.2.2 _ _ pc N h H locs cells slots lsA (Or.inr (Or.inr (Or.inl ⟨v, hr, rfl, rfl, hz⟩))) hP hd hR hS (by omega) (by omega)
theorem AW.lret {v : Int64} (hd : decode Y.2.1 pc = .ok (.lreturn, 1)) (hr : Y.2.2.2.1 = some .long) (hP : P (some (.long v)) N h) : AW Y pc ls [.long v] N u h P := by
  intro D M p l e R s m args below meth c Z C H locs cells slots lsA hR hS h1 h2 hL
  exact C.2.2.2.2.2.2.2.2.2 _ _ pc N h H locs cells slots lsA (Or.inr (Or.inr (Or.inr (Or.inl ⟨v, hr, rfl, rfl⟩)))) hP hd hR hS (by omega) (by omega)
theorem AW.vret  (hd : decode Y.2.1 pc = .ok (.return_, 1)) (hr : Y.2.2.2.1 = none) (hP : P (none) N h) : AW Y pc ls [] N u h P := by
  intro D M p l e R s m args below meth c Z C H locs cells slots lsA hR hS h1 h2 hL
  exact C.2.2.2.2.2.2.2.2.2 _ _ pc N h H locs cells slots lsA (Or.inl ⟨hr, rfl, rfl⟩) hP hd hR hS (by omega) (by omega)
theorem AW.aret {a : Nat} {t : String} (hd : decode Y.2.1 pc = .ok (.areturn, 1)) (hr : Y.2.2.2.1 = some (.object t)) (hP : P (some (.ref a)) N h) : AW Y pc ls [.ref a] N u h P := by
  intro D M p l e R s m args below meth c Z C H locs cells slots lsA hR hS h1 h2 hL
  exact C.2.2.2.2.2.2.2.2.2 _ _ pc N h H locs cells slots lsA (Or.inr (Or.inr (Or.inr (Or.inr ⟨t, a, hr, rfl, rfl⟩)))) hP hd hR hS (by omega) (by omega)
end AWR
