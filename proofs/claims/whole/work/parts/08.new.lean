section AWN
variable {Y : aY} {pc : Nat} {ls : List (Option Value)} {st : List Value} {N : Nat} {u : Nat × Nat} {h : aH} {P : aP}
theorem AW.new {idx ci n : Nat} {C0 : String} {T : u_T} (ty0 : Nat → FieldType) (fs : List Value) (q : Nat) (hd : decode Y.2.1 pc = .ok (.new idx, 3)) (hq : pc + 3 = q) (hcl : Cond.classLink Y.1.cls idx C0 ∈ gT) (hin : Cond.instantiable C0 n ∈ gT) (hini : Cond.initialized C0 ∈ gT) (hc : vwCl[ci]? = some (C0, T, n)) (hty : ∀ k, k < n → parseFieldDescriptor (T k).2.2.1 = some (ty0 k)) (hws : ∀ w ∈ u_ws C0 T n, w ∈ gT) (hfs : ∀ j, j < n → defaultValue (ty0 j) = vp_V fs j) (hv : ∀ M, fs.map (vm M) = fs) (kk : AW Y q ls (.ref N :: st) (N + 1) u (hs h N (.inr (ci, fs))) P) : AW Y pc ls st N (u.1 + 1, u.2 + n) h P := by
  subst hq
  intro D M p l e R s m args below meth c Z C H locs cells slots lsA hR hS h1 h2 hL
  have hts := C.2.2.2.2.1
  have hK := C.2.2.2.2.2.1
  have hKn := hK.1 ci _ hc
  dsimp only at h1 h2
  refine W.newcK C.1 C.2.1 C.2.2.2.1 (hts _ hcl) (hts _ hin) (hts _ hini) rfl hd (by omega) (by omega) hKn.2.1 rfl fun H1 kC hkC e1 z1 o1 => ?_
  have k := kk D M p l e R s m args below meth c Z C H1 locs (cells + 1) (slots + n) lsA (hR.push ⟨_, hc, by rw [hv]; exact (u_born ty0 hts hws hKn hkC e1 hty).to hfs⟩ z1 o1) ⟨Nat.le_trans hS.1 (by omega), fun x q1 q2 => (o1 x (Nat.lt_of_lt_of_le q1 hS.1)).trans (hS.2.1 x q1 q2), hS.2.2⟩ (by omega) (by omega) hL
  rw [List.map_cons, show vm M (.ref N) = .ref H.size from congrArg Value.ref (aR_new hR.1 hR.2.1)] at k
  exact k
theorem AW.newI {i : Int32} (n q : Nat) (hd : decode Y.2.1 pc = .ok (.newarray .int, 2)) (hq : pc + 2 = q) (ha : Cond.arrayClass .int ∈ gT) (hi : ix i n) (hn : n ≤ 10000) (kk : AW Y q ls (.ref N :: st) (N + 1) u (hs h N (.inl (0, (n, .inl (fun _ => 0))))) P) : AW Y pc ls (.int i :: st) N (u.1 + 1, u.2 + n) h P := by
  subst hq
  intro D M p l e R s m args below meth c Z C H locs cells slots lsA hR hS h1 h2 hL
  have hts := C.2.2.2.2.1
  have hK := C.2.2.2.2.2.1
  dsimp only at h1 h2
  have hcb : componentBytes (newarray.typeOf .int) ≤ 8 := by decide
  refine va_newaK C.1 C.2.1 (atype := .int) (hts _ ha) rfl hd rfl hi.1 hi.2 (Nat.le_trans (Nat.mul_le_mul hn hcb) (Nat.le_of_ble_eq_true rfl)) (by omega) (by omega) rfl fun H1 cA e1 z1 o1 hAr hNm => ?_
  have hcA : cA = M.1 0 := Option.some.inj (hNm.symm.trans (hK.2 0 _ rfl).2)
  subst hcA
  have k := kk D M p l e R s m args below meth c Z C H1 locs (cells + 1) (slots + n) lsA (hR.push (by show H1[H.size]? = some (vp_cell _ _); rw [e1]; rfl) z1 o1) ⟨Nat.le_trans hS.1 (by omega), fun x q1 q2 => (o1 x (Nat.lt_of_lt_of_le q1 hS.1)).trans (hS.2.1 x q1 q2), hS.2.2⟩ (by omega) (by omega) hL
  rw [List.map_cons, show vm M (.ref N) = .ref H.size from congrArg Value.ref (aR_new hR.1 hR.2.1)] at k
  exact k
theorem AW.newL {i : Int32} (n q : Nat) (hd : decode Y.2.1 pc = .ok (.newarray .long, 2)) (hq : pc + 2 = q) (ha : Cond.arrayClass .long ∈ gT) (hi : ix i n) (hn : n ≤ 10000) (kk : AW Y q ls (.ref N :: st) (N + 1) u (hs h N (.inl (1, (n, .inr (.inl (fun _ => 0)))))) P) : AW Y pc ls (.int i :: st) N (u.1 + 1, u.2 + n) h P := by
  subst hq
  intro D M p l e R s m args below meth c Z C H locs cells slots lsA hR hS h1 h2 hL
  have hts := C.2.2.2.2.1
  have hK := C.2.2.2.2.2.1
  dsimp only at h1 h2
  have hcb : componentBytes (newarray.typeOf .long) ≤ 8 := by decide
  refine va_newaK C.1 C.2.1 (atype := .long) (hts _ ha) rfl hd rfl hi.1 hi.2 (Nat.le_trans (Nat.mul_le_mul hn hcb) (Nat.le_of_ble_eq_true rfl)) (by omega) (by omega) rfl fun H1 cA e1 z1 o1 hAr hNm => ?_
  have hcA : cA = M.1 1 := Option.some.inj (hNm.symm.trans (hK.2 1 _ rfl).2)
  subst hcA
  have k := kk D M p l e R s m args below meth c Z C H1 locs (cells + 1) (slots + n) lsA (hR.push (by show H1[H.size]? = some (vp_cell _ _); rw [e1]; rfl) z1 o1) ⟨Nat.le_trans hS.1 (by omega), fun x q1 q2 => (o1 x (Nat.lt_of_lt_of_le q1 hS.1)).trans (hS.2.1 x q1 q2), hS.2.2⟩ (by omega) (by omega) hL
  rw [List.map_cons, show vm M (.ref N) = .ref H.size from congrArg Value.ref (aR_new hR.1 hR.2.1)] at k
  exact k
theorem AW.anew {i : Int32} {idx : Nat} {C0 : String} (t n q : Nat) (hd : decode Y.2.1 pc = .ok (.anewarray idx, 3)) (hq : pc + 3 = q) (hcl : Cond.classLink Y.1.cls idx C0 ∈ gT) (ha : C0 = RX3 ∨ C0 = RX6) (ht : ∀ M, (aT M)[t]? = some (M.1 t, .object C0)) (hi : ix i n) (hn : n ≤ 10000) (kk : AW Y q ls (.ref N :: st) (N + 1) u (hs h N (.inl (t, (n, .inr (.inr (.inr (.inr (fun _ => none)))))))) P) : AW Y pc ls (.int i :: st) N (u.1 + 1, u.2 + n) h P := by
  subst hq
  intro D M p l e R s m args below meth c Z C H locs cells slots lsA hR hS h1 h2 hL
  have hts := C.2.2.2.2.1
  have hK := C.2.2.2.2.2.1
  have hov : (Cond.arrayOver (.object C0)).before args s = true := by
    rcases ha with rfl | rfl
    · exact C.2.2.2.2.2.2.1.2.2.2.2.1.use
    · exact C.2.2.2.2.2.2.1.2.2.2.2.2.1.use
  dsimp only at h1 h2
  refine W.anew C.1 C.2.1 C.2.2.2.1 (hts _ hcl) (hov) rfl hd rfl hi.1 (by rw [hi.2]; omega) (by omega) (by rw [hi.2]; omega) fun cA kA comp g1 g2 g3 g4 => ?_
  obtain ⟨kA', comp', w1, w2, w3, w4⟩ := (hK.2 t _ (ht M)).2
  have hcA : cA = M.1 t := Option.some.inj (g1.symm.trans w4)
  subst hcA
  rw [hi.2]
  have k := kk D M p l e R s m args below meth c Z C (H.push { cls := M.1 t, slots := Array.replicate n .null, vm := .none }) locs (cells + 1) (slots + n) lsA (hR.push (by
      show _ = some (vp_cell _ (dm M (n, .inr (.inr (.inr (.inr (fun _ => none)))))))
      rw [show vp_cell (M.1 t) (dm M (n, .inr (.inr (.inr (.inr (fun _ => none)))))) = arrV (M.1 t) n (fun _ => .null) from rfl, ← arrV_new]
      simp) (by simp) (fun x hx => by rw [Array.getElem?_push, if_neg (Nat.ne_of_lt hx)])) ⟨Nat.le_trans hS.1 (by simp), fun x q1 q2 => by
      rw [Array.getElem?_push, if_neg (Nat.ne_of_lt (Nat.lt_of_lt_of_le q1 hS.1))]
      exact hS.2.1 x q1 q2, hS.2.2⟩ (by omega) (by omega) hL
  rw [List.map_cons, show vm M (.ref N) = .ref H.size from congrArg Value.ref (aR_new hR.1 hR.2.1)] at k
  exact k
theorem AW.aastore {a t n b ci : Nat} {f : Nat → Option Nat} {i : Int32} {fs : List Value} {r : vw_C} (q j : Nat) (hd : decode Y.2.1 pc = .ok (.aastore, 1)) (hq : pc + 1 = q) (ha : h a = .inl (t, (n, .inr (.inr (.inr (.inr f)))))) (ht6 : t ≠ 6) (ht : ∀ M, (aT M)[t]? = some (M.1 t, .object r.1)) (hb : h b = .inr (ci, fs)) (hc : vwCl[ci]? = some r) (hi : ix i j) (hj : j < n) (kk : AW Y q ls st N u (hs h a (.inl (t, (n, .inr (.inr (.inr (.inr (va_up f j (some b))))))))) P) : AW Y pc ls (.ref b :: .int i :: .ref a :: st) N u h P := by
  subst hq
  intro D M p l e R s m args below meth c Z C H locs cells slots lsA hR hS h1 h2 hL
  obtain ⟨hN, h3⟩ := hR.lt_a ha
  have h3 := h3 ht6
  have hP := hR.a ha h3 0 _ rfl
  have hK := C.2.2.2.2.2.1
  obtain ⟨r', hr', cellV, g1, g2, g3, -⟩ := hR.o hb hc 0 _ rfl
  have hcls := (hK.1 ci r hc).2
  obtain ⟨kA, comp, k1, k2, k3, -⟩ := (hK.2 t _ (ht M)).2
  have hcomp : comp = D.1 ci := Option.some.inj (k3.symm.trans hcls.1)
  subst hcomp
  obtain ⟨kC, hkC, -⟩ := hcls.2
  refine W.aast C.1 C.2.1 hP (fun q h => by cases h) (fun h => by cases h) k1 k2 rfl hkC ⟨hi.1, by show _ < (arrV _ _ _).slots.size; rw [arrV_size, hi.2]; exact hj⟩ g1 (fun q h => by rw [g3] at h; cases h) (by rw [g2]; exact hkC) (by rw [g2]; exact va_assign hcls) rfl rfl hd fun H1 e1 e2 e3 => ?_
  refine kk D M p l e R s m args below meth c Z C H1 _ cells slots lsA (hR.set h3 hN ?_ e2 e3) (hS.put e2 e3 (aR_base h3)) h1 h2 hL
  show H1[aR M a]? = some (vp_cell _ _)
  rw [e1]
  show some ((vp_cell (M.1 t) (n, .inr (.inr (.inr (.inr (fun i => (f i).map (aR M))))))).setSlot _ _) = some (vp_cell (M.1 t) (n, .inr (.inr (.inr (.inr (fun i => (va_up f j (some b) i).map (aR M)))))))
  rw [vp_cell_q, vp_cell_q, arrV_store]
  congr 2
  funext z
  rw [hi.2]
  by_cases hz : z = j
  · subst hz
    simp [updV, va_up, va_rf]
  · simp [updV, va_up, hz]
theorem outer_eq (c : ClassId) (N h0 : Nat) : ∀ i : Nat, Jvm.Free.Multi.outerC c N h0 i = arrV c N (fun j => va_rf (if j < i then some (h0 + 1 + j) else none))
  | 0 => by
    show ({ cls := c, slots := Array.replicate N .null, vm := .none } : Cell) = _
    rw [arrV_new]
    refine congrArg (arrV c N) (funext fun j => ?_)
    simp [va_rf]
  | i + 1 => by
    show (Jvm.Free.Multi.outerC c N h0 i).setSlot i (.ref (h0 + 1 + i)) = _
    rw [outer_eq c N h0 i, arrV_store]
    refine congrArg (arrV c N) (funext fun j => ?_)
    by_cases e : j = i
    · subst e
      simp [updV, va_rf]
    · by_cases q : j < i
      · simp [updV, e, q, Nat.lt_succ_of_lt q]
      · simp [updV, e, q, show ¬ j < i + 1 by omega]
def hm2 (h : aH) (N n : Nat) (o e : aE) : aH := fun k => if k = N then o else if N < k ∧ k ≤ N + n then e else h k
theorem Rep.push2 {D : va_G} {M : aM} {N n : Nat} {h : aH} {H H1 : Heap} {o e : aE} (R : Rep D M N h H) (ho : va_at D vwCl (H.size, tE M o) H1) (he : ∀ j, j < n → va_at D vwCl (H.size + 1 + j, tE M e) H1) (hz : H1.size = H.size + 1 + n) (hq : ∀ q, q < H.size → H1[q]? = H[q]?) : Rep D M (N + 1 + n) (hm2 h N n o e) H1 := by
  obtain ⟨r1, r2, r3, r4, r5, r6⟩ := R
  refine ⟨by omega, by rw [hz]; omega, r3, fun j hj => ?_, fun j hj => ?_, fun j hj3 hj => ?_⟩
  · unfold hm2; rw [if_neg (by omega), if_neg (by omega)]; exact (r4 j hj).kept (hq _ (by have := aR_lt r3 hj; omega))
  · unfold hm2; rw [if_neg (by omega), if_neg (by omega)]; exact r5 j (by omega)
  · by_cases q : j = N
    · subst q; unfold hm2; rw [if_pos rfl, aR_new r1 r2]; exact ho
    · by_cases q2 : N < j ∧ j ≤ N + n
      · unfold hm2; rw [if_neg q, if_pos q2]
        have ha : aR M j = H.size + 1 + (j - N - 1) := by
          obtain ⟨k, rfl⟩ : ∃ k, j = k + 3 := ⟨j - 3, by omega⟩
          show aB M + k = _
          omega
        rw [ha]
        exact he _ (by omega)
      · unfold hm2; rw [if_neg q, if_neg q2]; exact (r6 j hj3 (by omega)).kept (hq _ (r6 j hj3 (by omega)).lt)
theorem aR_out (M : aM) (N n : Nat) (h3 : 3 ≤ N) {H : Heap} (hz : H.size + 3 = aB M + N) (i : Nat) : (if i < n then some (N + 1 + i) else none : Option Nat).map (aR M) = if i < n then some (H.size + 1 + i) else none := by
  by_cases q : i < n
  · rw [if_pos q, if_pos q]
    obtain ⟨k, hk⟩ : ∃ k, N + 1 + i = k + 3 := ⟨N + 1 + i - 3, by omega⟩
    rw [hk]
    show some (aB M + k) = _
    congr 1
    omega
  · rw [if_neg q, if_neg q]; rfl
theorem AW.mnaI {i i2 : Int32} {idx : Nat} (n k q : Nat) (hd : decode Y.2.1 pc = .ok (.multianewarray idx 2, 4)) (hq : pc + 4 = q) (hcl : Cond.classLink Y.1.cls idx ("[" ++ (FieldType.array .int).toString) ∈ gT) (hac : Cond.arrayClass .int ∈ gT) (hi : ix i n) (hi2 : ix i2 k) (hn : n ≤ 1000) (hk : k ≤ 1000) (kk : AW Y q ls (.ref N :: st) (N + 1 + n) u (hm2 h N n (.inl (2, (n, .inr (.inr (.inr (.inr (fun i => if i < n then some (N + 1 + i) else none))))))) (.inl (0, (k, .inl (fun _ => 0))))) P) : AW Y pc ls (.int i2 :: .int i :: st) N (u.1 + 1 + n, u.2 + n + n * k) h P := by
  subst hq
  intro D M p l e R s m args below meth c Z C H locs cells slots lsA hR hS h1 h2 hL
  have hts := C.2.2.2.2.1
  have hK := C.2.2.2.2.2.1
  dsimp only at h1 h2
  intro T hT X
  have hb := C.2.1
  have hcb : componentBytes .int ≤ 8 := by decide
  obtain ⟨vm₁, cA, comp, -, fA, fC, hO, hI, X', step⟩ := X.multianewarray2F C.1 C.2.2.2.1 (hts _ hcl) (over_moved (Vm.Alike.refl s.vm) C.2.2.2.2.2.2.1.2.2.2.2.2.2.1) (hts _ hac) (g := F0 m pc lsA _) rfl (by rw [hb]; exact hd) rfl hi.1 hi2.1 (by rw [hi.2]; omega) (by rw [hi2.2]; exact Nat.le_trans (Nat.mul_le_mul hk hcb) (Nat.le_of_ble_eq_true rfl)) (by rw [hi2.2]; omega) (by decide) (by decide) (by rw [hi.2]; omega) (by rw [hi.2, hi2.2]; omega)
  rw [hi.2, hi2.2] at X' step
  have hcA : cA = M.1 2 := Option.some.inj (fA.symm.trans (hK.2 2 _ rfl).2)
  have hcC : comp = M.1 0 := Option.some.inj (fC.symm.trans (hK.2 0 _ rfl).2)
  subst hcA
  subst hcC
  have hTs : (T.setVm vm₁).heap = H := hT
  obtain ⟨g1, g2, -⟩ := Jvm.Free.Multi.fill_facts (T.setVm vm₁) (M.1 2) (M.1 0) n k (defaultValue .int) n
  rw [hTs] at g1 g2
  have g4 := fun (x : Nat) (hx : x < H.size) => Jvm.Free.Multi.fill_old (T.setVm vm₁) (M.1 2) (M.1 0) n k (defaultValue .int) (a := x) (by rw [hTs]; exact hx) n
  rw [hTs] at g4
  have g3 := fun (j : Nat) (hj : j < n) => Jvm.Free.Multi.fill_inner (T.setVm vm₁) (M.1 2) (M.1 0) n k (defaultValue .int) n j hj
  rw [hTs] at g3
  have hR' := hR.push2 (n := n) (o := .inl (2, (n, .inr (.inr (.inr (.inr (fun i => if i < n then some (N + 1 + i) else none))))))) (e := .inl (0, (k, .inl (fun _ => 0)))) (by
      show _ = some (vp_cell _ (n, .inr (.inr (.inr (.inr (fun i => ((if i < n then some (N + 1 + i) else none : Option Nat)).map (aR M)))))))
      rw [g2, outer_eq, vp_cell_q]
      congr 2
      funext z
      rw [aR_out M N n hR.1 hR.2.1 z]) (fun j hj => by
      show _ = some (vp_cell _ (k, .inl (fun _ => 0)))
      rw [g3 j hj]
      exact congrArg some (by rw [vp_cell_i, ← arrV_new]; rfl)) g1 g4
  obtain ⟨t, a1, b1⟩ := kk D M p l e R s m args below meth c Z C _ locs (cells + 1 + n) (slots + n + n * k) lsA hR' ⟨Nat.le_trans hS.1 (by rw [g1]; omega), fun x q1 q2 => (g4 x (Nat.lt_of_lt_of_le q1 hS.1)).trans (hS.2.1 x q1 q2), hS.2.2⟩ (by omega) (by omega) hL _ rfl X'
  rw [List.map_cons, show vm M (.ref N) = .ref H.size from congrArg Value.ref (aR_new hR.1 hR.2.1)] at a1
  refine ⟨t, step t ?_, b1⟩
  rw [hT]
  exact a1
theorem AW.mnaL {i i2 : Int32} {idx : Nat} (n k q : Nat) (hd : decode Y.2.1 pc = .ok (.multianewarray idx 2, 4)) (hq : pc + 4 = q) (hcl : Cond.classLink Y.1.cls idx ("[" ++ (FieldType.array .long).toString) ∈ gT) (hac : Cond.arrayClass .long ∈ gT) (hi : ix i n) (hi2 : ix i2 k) (hn : n ≤ 1000) (hk : k ≤ 1000) (kk : AW Y q ls (.ref N :: st) (N + 1 + n) u (hm2 h N n (.inl (3, (n, .inr (.inr (.inr (.inr (fun i => if i < n then some (N + 1 + i) else none))))))) (.inl (1, (k, .inr (.inl (fun _ => 0)))))) P) : AW Y pc ls (.int i2 :: .int i :: st) N (u.1 + 1 + n, u.2 + n + n * k) h P := by
  subst hq
  intro D M p l e R s m args below meth c Z C H locs cells slots lsA hR hS h1 h2 hL
  have hts := C.2.2.2.2.1
  have hK := C.2.2.2.2.2.1
  dsimp only at h1 h2
  intro T hT X
  have hb := C.2.1
  have hcb : componentBytes .long ≤ 8 := by decide
  obtain ⟨vm₁, cA, comp, -, fA, fC, hO, hI, X', step⟩ := X.multianewarray2F C.1 C.2.2.2.1 (hts _ hcl) (over_moved (Vm.Alike.refl s.vm) C.2.2.2.2.2.2.1.2.2.2.2.2.2.2) (hts _ hac) (g := F0 m pc lsA _) rfl (by rw [hb]; exact hd) rfl hi.1 hi2.1 (by rw [hi.2]; omega) (by rw [hi2.2]; exact Nat.le_trans (Nat.mul_le_mul hk hcb) (Nat.le_of_ble_eq_true rfl)) (by rw [hi2.2]; omega) (by decide) (by decide) (by rw [hi.2]; omega) (by rw [hi.2, hi2.2]; omega)
  rw [hi.2, hi2.2] at X' step
  have hcA : cA = M.1 3 := Option.some.inj (fA.symm.trans (hK.2 3 _ rfl).2)
  have hcC : comp = M.1 1 := Option.some.inj (fC.symm.trans (hK.2 1 _ rfl).2)
  subst hcA
  subst hcC
  have hTs : (T.setVm vm₁).heap = H := hT
  obtain ⟨g1, g2, -⟩ := Jvm.Free.Multi.fill_facts (T.setVm vm₁) (M.1 3) (M.1 1) n k (defaultValue .long) n
  rw [hTs] at g1 g2
  have g4 := fun (x : Nat) (hx : x < H.size) => Jvm.Free.Multi.fill_old (T.setVm vm₁) (M.1 3) (M.1 1) n k (defaultValue .long) (a := x) (by rw [hTs]; exact hx) n
  rw [hTs] at g4
  have g3 := fun (j : Nat) (hj : j < n) => Jvm.Free.Multi.fill_inner (T.setVm vm₁) (M.1 3) (M.1 1) n k (defaultValue .long) n j hj
  rw [hTs] at g3
  have hR' := hR.push2 (n := n) (o := .inl (3, (n, .inr (.inr (.inr (.inr (fun i => if i < n then some (N + 1 + i) else none))))))) (e := .inl (1, (k, .inr (.inl (fun _ => 0))))) (by
      show _ = some (vp_cell _ (n, .inr (.inr (.inr (.inr (fun i => ((if i < n then some (N + 1 + i) else none : Option Nat)).map (aR M)))))))
      rw [g2, outer_eq, vp_cell_q]
      congr 2
      funext z
      rw [aR_out M N n hR.1 hR.2.1 z]) (fun j hj => by
      show _ = some (vp_cell _ (k, .inr (.inl (fun _ => 0))))
      rw [g3 j hj]
      exact congrArg some (by rw [vp_cell_l, ← arrV_new]; rfl)) g1 g4
  obtain ⟨t, a1, b1⟩ := kk D M p l e R s m args below meth c Z C _ locs (cells + 1 + n) (slots + n + n * k) lsA hR' ⟨Nat.le_trans hS.1 (by rw [g1]; omega), fun x q1 q2 => (g4 x (Nat.lt_of_lt_of_le q1 hS.1)).trans (hS.2.1 x q1 q2), hS.2.2⟩ (by omega) (by omega) hL _ rfl X'
  rw [List.map_cons, show vm M (.ref N) = .ref H.size from congrArg Value.ref (aR_new hR.1 hR.2.1)] at a1
  refine ⟨t, step t ?_, b1⟩
  rw [hT]
  exact a1
end AWN
