theorem lw_good : ∀ w ∈ gT, goodWord w = true := fun _ h => (List.mem_filter.mp h).2
/-- what is said of a method once: its words are in the table, its class is not special, it takes n -/
def MI (Y : aY) (n : Nat) : Prop := Cond.code Y.1 Y.2.1 Y.2.2.1 Y.2.2.2.1 ∈ gT ∧ Cond.initialized Y.1.cls ∈ gT ∧ (Y.1.cls ≠ "java/lang/invoke/MethodHandle" ∧ Y.1.cls ≠ "java/lang/invoke/VarHandle") ∧ (parseMethodDescriptor Y.1.desc).map (fun d => d.parameters.length) = some n
def MV (Y : aY) : Prop := Cond.instanceMethod Y.1 ∈ gT ∧ Cond.selects Y.1.cls Y.1 Y.1 ∈ gT
theorem MI.good {Y : aY} {n : Nat} (h : MI Y n) : GoodIn gT (aWs Y) := fun w hw => by
  rcases List.mem_cons.mp hw with rfl | q
  · exact ⟨h.1, good_of_word (lw_good _ h.1)⟩
  · exact ⟨q, good_of_word (lw_good _ q)⟩
theorem MI.cb {Y' : aY} {n : Nat} (hm : MI Y' n) {R : Room} {s : State} {args : Array Value} {own : String} {idx : Nat} (hts : ∀ w ∈ gT, w.before args s = true) (hl : Cond.methodLink own idx Y'.1 ∈ gT) (hr : (aRm Y').frames + 1 ≤ R.frames ∧ 8 + (Y'.2.2.1 + 11) + (aRm Y').locals ≤ R.locals) :
    CallB R s args own idx Y'.1 Y'.2.1 Y'.2.2.1 Y'.2.2.2.1 (aWs Y') (aRm Y') Y'.2.2.2.2.2.1 Y'.2.2.2.2.2.2 n :=
  callB_of n hts hm.good rfl rfl rfl (hts _ hm.2.1) (hts _ hl) ⟨hm.2.2.1.1, hm.2.2.1.2, hm.2.2.2⟩ hr
/-- the callee's room is in the caller's: its level is lower -/
def LO (Y' Y : aY) : Prop := Y'.2.2.2.2.1 < Y.2.2.2.2.1 ∧ Y'.2.2.1 ≤ 19
theorem LO.room {Y' Y : aY} {R : Room} (h : LO Y' Y) (hR : Y.2.2.2.2.1 ≤ R.frames ∧ 38 * Y.2.2.2.2.1 ≤ R.locals) : (aRm Y').frames + 1 ≤ R.frames ∧ 8 + (Y'.2.2.1 + 11) + (aRm Y').locals ≤ R.locals := by
  obtain ⟨h1, h2⟩ := h
  show Y'.2.2.2.2.1 + 1 ≤ R.frames ∧ 8 + (Y'.2.2.1 + 11) + 38 * Y'.2.2.2.2.1 ≤ R.locals
  omega
theorem aPc_blind {D : va_G} {M : aM} {as : List Value} {N : Nat} {h : aH} : FrameBlind (aPc D M as N h) := fun a U g mk q => ⟨q.1, q.2.1, va_K.moved (u := U) (U := U.calling g mk a) (Vm.Alike.refl U.vm) q.2.2.1, ⟨⟨va_Z.moved (u := U) (U := U.calling g mk a) (Vm.Alike.refl U.vm) q.2.2.2.1.1, fun k hk => arrOfT_moved (u := U) (E := U.calling g mk a) (Vm.Alike.refl U.vm) (q.2.2.2.1.2 k hk)⟩, va_Z.moved (u := U) (U := U.calling g mk a) (Vm.Alike.refl U.vm) q.2.2.2.2.1, fun z hz => va_Nw.same rfl rfl (q.2.2.2.2.2.1 z hz), fun z hz => va_Nw.same rfl rfl (q.2.2.2.2.2.2.1 z hz), va_AO.moved (u := U) (U := U.calling g mk a) (Vm.Alike.refl U.vm) q.2.2.2.2.2.2.2.1, va_AO.moved (u := U) (U := U.calling g mk a) (Vm.Alike.refl U.vm) q.2.2.2.2.2.2.2.2.1, over_moved (u := U) (E := U.calling g mk a) (Vm.Alike.refl U.vm) q.2.2.2.2.2.2.2.2.2.1, over_moved (u := U) (E := U.calling g mk a) (Vm.Alike.refl U.vm) q.2.2.2.2.2.2.2.2.2.2⟩⟩
theorem aPc_of {D : va_G} {M : aM} {as : List Value} {N : Nat} {h : aH} {s U : State} {H : Heap} {locs : List Loc} {As : List Value} (hK : va_K D vwCl (aT M) s) (hSt : aSt M s) (hR : Rep D M N h H) (hS : va_S (aSw M) s.heap H locs) (hU : U.heap = H) (hW : s.WarmedH U.vm) (hAs : As = as.map (vm M)) : aPc D M as N h As.toArray U := by
  refine ⟨by rw [hAs], by rw [hU]; exact hR, va_K.moved hW.alike hK, ⟨?_, fun k hk => arrOfT_moved hW.alike (hSt.1.2 k hk)⟩, ?_, fun z hz => va_Nw.warmM hW (hSt.2.2.1 z hz), fun z hz => va_Nw.warmF hW (hSt.2.2.2.1 z hz), hSt.2.2.2.2.1.moved hW.alike, hSt.2.2.2.2.2.1.moved hW.alike, over_moved hW.alike hSt.2.2.2.2.2.2.1, over_moved hW.alike hSt.2.2.2.2.2.2.2⟩
  · rw [hU]; exact (hSt.1.1.moved hW.alike).kept hS.2.1
  · rw [hU]; exact (hSt.2.1.moved hW.alike).kept hS.2.1
def psh (r : Option Value) (st : List Value) : List Value := match r with
  | some v => v :: st
  | none => st
theorem psh_map (M : aM) (r : Option Value) (st : List Value) : (r.map (vm M)).toList ++ st.map (vm M) = (psh r st).map (vm M) := by cases r <;> rfl
section AWC
variable {Y : aY} {pc : Nat} {ls : List (Option Value)} {st : List Value} {N : Nat} {u : Nat × Nat} {h : aH} {P : aP}
/-- behind a call -/
theorem aw_back {Y' : aY} {D : va_G} {M : aM} {p : Program} {l : Launch} {e : Env} {R : Room} {s : State} {m : MethodId} {args : Array Value} {below : List Frame} {meth : Method} {c : Code} {Z : State → Prop} {H : Heap} {locs : List Loc} {cells slots : Nat} {lsA : Array Slot} {st0 : List Value} {a : Array Value} (C : aCx Y P D M p l e R s m args below meth c Z) (hS : va_S (aSw M) s.heap H locs) (h1 : cells + (u.1 + Y'.2.2.2.2.2.1) ≤ R.cells) (h2 : slots + (u.2 + Y'.2.2.2.2.2.2) ≤ R.slots) (hL : aL M Y.2.2.1 ls lsA)
    (hr : va_Run p l e R s m args below meth c H locs cells slots Y'.2.2.2.2.2.1 Y'.2.2.2.2.2.2 (F0 m pc lsA st0) (st.map (vm M)) (aQc D M (fun r N' h' => AW Y (pc + 3) ls (psh r st) N' u h' P) a) (aSw M)) : W p l e R s m args below meth c H locs cells slots Z (F0 m pc lsA st0) := by
  intro T hT X
  obtain ⟨v, st₀, t, T', L, h0, X', hLq, e1, e2, ⟨r, N', h', hv, hp, hRt, hsz, hfr⟩, step⟩ := hr T hT X
  cases hv
  rw [h0] at hfr hsz
  have hS' : va_S (aSw M) s.heap T'.heap (locs ++ L) := by
    have hz : H.size ≤ T'.heap.size := by rw [e1]; exact hsz
    refine ⟨Nat.le_trans hS.1 hz, fun q q1 q2 => ?_, fun q hq => ?_⟩
    · rw [e1, hfr q (Nat.lt_of_lt_of_le q1 hS.1) q2]; exact hS.2.1 q q1 q2
    · rcases List.mem_append.mp hq with q1 | q1
      · exact hS.2.2 q q1
      · exact hLq q q1
  obtain ⟨t2, a1, b1⟩ := hp D M p l e R s m args below meth c Z C T'.heap (locs ++ L) (cells + Y'.2.2.2.2.2.1) (slots + Y'.2.2.2.2.2.2) lsA (by rw [e1]; exact hRt) hS' (by omega) (by omega) hL T' rfl X'
  refine ⟨t2, step t2 ?_, b1⟩
  rw [psh_map]
  exact a1

theorem AW.callV {Y' : aY} {idx n ci a : Nat} {as fs : List Value} (q : Nat) (hd : decode Y.2.1 pc = .ok (.invokevirtual idx, 3)) (hq : pc + 3 = q) (hm : MI Y' n) (hv : MV Y') (hl : Cond.methodLink Y.1.cls idx Y'.1 ∈ gT) (ho : LO Y' Y) (ha : h a = .inr (ci, fs)) (hci : (vwCl[ci]?).map (fun q => q.1) = some Y'.1.cls) (hn : as.length = n) (hw : (st.map fun v => v.category).sum ≤ 8) (st0 : List Value) (hst : st0 = as.reverse ++ .ref a :: st)
    (hM : AM Y' (.ref a :: as) N h (fun r N' h' => AW Y q ls (psh r st) N' u h' P)) : AW Y pc ls st0 N (u.1 + Y'.2.2.2.2.2.1, u.2 + Y'.2.2.2.2.2.2) h P := by
  subst hq
  intro D M p l e R s m args below meth c Z C H locs cells slots lsA hR hS h1 h2 hL
  refine aw_back (Y' := Y') (u := u) (st := st) C hS (by have := h1; dsimp only at this; omega) (by have := h2; dsimp only at this; omega) hL (a := (Value.ref (aR M a) :: as.map (vm M)).toArray) ?_
  obtain ⟨cq, hcq⟩ : ∃ cq, vwCl[ci]? = some cq := by
    cases hx : vwCl[ci]? with
    | none => rw [hx] at hci; cases hci
    | some cq => exact ⟨cq, rfl⟩
  have hcn : cq.1 = Y'.1.cls := by rw [hcq] at hci; exact Option.some.inj hci
  have hts := C.2.2.2.2.1
  refine va_runV (n := n) (C := Y'.1.cls) (b := aR M a) (As := as.map (vm M)) (rest := st.map (vm M)) ⟨C.1, C.2.1, C.2.2.1, C.2.2.2.1, hts⟩ (hM D M l) ⟨hm.cb hts hl (ho.room C.2.2.2.2.2.2.2.2.1), hts _ hv.1, hts _ hv.2⟩ ⟨aPc_blind, ?_, fun U hU hW => aPc_of C.2.2.2.2.2.1 C.2.2.2.2.2.2.1 hR hS hU hW rfl⟩ rfl (by rw [List.length_map]; exact hn) hL.1 (by rw [hst, List.map_append, List.map_reverse]; rfl) (lv_room (by rw [List.map_map]; exact (by rw [show ((fun v => v.category) ∘ vm M) = (fun v : Value => v.category) from funext fun v => vm_cat M v]; exact hw))) hd ⟨by omega, by omega⟩
  rw [← hcn]
  exact va_recv C.2.2.2.2.2.1 (hR.o ha hcq) (q0 := 0) hcq rfl
theorem AW.callS {Y' : aY} {idx n : Nat} {as : List Value} (q : Nat) (hd : decode Y.2.1 pc = .ok (.invokestatic idx, 3)) (hq : pc + 3 = q) (hm : MI Y' n) (hv : Cond.static Y'.1 ∈ gT) (hl : Cond.methodLink Y.1.cls idx Y'.1 ∈ gT) (ho : LO Y' Y) (hn : as.length = n) (hw : (st.map fun v => v.category).sum ≤ 8) (st0 : List Value) (hst : st0 = as.reverse ++ st)
    (hM : AM Y' as N h (fun r N' h' => AW Y q ls (psh r st) N' u h' P)) : AW Y pc ls st0 N (u.1 + Y'.2.2.2.2.2.1, u.2 + Y'.2.2.2.2.2.2) h P := by
  subst hq
  intro D M p l e R s m args below meth c Z C H locs cells slots lsA hR hS h1 h2 hL
  refine aw_back (Y' := Y') (u := u) (st := st) C hS (by have := h1; dsimp only at this; omega) (by have := h2; dsimp only at this; omega) hL (a := (as.map (vm M)).toArray) ?_
  have hts := C.2.2.2.2.1
  exact va_runS (n := n) (As := as.map (vm M)) (rest := st.map (vm M)) ⟨C.1, C.2.1, C.2.2.1, C.2.2.2.1, hts⟩ (hM D M l) ⟨hm.cb hts hl (ho.room C.2.2.2.2.2.2.2.2.1), hts _ hv⟩ ⟨aPc_blind, fun U hU hW => aPc_of C.2.2.2.2.2.1 C.2.2.2.2.2.2.1 hR hS hU hW rfl⟩ rfl (by rw [List.length_map]; exact hn) hL.1 (by rw [hst, List.map_append, List.map_reverse]) (lv_room (by rw [List.map_map]; exact (by rw [show ((fun v => v.category) ∘ vm M) = (fun v : Value => v.category) from funext fun v => vm_cat M v]; exact hw))) hd ⟨by omega, by omega⟩
theorem AW.callSN {Y' : aY} {idx n : Nat} {as : List Value} (q : Nat) (hd : decode Y.2.1 pc = .ok (.invokestatic idx, 3)) (hq : pc + 3 = q) (hm : MI Y' n) (hv : Cond.static Y'.1 ∈ gT) (hl : (Y.1.cls, idx, Y'.1) ∈ nM) (ho : LO Y' Y) (hn : as.length = n) (hw : (st.map fun v => v.category).sum ≤ 8) (st0 : List Value) (hst : st0 = as.reverse ++ st)
    (hM : AM Y' as N h (fun r N' h' => AW Y q ls (psh r st) N' u h' P)) : AW Y pc ls st0 N (u.1 + Y'.2.2.2.2.2.1, u.2 + Y'.2.2.2.2.2.2) h P := by
  subst hq
  intro D M p l e R s m args below meth c Z C H locs cells slots lsA hR hS h1 h2 hL
  refine aw_back (Y' := Y') (u := u) (st := st) C hS (by have := h1; dsimp only at this; omega) (by have := h2; dsimp only at this; omega) hL (a := (as.map (vm M)).toArray) ?_
  have hts := C.2.2.2.2.1
  have hnw : va_Nw (.methodLinkNest Y.1.cls idx Y'.1 RX7) s := C.2.2.2.2.2.2.1.2.2.1 _ hl
  exact va_runSN (n := n) (As := as.map (vm M)) (rest := st.map (vm M)) (ws := aWs Y') ⟨C.1, C.2.1, C.2.2.1, C.2.2.2.1, hts⟩ (hM D M l) ⟨va_cnB n hts hm.good rfl rfl rfl hnw (hts _ hm.2.1) ⟨hm.2.2.1.1, hm.2.2.1.2, hm.2.2.2⟩ (ho.room C.2.2.2.2.2.2.2.2.1), hts _ hv, trivial⟩ ⟨aPc_blind, fun U hU hW => aPc_of C.2.2.2.2.2.1 C.2.2.2.2.2.2.1 hR hS hU hW rfl⟩ rfl (by rw [List.length_map]; exact hn) hL.1 (by rw [hst, List.map_append, List.map_reverse]) (lv_room (by rw [List.map_map]; exact (by rw [show ((fun v => v.category) ∘ vm M) = (fun v : Value => v.category) from funext fun v => vm_cat M v]; exact hw))) hd ⟨by omega, by omega⟩
theorem AW.callI {Y' : aY} {idx n a : Nat} {as : List Value} (q : Nat) (hd : decode Y.2.1 pc = .ok (.invokespecial idx, 3)) (hq : pc + 3 = q) (hm : MI Y' n) (hi : Y'.1.name = "<init>") (hr0 : Y'.2.2.2.1 = none) (hv : Cond.instanceMethod Y'.1 ∈ gT) (hl : Cond.methodLink Y.1.cls idx Y'.1 ∈ gT) (ho : LO Y' Y) (hn : as.length = n) (hw : (st.map fun v => v.category).sum ≤ 8) (st0 : List Value) (hst : st0 = as.reverse ++ .ref a :: st)
    (hM : AM Y' (.ref a :: as) N h (fun r N' h' => AW Y q ls (psh r st) N' u h' P)) : AW Y pc ls st0 N (u.1 + Y'.2.2.2.2.2.1, u.2 + Y'.2.2.2.2.2.2) h P := by
  subst hq
  intro D M p l e R s m args below meth c Z C H locs cells slots lsA hR hS h1 h2 hL
  refine aw_back (Y' := Y') (u := u) (st := st) C hS (by have := h1; dsimp only at this; omega) (by have := h2; dsimp only at this; omega) hL (a := (Value.ref (aR M a) :: as.map (vm M)).toArray) ?_
  have hts := C.2.2.2.2.1
  have hcb := hm.cb (own := Y.1.cls) (idx := idx) hts hl (ho.room C.2.2.2.2.2.2.2.2.1)
  rw [hr0] at hcb
  exact va_runI (n := n) (b := aR M a) (As := as.map (vm M)) (rest := st.map (vm M)) ⟨C.1, C.2.1, C.2.2.1, C.2.2.2.1, hts⟩ (hM D M l) ⟨hcb, hi, hts _ hv⟩ ⟨aPc_blind, fun U hU hW => aPc_of C.2.2.2.2.2.1 C.2.2.2.2.2.2.1 hR hS hU hW rfl⟩ rfl (by rw [List.length_map]; exact hn) hL.1 (by rw [hst, List.map_append, List.map_reverse]; rfl) (lv_room (by rw [List.map_map]; exact (by rw [show ((fun v => v.category) ∘ vm M) = (fun v : Value => v.category) from funext fun v => vm_cat M v]; exact hw))) hd ⟨by omega, by omega⟩
theorem AW.objInit {idx a : Nat} (q : Nat) (hd : decode Y.2.1 pc = .ok (.invokespecial idx, 3)) (hq : pc + 3 = q) (hl : Cond.methodLink Y.1.cls idx Lib.objectInit ∈ gT) (hi : Cond.instanceMethod Lib.objectInit ∈ gT) (hc : Cond.code Lib.objectInit ⟨#[0xb1]⟩ 1 none ∈ gT) (hw : (st.map fun v => v.category).sum ≤ 8) (hlv : 1 ≤ Y.2.2.2.2.1) (k : AW Y q ls st N u h P) : AW Y pc ls (.ref a :: st) N u h P := by
  subst hq
  intro D M p l e R s m args below meth c Z C H locs cells slots lsA hR hS h1 h2 hL
  have hts := C.2.2.2.2.1
  have hw2 : 2 * (F0 m pc lsA ((Value.ref a :: st).map (vm M))).monitorRoom + ((st.map (vm M)).map fun v => v.category).sum ≤ 8 := lv_room (by rw [List.map_map]; exact (by rw [show ((fun v => v.category) ∘ vm M) = (fun v : Value => v.category) from funext fun v => vm_cat M v]; exact hw))
  have hRm := C.2.2.2.2.2.2.2.2.1
  refine W.objInit C.1 C.2.1 C.2.2.2.1 (hts _ hl) (hts _ hi) (hts _ hc) rfl (by rw [C.2.2.1]; exact hL.1) rfl hd (by omega) (by omega) ?_
  exact k D M p l e R s m args below meth c Z C H locs cells slots lsA hR hS h1 h2 hL
end AWC
/-- a method, out of the walk of its body -/
theorem AM.of {Y : aY} {as : List Value} {N : Nat} {h : aH} {P : aP} (hy : plainName Y.1.cls = true) (hsz : (lg_sl as).length ≤ Y.2.2.1) (k : AW Y 0 (alocs as Y.2.2.1) [] N (Y.2.2.2.2.2.1, Y.2.2.2.2.2.2) h P) : AM Y as N h P := by
  intro D M l
  refine Met.ofW (cc := Y.2.1) (maxL := Y.2.2.1) (ret := Y.2.2.2.1) hy rfl ?_
  intro p e s m args below meth c s₁ B hml hv
  obtain ⟨rfl, hR, hK, hSt⟩ := hv
  have hts := atoms_spec (ws := aWs Y) B.pre
  have hlen : (lg_sl (as.map (vm M))).length = (lg_sl as).length := by
    simp only [lg_sl, List.flatMap_map, vm_cat, List.length_flatMap, List.map_map]
    congr 1
    refine List.map_congr_left fun v _ => ?_
    by_cases q : v.category = 2 <;> simp [q, vm_cat]
  have hl := lv_entry (as.map (vm M)) (n := Y.2.2.1) (by rw [hlen]; exact hsz)
  rw [lg_entry_eq]
  refine k D M p l e _ s m _ below meth c _ ⟨B.exec, B.bytes, hml, findClass_of_methodNamed B.named, fun w hw => hts w (List.mem_cons_of_mem _ hw), hK, hSt, fun q => (name_of_methodNamed B.named B.method).1.trans q, ⟨Nat.le_refl _, Nat.le_refl _⟩, ?_⟩ s.heap [] 0 0 _ hR va_S.rf (by show 0 + _ ≤ _; rw [Nat.zero_add]; exact Nat.le_refl _) (by show 0 + _ ≤ _; rw [Nat.zero_add]; exact Nat.le_refl _) ⟨hl.1, hl.2.1, fun i v hv => hl.2.2 (i, vm M v) (by have := alocs_args M as _ 0 i v hv; rw [Nat.zero_add] at this; exact this)⟩
  intro r ins pc N' h' H locs cells slots lsA hk hP hd hR' hS' hc hs
  refine W.widen (k := Y.2.2.2.2.2.1) (n := Y.2.2.2.2.2.2) hc hs ?_
  have hr := B.returns
  have hq : ∀ t : State, t.heap = H → s.WarmedH t.vm → aQc D M P ((as.map (vm M)).toArray) s (.returned (r.map (vm M))) t := fun t ht hW => ⟨r, N', h', rfl, hP, by rw [ht]; exact hR', by rw [ht]; exact hS'.1, fun q h1 h2 => by rw [ht]; exact hS'.2.1 q h1 h2⟩
  have hlk := B.notSynchronized
  rcases hk with ⟨e1, rfl, rfl⟩ | ⟨v, e1, rfl, rfl⟩ | ⟨v, e1, rfl, rfl, hz⟩ | ⟨v, e1, rfl, rfl⟩ | ⟨t, a, e1, rfl, rfl⟩
  · exact W.vret B.exec B.bytes (hr.trans e1) hq hS'.2.2 hd
  · exact W.iret B.exec B.bytes (hr.trans e1) hq hS'.2.2 hd
  · exact W.zret B.exec B.bytes (hr.trans e1) hz hq hS'.2.2 hd
  · exact W.lret B.exec B.bytes (hr.trans e1) hq hS'.2.2 hd
  · exact W.aret B.exec B.bytes (hr.trans e1) (Or.inl ⟨t, rfl⟩) (Or.inr ⟨aR M a, rfl⟩) hq hS'.2.2 hd
