/-! a new exception is thrown out of the method -/
section ZT
variable {p : Program} {l : Launch} {e : Env} {R : Room} {s : State} {m : MethodId} {args : Array Value} {below : List Frame} {meth : Method} {c : Code} {T : State} {locs : List Loc} {cells slots : Nat}
/-- the walk as if it began here -/
theorem z_rebase (X : Stand p l e R s m args below meth c T locs cells slots) {kc ks : Nat} (hc : cells + kc ≤ R.cells) (hs : slots + ks ≤ R.slots) :
    Stand p l e { frames := R.frames, cells := kc, slots := ks, locals := R.locals } (T.setFrames (.invoking m args :: below)) m args below meth c T [] 0 0 := by
  obtain ⟨g₀, hfr⟩ := X.frames_eq
  have hcur : T.cur < T.threads.size := State.cur_lt_of_frames hfr
  have hF : (T.setFrames (.invoking m args :: below)).frames = .invoking m args :: below := State.frames_setFrames _ hcur
  have hme : ∀ k, T.vm.method? k = s.vm.method? k := fun k => by rw [X.warmed.alike.method?]
  refine ⟨X.admits, X.cas, X.clock, hF, ?_, ?_, X.method', X.code, X.here, X.tail, State.WarmedH.refl (T.setFrames (.invoking m args :: below)), (State.stackLimits_setFrames _ _ _).symm, (State.stackBytes_setFrames _ _).symm, ?_⟩
  · have h0 := X.room
    have h1 := X.heapSize
    have h2 := X.used
    have h3 := X.book
    simp only [State.hasRoom, Bool.and_eq_true, decide_eq_true_eq] at h0 ⊢
    rw [State.localsInUse_invoking X.frames X.method X.code, X.frames] at h0
    rw [State.localsInUse_invoking hF X.method' X.code, hF, State.stackLimits_setFrames, State.stackBytes_setFrames, X.limits, X.bytes]
    obtain ⟨⟨⟨⟨a1, a2⟩, a3⟩, a4⟩, a5⟩ := h0
    refine ⟨⟨⟨⟨a1, a2⟩, ?_⟩, ?_⟩, h3⟩
    · show T.heap.size + kc ≤ _
      omega
    · show T.slotsUsed + ks ≤ _
      omega
  · have h0 := X.hears
    rcases below with _ | ⟨y, r⟩
    · simpa [State.hears, hme] using h0
    · cases y <;> first | rfl | (simpa [State.hears, State.code?_eq, hme] using h0)
  · obtain ⟨th, hth, -⟩ := State.frames_cons hF
    have h1 := (State.sameButNew.refl (T.setFrames (.invoking m args :: below)) hth).setFrames T.frames (State.cur_lt_of_frames hF)
    obtain ⟨th', hth', -⟩ := State.frames_cons hfr
    rw [State.setFrames_setFrames, State.setFrames_self hth'] at h1
    exact h1
theorem z_kept {s' t : State} {k n : Nat} (h : s'.sameButNew t [] k n) {a : Nat} {cell : Cell} (hc : s'.heap[a]? = some cell) : t.heap[a]? = some cell := by
  obtain ⟨c', h1, h2, h3, h4⟩ := h.2.2.2.2.2 a cell hc
  have h5 : c'.slots = cell.slots := by
    apply Array.ext_getElem?
    intro i
    exact h4 i (by simp)
  rw [h5] at h2
  rw [h1, h2]
end ZT
/-- a word that doesn't speak of the heap -/
def z_hp : Cond → Bool
  | .isRef _ => false
  | .laysStatic .. => false
  | _ => true
/-- the words of a new exception with no message, but those of the heap -/
def z_thr (own : String) (ix ic : Nat) (X : String) : List Cond :=
  [.classLink own ix X, .initialized X] ++ (Bundle.ownAtoms0 own ic X ["java/lang/RuntimeException", "java/lang/Exception"]).filter z_hp
section ZU
variable {G : z_G} {mt : z_M} {d pc : Nat} {lo : List (Nat × Value)} {st : List Value} {h : z_H} {Q : z_R → z_H → Prop}
set_option maxHeartbeats 1000000 in
theorem z_throw {ix ic : Nat} {Xn : String} (hd0 : decode mt.2.1 pc = .ok (.new ix, 3)) (hd3 : decode mt.2.1 (pc + 3) = .ok (.dup, 1)) (hd4 : decode mt.2.1 (pc + 4) = .ok (.invokespecial ic, 3)) (hd7 : decode mt.2.1 (pc + 7) = .ok (.athrow, 1)) (hh : mt.2.2.2.2 = [])
    (hfit : Bundle.fit Xn = true) (hws : ∀ w ∈ z_thr mt.1.cls ix ic Xn, w ∈ G.Ts) (hc : h.1 + 1 ≤ G.b0 + G.cc) (hs : h.2.1 + 6 ≤ G.ss) (hst : (st.map fun v => v.category).sum ≤ 8) (hq : Q (.inr Xn) (h.1 + 1, h.2.1 + 6, h.2.2)) : z_V G mt d pc lo st h Q := by
  intro p e s m args below meth c R ss0 H locs ls S hl T hT X
  subst hT
  have hlocks : meth.locks = false := S.1.2.1.2.1
  have hts : ∀ w ∈ G.Ts, w.before args s = true := S.1.2.2.2.1
  have hmv : ∀ w ∈ G.Ts, z_mv w = true := S.1.2.2.2.2.1
  obtain ⟨S1, ⟨r1, r2, r3, r4⟩, ⟨Ra, ⟨ws, hP, hD, hcov⟩, Rz1, Rz2, Rx, Rb⟩, S4, s5a, s5b, s5c, s5d⟩ := id S
  have X' := z_rebase X (kc := 1) (ks := 6) (by omega) (by omega)
  have hal : s.vm.Alike T.vm := X.warmed.alike
  have hW0 : s.WarmedH (T.setFrames (.invoking m args :: below)).vm := X.warmed
  have hw : ∀ w ∈ z_thr mt.1.cls ix ic Xn, w.before args (T.setFrames (.invoking m args :: below)) = true := fun w hm => z_move (hmv w (hws w hm)) hW0 (hts w (hws w hm))
  have hat : ∀ w ∈ Bundle.ownAtoms0 mt.1.cls ic Xn ["java/lang/RuntimeException", "java/lang/Exception"], w.before args (T.setFrames (.invoking m args :: below)) = true := by
    intro w hm
    by_cases hr : z_hp w = true
    · exact hw w (List.mem_append_right _ (List.mem_filter.mpr ⟨hm, hr⟩))
    · have z1 := (Rz1.moved (U := T.setFrames (.invoking m args :: below)) hal)
      have z2 := (Rz2.moved (U := T.setFrames (.invoking m args :: below)) hal)
      simp only [Bundle.ownAtoms0, Bundle.throwableAtoms, Bundle.chain0Atoms, Bundle.passAtoms, List.mem_append, List.mem_cons, List.not_mem_nil, or_false] at hm
      rcases hm with (hm | hm) | hm
      · rcases hm with rfl | rfl | rfl | rfl | rfl | rfl | rfl | rfl | rfl | rfl | rfl | rfl | rfl | rfl | rfl | rfl | rfl | rfl | rfl | rfl | rfl | rfl | rfl | rfl
        all_goals first | exact absurd rfl hr | exact z1.lays args | exact z2.lays args
      · rcases hm with (rfl | rfl | rfl | rfl | rfl) | (rfl | rfl | rfl | rfl | rfl) | (rfl | rfl | rfl | rfl | rfl) <;> exact absurd rfl hr
      · rcases hm with rfl | rfl | rfl | rfl | rfl | rfl | rfl | rfl | rfl | rfl | rfl | rfl | rfl | rfl
        all_goals first | exact absurd rfl hr | exact z1.isRef args | exact z2.isRef args
  have hown : (T.setFrames (.invoking m args :: below)).vm.findClass mt.1.cls = some m.cls := by
    show T.vm.findClass mt.1.cls = some m.cls
    rw [hal.findClass]
    exact S1.2.1.1
  have hins : (Cond.instantiable Xn 6).before args (T.setFrames (.invoking m args :: below)) = true := hat _ (by simp [Bundle.ownAtoms0])
  have hx : p.tables.exec = Jvm.exec := S1.1.1
  have hb : c.code = mt.2.1 := S1.1.2.1
  have htr : e.platform.stackTraces = false := S1.2.2.2.2.2 e X.admits
  have hW : W p G.l e { frames := R.frames, cells := 1, slots := 6, locals := R.locals } (T.setFrames (.invoking m args :: below)) m args below meth c T.heap [] 0 0
      (fun U => U.status = .running ∧ Ended U below (.threw T.heap.size) ∧ (T.setFrames (.invoking m args :: below)).WarmedH U.vm ∧ (T.setFrames (.invoking m args :: below)).sameButNew ({ U with vm := (T.setFrames (.invoking m args :: below)).vm } : State) [] 1 6 ∧
        ∃ ce, U.heap[T.heap.size]? = some ce ∧ ce.vm = .none ∧ (T.setFrames (.invoking m args :: below)).vm.findClass Xn = some ce.cls) (F0 m pc ls st) := by
    refine W.newc hx hb hown (hw _ (by simp [z_thr])) hins (hw _ (by simp [z_thr])) rfl hd0 (Nat.le_refl _) (Nat.le_refl _) fun cC kC h1 h2 h3 h4 => ?_
    refine lv_dup (pc := pc + 3) hx hb hd3 rfl ?_
    intro T2 hT2 X2
    obtain ⟨U, u1, u2, u3, u4, u5, ce, u6, u7⟩ := X2.ctorThrow0 hx htr (own := mt.1.cls) (cls := Xn) (names := ["java/lang/RuntimeException", "java/lang/Exception"]) (ic := ic) hown hfit (by decide) hat (fun x hx => by cases hx)
      (a := T.heap.size) h1 h2 (by rw [hT2]; simp [freshCell]) (Nat.le_refl _) (g := F0 m (pc + 3 + 1) ls (.ref T.heap.size :: .ref T.heap.size :: st)) rfl (hl.1.trans S1.1.2.2.1.symm) rfl rfl (rest := st) rfl (by rw [hb]; exact hd4) (by rw [hb]; exact hd7) (z_noh (S1.2.1.2.2.2.trans hh) _) (by show 2 + 3 < R.frames; omega) (by show 2 * 0 + (1 + (st.map fun v => v.category).sum) + (13 * (2 + 1) + 41) ≤ R.locals; omega)
    exact ⟨U, u1, u2, u3, u4, u5, ce, u6, u7.vm, u7.cls⟩
  obtain ⟨U, a1, u2, u3, u4, u5, ce, u6, u7, u8⟩ := hW T rfl X'
  have hT1 : T.sameButNew ({ U with vm := T.vm } : State) [] 1 6 := by
    obtain ⟨e2, q⟩ := u5
    refine ⟨?_, q⟩
    rw [State.setFrames_setFrames] at e2
    exact e2
  have hkeep : ∀ (a : Nat) (cell : Cell), T.heap[a]? = some cell → U.heap[a]? = some cell := fun a cell hcell => z_kept (t := ({ U with vm := T.vm } : State)) hT1 hcell
  have hzU : U.heap.size = h.1 + 1 := by
    have q1 : U.heap.size ≤ T.heap.size + 1 := hT1.2.2.1
    have q2 := (Array.getElem?_eq_some_iff.mp u6).1
    omega
  have hsm : s.sameButNew ({ U with vm := s.vm } : State) locs (h.1 + 1 - s.heap.size) (h.2.1 + 6 - ss0) := by
    have h1 := X.same.trans (hT1.setVm s.vm)
    rw [List.append_nil, show h.1 - s.heap.size + 1 = h.1 + 1 - s.heap.size by omega, show h.2.1 - ss0 + 6 = h.2.1 + 6 - ss0 by omega] at h1
    exact h1
  have hko : ∀ q : Nat, q < T.heap.size → U.heap[q]? = T.heap[q]? := fun q hq => by
    have e1 : T.heap[q]? = some T.heap[q] := Array.getElem?_eq_getElem hq
    rw [e1]
    exact hkeep q _ e1
  refine ⟨U, a1, .threw T.heap.size, .inr Xn, (h.1 + 1, h.2.1 + 6, h.2.2), hq, u2, u3, State.WarmedH.trans X.warmed u4, ⟨locs, hsm, S4.1.2.2⟩, ⟨hzU, ⟨ws, hP.kept (fun k x hx => hko x.1 ((hP k x hx).lt)), hD, hcov⟩, Rz1.kept (fun a ha => hko a (by have := S4.2; have := S4.1.1; omega)), Rz2.kept (fun a ha => hko a (by have := S4.2; have := S4.1.1; omega)), Rx.kept (hko _ (by have := S4.2; have := S4.1.1; omega)), Rb⟩, fun q hq2 => ?_, ⟨by show s.heap.size ≤ h.1 + 1; omega, by show ss0 ≤ h.2.1 + 6; omega, hc, hs⟩, T.heap.size, ce, rfl, u6, u7, ?_⟩
  · have hq3 : q < s.heap.size := Nat.lt_of_lt_of_le hq2 S4.2
    rw [hko q (Nat.lt_of_lt_of_le hq3 S4.1.1)]
    exact S4.1.2.1 q hq3 (Nat.not_le.mpr hq2)
  · rw [← hal.findClass]
    exact u8
end ZU
