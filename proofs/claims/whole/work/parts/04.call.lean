/-! calls, and exceptions -/
theorem z_under {tb : Tables} {e : Env} {g : JFrame} {below : List Frame} {a b : State} (h : Steps tb e (.java g :: below) a b) : Steps tb e below a b := by
  obtain ⟨n, h1, h2⟩ := h
  refine ⟨n, h1, fun k hk => ?_⟩
  obtain ⟨ab, e1, e2, e3⟩ := h2 k hk
  refine ⟨ab ++ [.java g], by rw [e1]; simp, by simp, fun x q => ?_⟩
  cases ab with
  | nil => exact e2 rfl
  | cons y t => simp at q
/-- the method's own code stands in the tables -/
def z_cd (G : z_G) (mt : z_M) : Prop := (mt.2.2.2.2 = [] ∧ Cond.code mt.1 mt.2.1 mt.2.2.1 mt.2.2.2.1 ∈ G.Ts) ∨ Cond.codeWith mt.1 mt.2.1 mt.2.2.1 mt.2.2.2.1 mt.2.2.2.2 ∈ G.Ts
theorem z_cd.spec {G : z_G} {mt : z_M} (hc : z_cd G mt) {args : Array Value} {s : State} (hts : ∀ w ∈ G.Ts, w.before args s = true) :
    ∃ (mk : MethodId) (meth : Method) (c : Code), s.methodNamed? mt.1 = some mk ∧ s.vm.method? mk = some meth ∧ meth.code = some c ∧ c.code = mt.2.1 ∧ c.maxLocals = mt.2.2.1 ∧ meth.sig.returnType = mt.2.2.2.1 ∧ meth.locks = false ∧
      c.exceptionTable.toList.map (fun h => (h.startPc, h.endPc, h.handlerPc, h.catchType)) = mt.2.2.2.2 ∧ parseMethodDescriptor mt.1.desc = some meth.sig := by
  rcases hc with ⟨h0, hc⟩ | hc
  · have hw := hts _ hc
    obtain ⟨mk, hn⟩ := Cond.code_named hw
    obtain ⟨meth, c, h1, h2, h3, h4, h5, h6, h7, h8⟩ := Cond.code_spec hn hw
    refine ⟨mk, meth, c, hn, h1, h2, h3, h4, h5, h6, ?_, h8⟩
    have h9 : c.exceptionTable.size = 0 := by simpa [Array.isEmpty] using h7
    have h10 : c.exceptionTable.toList = [] := List.eq_nil_of_length_eq_zero (by simpa using h9)
    rw [h10, h0]
    rfl
  · obtain ⟨mk, meth, c, hn, h1, h2, h3, h4, h5, h6, h7, h8⟩ := Cond.codeWith_spec (hts _ hc)
    exact ⟨mk, meth, c, hn, h1, h2, h3, h4, h6, h7, h5, h8⟩
section ZC
variable {p : Program} {e : Env} {R : Room} {s : State} {m : MethodId} {args : Array Value} {below : List Frame} {meth : Method} {c : Code} {T : State} {locs : List Loc} {ss0 : Nat}
variable {G : z_G} {mt mtY : z_M} {d dY : Nat} {h : z_H} {as : List Value} {QY : z_R → z_H → Prop}
theorem z_Out.moved {r : z_R} {o : Outcome} {U : State} {H : Heap} (hvm : s.vm.Alike U.vm) (h : z_Out r o U H) : z_Out r o s H := by
  cases r with
  | inl v => exact h
  | inr X =>
    obtain ⟨a, ce, h1, h2, h3, h4⟩ := h
    exact ⟨a, ce, h1, h2, h3, by rw [← hvm.findClass]; exact h4⟩
theorem z_core (X : Stand p G.l e R s m args below meth c T locs (h.1 - s.heap.size) (h.2.1 - ss0)) (S : z_St G mt d p s m args meth c R ss0 T.heap locs h)
    (hM : z_C G mtY dY as h QY) (hdp : dY + 1 ≤ d) (hmx : mtY.2.2.1 ≤ 16) (hcd : z_cd G mtY) (hpl : plainName mtY.1.cls = true)
    {g : JFrame} (hg : g.method = m) (hsize : g.locals.size = c.maxLocals) {ig : Instr} {len : Nat} (hdg : decode c.code g.pc = .ok (ig, len)) (hw : 2 * g.monitorRoom + (g.stack.map fun v => v.category).sum ≤ 8)
    {mk : MethodId} (hmk : s.methodNamed? mtY.1 = some mk) :
    ∃ (o : Outcome) (r : z_R) (h' : z_H) (T' : State) (locs' : List Loc), QY r h' ∧ z_Out r o s T'.heap ∧ Stand p G.l e R s m args below meth c T' locs' (h'.1 - s.heap.size) (h'.2.1 - ss0) ∧ z_St G mt d p s m args meth c R ss0 T'.heap locs' h' ∧
      ∀ acts, Steps p.tables e below (doInvoke e (T.setTop g) acts mk as.toArray).1 (match o with | .returned v => T'.setTop { g with pc := g.pc + len, stack := v.toList ++ g.stack } | .threw a => (T'.setTop g).pushFrame (.throwing a)) := by
  obtain ⟨S1, ⟨r1, r2, r3, r4⟩, ⟨Ra, ⟨ws, hP, hD, hcov⟩, Rz1, Rz2, Rx, Rb⟩, S4, S5⟩ := id S
  obtain ⟨s5a, s5b, s5c, s5d⟩ := S5
  have hts : ∀ w ∈ G.Ts, w.before args s = true := S1.2.2.2.1
  have hmv : ∀ w ∈ G.Ts, z_mv w = true := S1.2.2.2.2.1
  have htsT : ∀ w ∈ G.Ts, w.before as.toArray T = true := fun w hw => z_move (hmv w hw) X.warmed (hts w hw)
  obtain ⟨mk', methY, cY, hnY, hmY, hcY, hbY, hlY, hrY, hkY, htY, -⟩ := hcd.spec htsT
  have hnS : T.methodNamed? mtY.1 = some mk := X.named hmk
  cases hnY.symm.trans hnS
  have hplain : T.plainMethod mk := State.plainMethod.of_named (plainFor_of_name hpl) hnS hmY
  obtain ⟨Y, hin⟩ := X.into hg hsize hdg as.toArray (R' := { frames := R.frames - 1, cells := G.b0 + G.cc - h.1, slots := G.ss - h.2.1, locals := R.locals - 35 }) hmY hcY hkY hplain (by show R.frames - 1 + 1 ≤ R.frames; omega) (by show _ + (R.locals - 35) ≤ R.locals; rw [hlY]; omega) (by show _ + (G.b0 + G.cc - h.1) ≤ R.cells; omega) (by show _ + (G.ss - h.2.1) ≤ R.slots; omega)
  have hal : s.vm.Alike T.vm := X.warmed.alike
  have S' : z_St G mtY dY p (T.calling g mk as.toArray) mk as.toArray methY cY { frames := R.frames - 1, cells := G.b0 + G.cc - h.1, slots := G.ss - h.2.1, locals := R.locals - 35 } h.2.1 (T.calling g mk as.toArray).heap [] h := by
    refine ⟨⟨⟨S1.1.1, hbY, hlY, hrY⟩, ⟨findClass_of_methodNamed hnS, hkY, (name_of_methodNamed hnS hmY).1, htY⟩, va_K.moved (u := s) (U := T.calling g mk as.toArray) hal S1.2.2.1, fun w hw => ?_, hmv, S1.2.2.2.2.2⟩, ⟨by show dY + 6 ≤ R.frames - 1; omega, by show 35 * dY + 150 ≤ R.locals - 35; omega, ?_, ?_⟩, ⟨Ra, ⟨ws, hP, hD, hcov⟩, Rz1.moved hal, Rz2.moved hal, Rx.moved hal, Rb⟩, ⟨va_S.rf, ?_⟩, ?_, Nat.le_refl _, s5c, s5d⟩
    · exact z_move (U := T.calling g mk as.toArray) (hmv w hw) X.warmed (hts w hw)
    · show G.b0 + G.cc ≤ T.heap.size + (G.b0 + G.cc - h.1)
      omega
    · show G.ss ≤ h.2.1 + (G.ss - h.2.1)
      omega
    · show G.b0 ≤ T.heap.size
      have := S4.2
      omega
    · show T.heap.size ≤ h.1
      omega
  obtain ⟨t, hst, o, r, h', hq, hrun, hended, hW, ⟨L, hsame, hL⟩, hRel, hlow, ⟨u1, u2, u3, u4⟩, hout⟩ := hM p e (T.calling g mk as.toArray) mk (.java g :: below) methY cY _ S' ((T.setTop g).pushFrame (.java (entryFrame mk as.toArray cY.maxLocals))) rfl Y
  have hzT : (T.calling g mk as.toArray).heap.size = h.1 := Ra
  have hst2 : ∀ acts, Steps p.tables e below (doInvoke e (T.setTop g) acts mk as.toArray).1 t := fun acts => by
    rw [hin acts]
    rw [← hlY] at hst
    exact z_under hst
  have hcl : h.1 - s.heap.size + (h'.1 - (T.calling g mk as.toArray).heap.size) = h'.1 - s.heap.size := by rw [hzT] at u1 ⊢; omega
  have hsl : h.2.1 - ss0 + (h'.2.1 - h.2.1) = h'.2.1 - ss0 := by omega
  have hSt : ∀ T' : State, T'.heap = t.heap → z_St G mt d p s m args meth c R ss0 T'.heap (locs ++ L) h' := by
    intro T' hT'
    rw [hT']
    obtain ⟨q1, q2, q3, q4, q5, q6⟩ := hRel
    refine ⟨S1, ⟨r1, r2, r3, r4⟩, ⟨q1, q2, q3.moved (u := T.calling g mk as.toArray) (U := s) hal.symm, q4.moved (u := T.calling g mk as.toArray) (U := s) hal.symm, q5.moved (u := T.calling g mk as.toArray) (U := s) hal.symm, q6⟩, ⟨⟨?_, fun q g1 g2 => ?_, fun x hx => ?_⟩, S4.2⟩, ?_, by omega, u3, u4⟩
    · rw [hzT] at u1; omega
    · have hq' : q < G.b0 := Nat.not_le.mp g2
      exact (hlow q hq').trans (S4.1.2.1 q g1 g2)
    · rcases List.mem_append.mp hx with hx | hx
      · exact S4.1.2.2 x hx
      · exact hL x hx
    · rw [hzT] at u1; omega
  cases o with
  | returned v =>
    obtain ⟨T', X', -, -, rfl⟩ := X.outOf hg hdg hended hW hsame
    rw [hcl, hsl] at X'
    exact ⟨.returned v, r, h', T', locs ++ L, hq, z_Out.moved (U := T.calling g mk as.toArray) hal hout, X', hSt T' rfl, hst2⟩
  | threw a =>
    obtain ⟨T', X', -, -, rfl⟩ := X.outOfThrown hg hended hW hsame
    rw [hcl, hsl] at X'
    exact ⟨.threw a, r, h', T', locs ++ L, hq, z_Out.moved (U := T.calling g mk as.toArray) hal hout, X', hSt T' rfl, hst2⟩
end ZC
section ZK
variable {G : z_G} {mt mtY : z_M} {d dY pc : Nat} {lo : List (Nat × Value)} {st : List Value} {h : z_H} {Q QY : z_R → z_H → Prop} {as : List Value}
theorem z_noh {c : Code} (hh : c.exceptionTable.toList.map (fun h => (h.startPc, h.endPc, h.handlerPc, h.catchType)) = []) (pc : Nat) : ∀ x ∈ c.exceptionTable.toList, covers x pc = false := by
  have h1 : c.exceptionTable.toList = [] := List.map_eq_nil_iff.mp hh
  intro x hx
  rw [h1] at hx
  cases hx
theorem z_after {p : Program} {e : Env} {R : Room} {s : State} {m : MethodId} {args : Array Value} {below : List Frame} {meth : Method} {c : Code} {T : State} {vm₁ : Vm} {locs : List Loc} {ss0 : Nat} {ls : Array Slot} {st0 : List Value} {ig : Instr} {mk : MethodId}
    (hd : decode mt.2.1 pc = .ok (ig, 3)) (hh : mt.2.2.2.2 = []) (hdp : dY + 1 ≤ d) (hmx : mtY.2.2.1 ≤ 16) (hcd : z_cd G mtY) (hpl : plainName mtY.1.cls = true) (hst : (st.map fun v => v.category).sum ≤ 8) (hM : z_C G mtY dY as h QY)
    (kr : ∀ v h', QY (.inl v) h' → z_V G mt d (pc + 3) lo (v.toList ++ st) h' Q) (kx : ∀ X h', QY (.inr X) h' → Q (.inr X) h')
    (S : z_St G mt d p s m args meth c R ss0 T.heap locs h) (hl : lv_has ls mt.2.2.1 lo) (X : Stand p G.l e R s m args below meth c (T.setVm vm₁) locs (h.1 - s.heap.size) (h.2.1 - ss0)) (hmk : s.methodNamed? mtY.1 = some mk)
    (hstep : ∀ target, (∀ acts, Steps p.tables e below (doInvoke e ((T.setVm vm₁).setTop (F0 m pc ls st)) acts mk as.toArray).1 target) → Steps p.tables e below (T.setTop (F0 m pc ls st0)) target) :
    ∃ t, Steps p.tables e below (T.setTop (F0 m pc ls st0)) t ∧ z_End G s below ss0 Q t := by
  obtain ⟨o, r, h', T', locs', hq, hout, X', S', hs⟩ := z_core (T := T.setVm vm₁) X S hM hdp hmx hcd hpl (g := F0 m pc ls st) rfl (hl.1.trans S.1.1.2.2.1.symm) (by rw [S.1.1.2.1]; exact hd) (by show 2 * 0 + (st.map fun v => v.category).sum ≤ 8; omega) hmk
  cases r with
  | inl v =>
    obtain rfl : o = .returned v := hout
    obtain ⟨t, a, b⟩ := kr v h' hq p e s m args below meth c R ss0 T'.heap locs' ls S' hl T' rfl X'
    exact ⟨t, hstep t (fun acts => (hs acts).trans a), b⟩
  | inr Xc =>
    obtain ⟨a, ce, rfl, hce, hcv, hcc⟩ := hout
    have hlocks : meth.locks = false := S.1.2.1.2.1
    obtain ⟨hwalk, hrun, hended, hW, hsame⟩ := X'.leaveThrown a (g := F0 m pc ls st) rfl rfl rfl (z_noh (S.1.2.1.2.2.2.trans hh) _)
    refine ⟨T'.setFrames (.throwing a :: below), hstep _ (fun acts => (hs acts).trans hwalk), .threw a, .inr Xc, h', kx Xc h' hq, hrun, hended, hW, ⟨locs', hsame, S'.2.2.2.1.1.2.2⟩, S'.2.2.1, fun q hq2 => ?_, S'.2.2.2.2, a, ce, rfl, hce, hcv, hcc⟩
    exact S'.2.2.2.1.1.2.1 q (Nat.lt_of_lt_of_le hq2 S'.2.2.2.1.2) (Nat.not_le.mpr hq2)
/-- what the tables say of a method that a class's pool names at index -/
def z_Yb (G : z_G) (own : String) (idx : Nat) (mtY : z_M) (n : Nat) : Prop := z_cd G mtY ∧ plainName mtY.1.cls = true ∧ mtY.2.2.1 ≤ 16 ∧ ((mtY.1.cls ≠ "java/lang/invoke/MethodHandle" ∧ mtY.1.cls ≠ "java/lang/invoke/VarHandle") ∧ (parseMethodDescriptor mtY.1.desc).map (fun d => d.parameters.length) = some n) ∧
  (Cond.methodLink own idx mtY.1 ∈ G.Ts ∨ ∃ host : String, Cond.methodLinkNest own idx mtY.1 host ∈ G.Ts)
def z_Yv (G : z_G) (own : String) (idx : Nat) (mtY : z_M) (n : Nat) : Prop := z_Yb G own idx mtY n ∧ Cond.instanceMethod mtY.1 ∈ G.Ts ∧ Cond.selects mtY.1.cls mtY.1 mtY.1 ∈ G.Ts
def z_Ys (G : z_G) (own : String) (idx : Nat) (mtY : z_M) (n : Nat) : Prop := z_Yb G own idx mtY n ∧ Cond.static mtY.1 ∈ G.Ts ∧ Cond.initialized mtY.1.cls ∈ G.Ts
def z_Yi (G : z_G) (own : String) (idx : Nat) (mtY : z_M) : Prop := z_Yb G own idx mtY 0 ∧ mtY.1.name = "<init>" ∧ mtY.2.2.2.1 = none ∧ mtY.2.2.2.2 = [] ∧ Cond.code mtY.1 mtY.2.1 mtY.2.2.1 none ∈ G.Ts ∧ Cond.instanceMethod mtY.1 ∈ G.Ts
theorem z_callV {b ci N idx n : Nat} {T : u_T} {fs : List Value} (hd : decode mt.2.1 pc = .ok (.invokevirtual idx, 3)) (hh : mt.2.2.2.2 = []) (hdp : dY + 1 ≤ d) (Y : z_Yv G mt.1.cls idx mtY n) (hn : as.length = n) (hb : h.2.2 b = some (.inr (ci, fs))) (hcl : G.cl[ci]? = some (mtY.1.cls, T, N)) (hst : (st.map fun v => v.category).sum ≤ 8) (hM : z_C G mtY dY (.ref b :: as) h QY)
    (kr : ∀ v h', QY (.inl v) h' → z_V G mt d (pc + 3) lo (v.toList ++ st) h' Q) (kx : ∀ X h', QY (.inr X) h' → Q (.inr X) h') : z_V G mt d pc lo (as.reverse ++ .ref b :: st) h Q := by
  intro p e s m args below meth c R ss0 H locs ls S hl T0 hT X
  subst hT
  obtain ⟨⟨hcd, hpl, hmx, ⟨hy, hpd⟩, hL⟩, hw1, hw2⟩ := Y
  have hts : ∀ w ∈ G.Ts, w.before args s = true := S.1.2.2.2.1
  obtain ⟨mk, methM, hnamed, hmethM, hstM, habM⟩ := Cond.instanceMethod_spec (hts _ hw1)
  obtain ⟨mk', methY, cY, hnY, hmY, -, -, -, -, -, -, hsig⟩ := hcd.spec hts
  cases hnamed.symm.trans hnY
  cases hmethM.symm.trans hmY
  have hlen : as.length = methM.sig.parameters.length := by
    rw [hsig] at hpd
    exact hn.trans (Option.some.inj hpd).symm
  obtain ⟨c2, r2, m2, q1, q2, q3, q4, kP, hkP, hkPi⟩ := Cond.selects_spec (hts _ hw2)
  obtain ⟨ws, hP, hD, hcov⟩ := S.2.2.1.2.1
  obtain ⟨q0, hq⟩ := hcov b _ hb
  obtain ⟨cellB, hcB, hoB, hclB⟩ := va_recv S.1.2.2.1 hP hcl hq
  cases hclB.symm.trans q1
  cases (State.methodFound?_of_named hnamed hy).symm.trans q2
  cases hnamed.symm.trans q3
  have hselP : selectMethod e.platform s.vm cellB.cls mk = .method mk := by rw [Launch.admits_selectMethod X.admits]; exact q4
  have hdc : decode c.code (F0 m pc ls (as.reverse ++ .ref b :: st)).pc = .ok (.invokevirtual idx, 3) := by rw [S.1.1.2.1]; exact hd
  rcases hL with hL | ⟨host, hL⟩
  · obtain ⟨vm₁, X₁, hstep⟩ := X.invokevirtual S.1.1.1 S.1.2.1.1 (hts _ hL) hnamed hmethM hstM hkP hkPi hy (a := b) (cell := cellB) hcB (fun z hz => by rw [hz] at hoB; cases hoB) hselP hmethM habM hkP hkPi (g := F0 m pc ls (as.reverse ++ .ref b :: st)) rfl (argsL := as) (rest := st) hlen rfl hdc
    exact z_after (as := .ref b :: as) hd hh hdp hmx hcd hpl hst hM kr kx S hl X₁ hnamed hstep
  · obtain ⟨vm₁, X₁, hstep⟩ := X.invokevirtualNest S.1.1.1 S.1.2.1.1 (hts _ hL) hnamed hmethM hstM hkP hkPi hy (a := b) (cell := cellB) hcB (fun z hz => by rw [hz] at hoB; cases hoB) hselP hmethM habM hkP hkPi (g := F0 m pc ls (as.reverse ++ .ref b :: st)) rfl (argsL := as) (rest := st) hlen rfl hdc
    exact z_after (as := .ref b :: as) hd hh hdp hmx hcd hpl hst hM kr kx S hl X₁ hnamed hstep
theorem z_callS {idx n : Nat} (hd : decode mt.2.1 pc = .ok (.invokestatic idx, 3)) (hh : mt.2.2.2.2 = []) (hdp : dY + 1 ≤ d) (Y : z_Ys G mt.1.cls idx mtY n) (hn : as.length = n) (hst : (st.map fun v => v.category).sum ≤ 8) (hM : z_C G mtY dY as h QY)
    (kr : ∀ v h', QY (.inl v) h' → z_V G mt d (pc + 3) lo (v.toList ++ st) h' Q) (kx : ∀ X h', QY (.inr X) h' → Q (.inr X) h') : z_V G mt d pc lo (as.reverse ++ st) h Q := by
  intro p e s m args below meth c R ss0 H locs ls S hl T0 hT X
  subst hT
  obtain ⟨⟨hcd, hpl, hmx, ⟨hy, hpd⟩, hL⟩, hw1, hw2⟩ := Y
  have hts : ∀ w ∈ G.Ts, w.before args s = true := S.1.2.2.2.1
  obtain ⟨mk, methM, cM, hnamed, hmethM, -, -, -, -, -, -, hsig⟩ := hcd.spec hts
  have hstatic : methM.isStatic = true := Cond.static_spec hnamed hmethM (hts _ hw1)
  obtain ⟨kP, hkP, -⟩ := className_of_methodNamed hnamed
  have hinitP : kP.init = .initialized := Cond.initialized_spec (findClass_of_methodNamed hnamed) hkP (hts _ hw2)
  have hlen : as.length = methM.sig.parameters.length := by
    rw [hsig] at hpd
    exact hn.trans (Option.some.inj hpd).symm
  have hdc : decode c.code (F0 m pc ls (as.reverse ++ st)).pc = .ok (.invokestatic idx, 3) := by rw [S.1.1.2.1]; exact hd
  rcases hL with hL | ⟨host, hL⟩
  · obtain ⟨vm₁, X₁, hstep⟩ := X.invokestatic S.1.1.1 S.1.2.1.1 (hts _ hL) hnamed hmethM hstatic hkP hinitP hy (g := F0 m pc ls (as.reverse ++ st)) rfl (argsL := as) (rest := st) hlen rfl hdc
    exact z_after hd hh hdp hmx hcd hpl hst hM kr kx S hl X₁ hnamed hstep
  · obtain ⟨vm₁, X₁, hstep⟩ := X.invokestaticNest S.1.1.1 S.1.2.1.1 (hts _ hL) hnamed hmethM hstatic hkP hinitP hy (g := F0 m pc ls (as.reverse ++ st)) rfl (argsL := as) (rest := st) hlen rfl hdc
    exact z_after hd hh hdp hmx hcd hpl hst hM kr kx S hl X₁ hnamed hstep
theorem z_callI {b idx : Nat} (hd : decode mt.2.1 pc = .ok (.invokespecial idx, 3)) (hh : mt.2.2.2.2 = []) (hdp : dY + 1 ≤ d) (Y : z_Yi G mt.1.cls idx mtY) (hst : (st.map fun v => v.category).sum ≤ 8) (hM : z_C G mtY dY [.ref b] h QY)
    (kr : ∀ v h', QY (.inl v) h' → z_V G mt d (pc + 3) lo (v.toList ++ st) h' Q) (kx : ∀ X h', QY (.inr X) h' → Q (.inr X) h') : z_V G mt d pc lo (.ref b :: st) h Q := by
  intro p e s m args below meth c R ss0 H locs ls S hl T0 hT X
  subst hT
  obtain ⟨⟨hcd, hpl, hmx, ⟨hy, hpd⟩, hL⟩, hy1, hret, hnh, hcode, hinst⟩ := Y
  have hts : ∀ w ∈ G.Ts, w.before args s = true := S.1.2.2.2.1
  have hpm : e.platform.magicAccessors = ({} : Platform).magicAccessors := by rw [X.admits.platform]
  have hlen : ∀ sig, parseMethodDescriptor mtY.1.desc = some sig → ([] : List Value).length = sig.parameters.length := fun sig hs => by
    rw [hs] at hpd
    exact (Option.some.inj hpd).symm
  have hdc : decode c.code (F0 m pc ls (.ref b :: st)).pc = .ok (.invokespecial idx, 3) := by rw [S.1.1.2.1]; exact hd
  rcases hL with hL | ⟨host, hL⟩
  · obtain ⟨mk, methM, cM, kP, vm₁, hnamed, -, -, -, -, -, -, -, hW₁, hstep⟩ := Steps.initColdArgs (e := e) X.here S.1.1.1 X.warmed hpm S.1.2.1.1 hy1 hy (hts _ hL) (hts _ hinst) (hts _ hcode) (f := F0 m pc ls (.ref b :: st)) rfl (a := b) (argsL := []) (rest := st) hlen rfl hdc
    exact z_after (as := [.ref b]) hd hh hdp hmx hcd hpl hst hM kr kx S hl (X.noted hW₁) hnamed hstep
  · obtain ⟨mk, methM, cM, kP, vm₁, hnamed, -, -, -, -, -, -, -, hW₁, hstep⟩ := Steps.initColdArgsNest (e := e) X.here S.1.1.1 X.warmed hpm S.1.2.1.1 hy1 hy (hts _ hL) (hts _ hinst) (hts _ hcode) (f := F0 m pc ls (.ref b :: st)) rfl (a := b) (argsL := []) (rest := st) hlen rfl hdc
    exact z_after (as := [.ref b]) hd hh hdp hmx hcd hpl hst hM kr kx S hl (X.noted hW₁) hnamed hstep
theorem z_callV0 {b ci N idx : Nat} {T : u_T} {fs : List Value} (hd : decode mt.2.1 pc = .ok (.invokevirtual idx, 3)) (hh : mt.2.2.2.2 = []) (hdp : dY + 1 ≤ d) (Y : z_Yv G mt.1.cls idx mtY 0) (hb : h.2.2 b = some (.inr (ci, fs))) (hcl : G.cl[ci]? = some (mtY.1.cls, T, N)) (hst : (st.map fun v => v.category).sum ≤ 8) (hM : z_C G mtY dY [.ref b] h QY)
    (kr : ∀ v h', QY (.inl v) h' → z_V G mt d (pc + 3) lo (v.toList ++ st) h' Q) (kx : ∀ X h', QY (.inr X) h' → Q (.inr X) h') : z_V G mt d pc lo (.ref b :: st) h Q :=
  z_callV (as := []) hd hh hdp Y rfl hb hcl hst hM kr kx
theorem z_callV1 {x1 : Value} {b ci N idx : Nat} {T : u_T} {fs : List Value} (hd : decode mt.2.1 pc = .ok (.invokevirtual idx, 3)) (hh : mt.2.2.2.2 = []) (hdp : dY + 1 ≤ d) (Y : z_Yv G mt.1.cls idx mtY 1) (hb : h.2.2 b = some (.inr (ci, fs))) (hcl : G.cl[ci]? = some (mtY.1.cls, T, N)) (hst : (st.map fun v => v.category).sum ≤ 8) (hM : z_C G mtY dY [.ref b, x1] h QY)
    (kr : ∀ v h', QY (.inl v) h' → z_V G mt d (pc + 3) lo (v.toList ++ st) h' Q) (kx : ∀ X h', QY (.inr X) h' → Q (.inr X) h') : z_V G mt d pc lo (x1 :: .ref b :: st) h Q :=
  z_callV (as := [x1]) hd hh hdp Y rfl hb hcl hst hM kr kx
theorem z_callV2 {x1 x2 : Value} {b ci N idx : Nat} {T : u_T} {fs : List Value} (hd : decode mt.2.1 pc = .ok (.invokevirtual idx, 3)) (hh : mt.2.2.2.2 = []) (hdp : dY + 1 ≤ d) (Y : z_Yv G mt.1.cls idx mtY 2) (hb : h.2.2 b = some (.inr (ci, fs))) (hcl : G.cl[ci]? = some (mtY.1.cls, T, N)) (hst : (st.map fun v => v.category).sum ≤ 8) (hM : z_C G mtY dY [.ref b, x1, x2] h QY)
    (kr : ∀ v h', QY (.inl v) h' → z_V G mt d (pc + 3) lo (v.toList ++ st) h' Q) (kx : ∀ X h', QY (.inr X) h' → Q (.inr X) h') : z_V G mt d pc lo (x2 :: x1 :: .ref b :: st) h Q :=
  z_callV (as := [x1, x2]) hd hh hdp Y rfl hb hcl hst hM kr kx
theorem z_callV3 {x1 x2 x3 : Value} {b ci N idx : Nat} {T : u_T} {fs : List Value} (hd : decode mt.2.1 pc = .ok (.invokevirtual idx, 3)) (hh : mt.2.2.2.2 = []) (hdp : dY + 1 ≤ d) (Y : z_Yv G mt.1.cls idx mtY 3) (hb : h.2.2 b = some (.inr (ci, fs))) (hcl : G.cl[ci]? = some (mtY.1.cls, T, N)) (hst : (st.map fun v => v.category).sum ≤ 8) (hM : z_C G mtY dY [.ref b, x1, x2, x3] h QY)
    (kr : ∀ v h', QY (.inl v) h' → z_V G mt d (pc + 3) lo (v.toList ++ st) h' Q) (kx : ∀ X h', QY (.inr X) h' → Q (.inr X) h') : z_V G mt d pc lo (x3 :: x2 :: x1 :: .ref b :: st) h Q :=
  z_callV (as := [x1, x2, x3]) hd hh hdp Y rfl hb hcl hst hM kr kx
theorem z_callV4 {x1 x2 x3 x4 : Value} {b ci N idx : Nat} {T : u_T} {fs : List Value} (hd : decode mt.2.1 pc = .ok (.invokevirtual idx, 3)) (hh : mt.2.2.2.2 = []) (hdp : dY + 1 ≤ d) (Y : z_Yv G mt.1.cls idx mtY 4) (hb : h.2.2 b = some (.inr (ci, fs))) (hcl : G.cl[ci]? = some (mtY.1.cls, T, N)) (hst : (st.map fun v => v.category).sum ≤ 8) (hM : z_C G mtY dY [.ref b, x1, x2, x3, x4] h QY)
    (kr : ∀ v h', QY (.inl v) h' → z_V G mt d (pc + 3) lo (v.toList ++ st) h' Q) (kx : ∀ X h', QY (.inr X) h' → Q (.inr X) h') : z_V G mt d pc lo (x4 :: x3 :: x2 :: x1 :: .ref b :: st) h Q :=
  z_callV (as := [x1, x2, x3, x4]) hd hh hdp Y rfl hb hcl hst hM kr kx
theorem z_callV5 {x1 x2 x3 x4 x5 : Value} {b ci N idx : Nat} {T : u_T} {fs : List Value} (hd : decode mt.2.1 pc = .ok (.invokevirtual idx, 3)) (hh : mt.2.2.2.2 = []) (hdp : dY + 1 ≤ d) (Y : z_Yv G mt.1.cls idx mtY 5) (hb : h.2.2 b = some (.inr (ci, fs))) (hcl : G.cl[ci]? = some (mtY.1.cls, T, N)) (hst : (st.map fun v => v.category).sum ≤ 8) (hM : z_C G mtY dY [.ref b, x1, x2, x3, x4, x5] h QY)
    (kr : ∀ v h', QY (.inl v) h' → z_V G mt d (pc + 3) lo (v.toList ++ st) h' Q) (kx : ∀ X h', QY (.inr X) h' → Q (.inr X) h') : z_V G mt d pc lo (x5 :: x4 :: x3 :: x2 :: x1 :: .ref b :: st) h Q :=
  z_callV (as := [x1, x2, x3, x4, x5]) hd hh hdp Y rfl hb hcl hst hM kr kx
theorem z_callS1 {x1 : Value} {idx : Nat} (hd : decode mt.2.1 pc = .ok (.invokestatic idx, 3)) (hh : mt.2.2.2.2 = []) (hdp : dY + 1 ≤ d) (Y : z_Ys G mt.1.cls idx mtY 1) (hst : (st.map fun v => v.category).sum ≤ 8) (hM : z_C G mtY dY [x1] h QY)
    (kr : ∀ v h', QY (.inl v) h' → z_V G mt d (pc + 3) lo (v.toList ++ st) h' Q) (kx : ∀ X h', QY (.inr X) h' → Q (.inr X) h') : z_V G mt d pc lo (x1 :: st) h Q :=
  z_callS (as := [x1]) hd hh hdp Y rfl hst hM kr kx
theorem z_callS2 {x1 x2 : Value} {idx : Nat} (hd : decode mt.2.1 pc = .ok (.invokestatic idx, 3)) (hh : mt.2.2.2.2 = []) (hdp : dY + 1 ≤ d) (Y : z_Ys G mt.1.cls idx mtY 2) (hst : (st.map fun v => v.category).sum ≤ 8) (hM : z_C G mtY dY [x1, x2] h QY)
    (kr : ∀ v h', QY (.inl v) h' → z_V G mt d (pc + 3) lo (v.toList ++ st) h' Q) (kx : ∀ X h', QY (.inr X) h' → Q (.inr X) h') : z_V G mt d pc lo (x2 :: x1 :: st) h Q :=
  z_callS (as := [x1, x2]) hd hh hdp Y rfl hst hM kr kx
theorem z_callS3 {x1 x2 x3 : Value} {idx : Nat} (hd : decode mt.2.1 pc = .ok (.invokestatic idx, 3)) (hh : mt.2.2.2.2 = []) (hdp : dY + 1 ≤ d) (Y : z_Ys G mt.1.cls idx mtY 3) (hst : (st.map fun v => v.category).sum ≤ 8) (hM : z_C G mtY dY [x1, x2, x3] h QY)
    (kr : ∀ v h', QY (.inl v) h' → z_V G mt d (pc + 3) lo (v.toList ++ st) h' Q) (kx : ∀ X h', QY (.inr X) h' → Q (.inr X) h') : z_V G mt d pc lo (x3 :: x2 :: x1 :: st) h Q :=
  z_callS (as := [x1, x2, x3]) hd hh hdp Y rfl hst hM kr kx
theorem z_callS4 {x1 x2 x3 x4 : Value} {idx : Nat} (hd : decode mt.2.1 pc = .ok (.invokestatic idx, 3)) (hh : mt.2.2.2.2 = []) (hdp : dY + 1 ≤ d) (Y : z_Ys G mt.1.cls idx mtY 4) (hst : (st.map fun v => v.category).sum ≤ 8) (hM : z_C G mtY dY [x1, x2, x3, x4] h QY)
    (kr : ∀ v h', QY (.inl v) h' → z_V G mt d (pc + 3) lo (v.toList ++ st) h' Q) (kx : ∀ X h', QY (.inr X) h' → Q (.inr X) h') : z_V G mt d pc lo (x4 :: x3 :: x2 :: x1 :: st) h Q :=
  z_callS (as := [x1, x2, x3, x4]) hd hh hdp Y rfl hst hM kr kx
/-- it answers v and leaves the picture h1; it throws X and leaves a picture that P allows -/
def z_rq (v : Option Value) (h1 : z_H) : z_R → z_H → Prop := fun r h' => r = .inl v ∧ h' = h1
def z_xq (X : String) (P : z_H → Prop) : z_R → z_H → Prop := fun r h' => r = .inr X ∧ P h'
theorem z_callV0v {b ci N idx : Nat} {T : u_T} {fs : List Value} (hd : decode mt.2.1 pc = .ok (.invokevirtual idx, 3)) (hh : mt.2.2.2.2 = []) (hdp : dY + 1 ≤ d) (Y : z_Yv G mt.1.cls idx mtY 0) (hb : h.2.2 b = some (.inr (ci, fs))) (hcl : G.cl[ci]? = some (mtY.1.cls, T, N)) (hst : (st.map fun v => v.category).sum ≤ 8) {h1 : z_H} (hM : z_C G mtY dY [.ref b] h (z_rq none h1)) (kk : z_V G mt d (pc + 3) lo st h1 Q) : z_V G mt d pc lo (.ref b :: st) h Q :=
  z_callV (as := []) hd hh hdp Y rfl hb hcl hst hM (fun v h' q => by obtain ⟨q1, rfl⟩ := q; cases q1; exact kk) (fun X h' q => by obtain ⟨q1, -⟩ := q; cases q1)
theorem z_callV0r {b ci N idx : Nat} {T : u_T} {fs : List Value} (hd : decode mt.2.1 pc = .ok (.invokevirtual idx, 3)) (hh : mt.2.2.2.2 = []) (hdp : dY + 1 ≤ d) (Y : z_Yv G mt.1.cls idx mtY 0) (hb : h.2.2 b = some (.inr (ci, fs))) (hcl : G.cl[ci]? = some (mtY.1.cls, T, N)) (hst : (st.map fun v => v.category).sum ≤ 8) {x : Value} {h1 : z_H} (hM : z_C G mtY dY [.ref b] h (z_rq (some x) h1)) (kk : z_V G mt d (pc + 3) lo (x :: st) h1 Q) : z_V G mt d pc lo (.ref b :: st) h Q :=
  z_callV (as := []) hd hh hdp Y rfl hb hcl hst hM (fun v h' q => by obtain ⟨q1, rfl⟩ := q; cases q1; exact kk) (fun X h' q => by obtain ⟨q1, -⟩ := q; cases q1)
theorem z_callV0x {b ci N idx : Nat} {T : u_T} {fs : List Value} (hd : decode mt.2.1 pc = .ok (.invokevirtual idx, 3)) (hh : mt.2.2.2.2 = []) (hdp : dY + 1 ≤ d) (Y : z_Yv G mt.1.cls idx mtY 0) (hb : h.2.2 b = some (.inr (ci, fs))) (hcl : G.cl[ci]? = some (mtY.1.cls, T, N)) (hst : (st.map fun v => v.category).sum ≤ 8) {Xn : String} {P : z_H → Prop} (hM : z_C G mtY dY [.ref b] h (z_xq Xn P)) (kk : ∀ h', P h' → Q (.inr Xn) h') : z_V G mt d pc lo (.ref b :: st) h Q :=
  z_callV (as := []) hd hh hdp Y rfl hb hcl hst hM (fun v h' q => by obtain ⟨q1, -⟩ := q; cases q1) (fun X h' q => by obtain ⟨q1, q2⟩ := q; cases q1; exact kk h' q2)
theorem z_callV1v {x1 : Value} {b ci N idx : Nat} {T : u_T} {fs : List Value} (hd : decode mt.2.1 pc = .ok (.invokevirtual idx, 3)) (hh : mt.2.2.2.2 = []) (hdp : dY + 1 ≤ d) (Y : z_Yv G mt.1.cls idx mtY 1) (hb : h.2.2 b = some (.inr (ci, fs))) (hcl : G.cl[ci]? = some (mtY.1.cls, T, N)) (hst : (st.map fun v => v.category).sum ≤ 8) {h1 : z_H} (hM : z_C G mtY dY [.ref b, x1] h (z_rq none h1)) (kk : z_V G mt d (pc + 3) lo st h1 Q) : z_V G mt d pc lo (x1 :: .ref b :: st) h Q :=
  z_callV (as := [x1]) hd hh hdp Y rfl hb hcl hst hM (fun v h' q => by obtain ⟨q1, rfl⟩ := q; cases q1; exact kk) (fun X h' q => by obtain ⟨q1, -⟩ := q; cases q1)
theorem z_callV1r {x1 : Value} {b ci N idx : Nat} {T : u_T} {fs : List Value} (hd : decode mt.2.1 pc = .ok (.invokevirtual idx, 3)) (hh : mt.2.2.2.2 = []) (hdp : dY + 1 ≤ d) (Y : z_Yv G mt.1.cls idx mtY 1) (hb : h.2.2 b = some (.inr (ci, fs))) (hcl : G.cl[ci]? = some (mtY.1.cls, T, N)) (hst : (st.map fun v => v.category).sum ≤ 8) {x : Value} {h1 : z_H} (hM : z_C G mtY dY [.ref b, x1] h (z_rq (some x) h1)) (kk : z_V G mt d (pc + 3) lo (x :: st) h1 Q) : z_V G mt d pc lo (x1 :: .ref b :: st) h Q :=
  z_callV (as := [x1]) hd hh hdp Y rfl hb hcl hst hM (fun v h' q => by obtain ⟨q1, rfl⟩ := q; cases q1; exact kk) (fun X h' q => by obtain ⟨q1, -⟩ := q; cases q1)
theorem z_callV1x {x1 : Value} {b ci N idx : Nat} {T : u_T} {fs : List Value} (hd : decode mt.2.1 pc = .ok (.invokevirtual idx, 3)) (hh : mt.2.2.2.2 = []) (hdp : dY + 1 ≤ d) (Y : z_Yv G mt.1.cls idx mtY 1) (hb : h.2.2 b = some (.inr (ci, fs))) (hcl : G.cl[ci]? = some (mtY.1.cls, T, N)) (hst : (st.map fun v => v.category).sum ≤ 8) {Xn : String} {P : z_H → Prop} (hM : z_C G mtY dY [.ref b, x1] h (z_xq Xn P)) (kk : ∀ h', P h' → Q (.inr Xn) h') : z_V G mt d pc lo (x1 :: .ref b :: st) h Q :=
  z_callV (as := [x1]) hd hh hdp Y rfl hb hcl hst hM (fun v h' q => by obtain ⟨q1, -⟩ := q; cases q1) (fun X h' q => by obtain ⟨q1, q2⟩ := q; cases q1; exact kk h' q2)
theorem z_callV2v {x1 x2 : Value} {b ci N idx : Nat} {T : u_T} {fs : List Value} (hd : decode mt.2.1 pc = .ok (.invokevirtual idx, 3)) (hh : mt.2.2.2.2 = []) (hdp : dY + 1 ≤ d) (Y : z_Yv G mt.1.cls idx mtY 2) (hb : h.2.2 b = some (.inr (ci, fs))) (hcl : G.cl[ci]? = some (mtY.1.cls, T, N)) (hst : (st.map fun v => v.category).sum ≤ 8) {h1 : z_H} (hM : z_C G mtY dY [.ref b, x1, x2] h (z_rq none h1)) (kk : z_V G mt d (pc + 3) lo st h1 Q) : z_V G mt d pc lo (x2 :: x1 :: .ref b :: st) h Q :=
  z_callV (as := [x1, x2]) hd hh hdp Y rfl hb hcl hst hM (fun v h' q => by obtain ⟨q1, rfl⟩ := q; cases q1; exact kk) (fun X h' q => by obtain ⟨q1, -⟩ := q; cases q1)
theorem z_callV2r {x1 x2 : Value} {b ci N idx : Nat} {T : u_T} {fs : List Value} (hd : decode mt.2.1 pc = .ok (.invokevirtual idx, 3)) (hh : mt.2.2.2.2 = []) (hdp : dY + 1 ≤ d) (Y : z_Yv G mt.1.cls idx mtY 2) (hb : h.2.2 b = some (.inr (ci, fs))) (hcl : G.cl[ci]? = some (mtY.1.cls, T, N)) (hst : (st.map fun v => v.category).sum ≤ 8) {x : Value} {h1 : z_H} (hM : z_C G mtY dY [.ref b, x1, x2] h (z_rq (some x) h1)) (kk : z_V G mt d (pc + 3) lo (x :: st) h1 Q) : z_V G mt d pc lo (x2 :: x1 :: .ref b :: st) h Q :=
  z_callV (as := [x1, x2]) hd hh hdp Y rfl hb hcl hst hM (fun v h' q => by obtain ⟨q1, rfl⟩ := q; cases q1; exact kk) (fun X h' q => by obtain ⟨q1, -⟩ := q; cases q1)
theorem z_callV2x {x1 x2 : Value} {b ci N idx : Nat} {T : u_T} {fs : List Value} (hd : decode mt.2.1 pc = .ok (.invokevirtual idx, 3)) (hh : mt.2.2.2.2 = []) (hdp : dY + 1 ≤ d) (Y : z_Yv G mt.1.cls idx mtY 2) (hb : h.2.2 b = some (.inr (ci, fs))) (hcl : G.cl[ci]? = some (mtY.1.cls, T, N)) (hst : (st.map fun v => v.category).sum ≤ 8) {Xn : String} {P : z_H → Prop} (hM : z_C G mtY dY [.ref b, x1, x2] h (z_xq Xn P)) (kk : ∀ h', P h' → Q (.inr Xn) h') : z_V G mt d pc lo (x2 :: x1 :: .ref b :: st) h Q :=
  z_callV (as := [x1, x2]) hd hh hdp Y rfl hb hcl hst hM (fun v h' q => by obtain ⟨q1, -⟩ := q; cases q1) (fun X h' q => by obtain ⟨q1, q2⟩ := q; cases q1; exact kk h' q2)
theorem z_callV3v {x1 x2 x3 : Value} {b ci N idx : Nat} {T : u_T} {fs : List Value} (hd : decode mt.2.1 pc = .ok (.invokevirtual idx, 3)) (hh : mt.2.2.2.2 = []) (hdp : dY + 1 ≤ d) (Y : z_Yv G mt.1.cls idx mtY 3) (hb : h.2.2 b = some (.inr (ci, fs))) (hcl : G.cl[ci]? = some (mtY.1.cls, T, N)) (hst : (st.map fun v => v.category).sum ≤ 8) {h1 : z_H} (hM : z_C G mtY dY [.ref b, x1, x2, x3] h (z_rq none h1)) (kk : z_V G mt d (pc + 3) lo st h1 Q) : z_V G mt d pc lo (x3 :: x2 :: x1 :: .ref b :: st) h Q :=
  z_callV (as := [x1, x2, x3]) hd hh hdp Y rfl hb hcl hst hM (fun v h' q => by obtain ⟨q1, rfl⟩ := q; cases q1; exact kk) (fun X h' q => by obtain ⟨q1, -⟩ := q; cases q1)
theorem z_callV3r {x1 x2 x3 : Value} {b ci N idx : Nat} {T : u_T} {fs : List Value} (hd : decode mt.2.1 pc = .ok (.invokevirtual idx, 3)) (hh : mt.2.2.2.2 = []) (hdp : dY + 1 ≤ d) (Y : z_Yv G mt.1.cls idx mtY 3) (hb : h.2.2 b = some (.inr (ci, fs))) (hcl : G.cl[ci]? = some (mtY.1.cls, T, N)) (hst : (st.map fun v => v.category).sum ≤ 8) {x : Value} {h1 : z_H} (hM : z_C G mtY dY [.ref b, x1, x2, x3] h (z_rq (some x) h1)) (kk : z_V G mt d (pc + 3) lo (x :: st) h1 Q) : z_V G mt d pc lo (x3 :: x2 :: x1 :: .ref b :: st) h Q :=
  z_callV (as := [x1, x2, x3]) hd hh hdp Y rfl hb hcl hst hM (fun v h' q => by obtain ⟨q1, rfl⟩ := q; cases q1; exact kk) (fun X h' q => by obtain ⟨q1, -⟩ := q; cases q1)
theorem z_callV3x {x1 x2 x3 : Value} {b ci N idx : Nat} {T : u_T} {fs : List Value} (hd : decode mt.2.1 pc = .ok (.invokevirtual idx, 3)) (hh : mt.2.2.2.2 = []) (hdp : dY + 1 ≤ d) (Y : z_Yv G mt.1.cls idx mtY 3) (hb : h.2.2 b = some (.inr (ci, fs))) (hcl : G.cl[ci]? = some (mtY.1.cls, T, N)) (hst : (st.map fun v => v.category).sum ≤ 8) {Xn : String} {P : z_H → Prop} (hM : z_C G mtY dY [.ref b, x1, x2, x3] h (z_xq Xn P)) (kk : ∀ h', P h' → Q (.inr Xn) h') : z_V G mt d pc lo (x3 :: x2 :: x1 :: .ref b :: st) h Q :=
  z_callV (as := [x1, x2, x3]) hd hh hdp Y rfl hb hcl hst hM (fun v h' q => by obtain ⟨q1, -⟩ := q; cases q1) (fun X h' q => by obtain ⟨q1, q2⟩ := q; cases q1; exact kk h' q2)
theorem z_callV4v {x1 x2 x3 x4 : Value} {b ci N idx : Nat} {T : u_T} {fs : List Value} (hd : decode mt.2.1 pc = .ok (.invokevirtual idx, 3)) (hh : mt.2.2.2.2 = []) (hdp : dY + 1 ≤ d) (Y : z_Yv G mt.1.cls idx mtY 4) (hb : h.2.2 b = some (.inr (ci, fs))) (hcl : G.cl[ci]? = some (mtY.1.cls, T, N)) (hst : (st.map fun v => v.category).sum ≤ 8) {h1 : z_H} (hM : z_C G mtY dY [.ref b, x1, x2, x3, x4] h (z_rq none h1)) (kk : z_V G mt d (pc + 3) lo st h1 Q) : z_V G mt d pc lo (x4 :: x3 :: x2 :: x1 :: .ref b :: st) h Q :=
  z_callV (as := [x1, x2, x3, x4]) hd hh hdp Y rfl hb hcl hst hM (fun v h' q => by obtain ⟨q1, rfl⟩ := q; cases q1; exact kk) (fun X h' q => by obtain ⟨q1, -⟩ := q; cases q1)
theorem z_callV4r {x1 x2 x3 x4 : Value} {b ci N idx : Nat} {T : u_T} {fs : List Value} (hd : decode mt.2.1 pc = .ok (.invokevirtual idx, 3)) (hh : mt.2.2.2.2 = []) (hdp : dY + 1 ≤ d) (Y : z_Yv G mt.1.cls idx mtY 4) (hb : h.2.2 b = some (.inr (ci, fs))) (hcl : G.cl[ci]? = some (mtY.1.cls, T, N)) (hst : (st.map fun v => v.category).sum ≤ 8) {x : Value} {h1 : z_H} (hM : z_C G mtY dY [.ref b, x1, x2, x3, x4] h (z_rq (some x) h1)) (kk : z_V G mt d (pc + 3) lo (x :: st) h1 Q) : z_V G mt d pc lo (x4 :: x3 :: x2 :: x1 :: .ref b :: st) h Q :=
  z_callV (as := [x1, x2, x3, x4]) hd hh hdp Y rfl hb hcl hst hM (fun v h' q => by obtain ⟨q1, rfl⟩ := q; cases q1; exact kk) (fun X h' q => by obtain ⟨q1, -⟩ := q; cases q1)
theorem z_callV4x {x1 x2 x3 x4 : Value} {b ci N idx : Nat} {T : u_T} {fs : List Value} (hd : decode mt.2.1 pc = .ok (.invokevirtual idx, 3)) (hh : mt.2.2.2.2 = []) (hdp : dY + 1 ≤ d) (Y : z_Yv G mt.1.cls idx mtY 4) (hb : h.2.2 b = some (.inr (ci, fs))) (hcl : G.cl[ci]? = some (mtY.1.cls, T, N)) (hst : (st.map fun v => v.category).sum ≤ 8) {Xn : String} {P : z_H → Prop} (hM : z_C G mtY dY [.ref b, x1, x2, x3, x4] h (z_xq Xn P)) (kk : ∀ h', P h' → Q (.inr Xn) h') : z_V G mt d pc lo (x4 :: x3 :: x2 :: x1 :: .ref b :: st) h Q :=
  z_callV (as := [x1, x2, x3, x4]) hd hh hdp Y rfl hb hcl hst hM (fun v h' q => by obtain ⟨q1, -⟩ := q; cases q1) (fun X h' q => by obtain ⟨q1, q2⟩ := q; cases q1; exact kk h' q2)
theorem z_callV5v {x1 x2 x3 x4 x5 : Value} {b ci N idx : Nat} {T : u_T} {fs : List Value} (hd : decode mt.2.1 pc = .ok (.invokevirtual idx, 3)) (hh : mt.2.2.2.2 = []) (hdp : dY + 1 ≤ d) (Y : z_Yv G mt.1.cls idx mtY 5) (hb : h.2.2 b = some (.inr (ci, fs))) (hcl : G.cl[ci]? = some (mtY.1.cls, T, N)) (hst : (st.map fun v => v.category).sum ≤ 8) {h1 : z_H} (hM : z_C G mtY dY [.ref b, x1, x2, x3, x4, x5] h (z_rq none h1)) (kk : z_V G mt d (pc + 3) lo st h1 Q) : z_V G mt d pc lo (x5 :: x4 :: x3 :: x2 :: x1 :: .ref b :: st) h Q :=
  z_callV (as := [x1, x2, x3, x4, x5]) hd hh hdp Y rfl hb hcl hst hM (fun v h' q => by obtain ⟨q1, rfl⟩ := q; cases q1; exact kk) (fun X h' q => by obtain ⟨q1, -⟩ := q; cases q1)
theorem z_callV5r {x1 x2 x3 x4 x5 : Value} {b ci N idx : Nat} {T : u_T} {fs : List Value} (hd : decode mt.2.1 pc = .ok (.invokevirtual idx, 3)) (hh : mt.2.2.2.2 = []) (hdp : dY + 1 ≤ d) (Y : z_Yv G mt.1.cls idx mtY 5) (hb : h.2.2 b = some (.inr (ci, fs))) (hcl : G.cl[ci]? = some (mtY.1.cls, T, N)) (hst : (st.map fun v => v.category).sum ≤ 8) {x : Value} {h1 : z_H} (hM : z_C G mtY dY [.ref b, x1, x2, x3, x4, x5] h (z_rq (some x) h1)) (kk : z_V G mt d (pc + 3) lo (x :: st) h1 Q) : z_V G mt d pc lo (x5 :: x4 :: x3 :: x2 :: x1 :: .ref b :: st) h Q :=
  z_callV (as := [x1, x2, x3, x4, x5]) hd hh hdp Y rfl hb hcl hst hM (fun v h' q => by obtain ⟨q1, rfl⟩ := q; cases q1; exact kk) (fun X h' q => by obtain ⟨q1, -⟩ := q; cases q1)
theorem z_callV5x {x1 x2 x3 x4 x5 : Value} {b ci N idx : Nat} {T : u_T} {fs : List Value} (hd : decode mt.2.1 pc = .ok (.invokevirtual idx, 3)) (hh : mt.2.2.2.2 = []) (hdp : dY + 1 ≤ d) (Y : z_Yv G mt.1.cls idx mtY 5) (hb : h.2.2 b = some (.inr (ci, fs))) (hcl : G.cl[ci]? = some (mtY.1.cls, T, N)) (hst : (st.map fun v => v.category).sum ≤ 8) {Xn : String} {P : z_H → Prop} (hM : z_C G mtY dY [.ref b, x1, x2, x3, x4, x5] h (z_xq Xn P)) (kk : ∀ h', P h' → Q (.inr Xn) h') : z_V G mt d pc lo (x5 :: x4 :: x3 :: x2 :: x1 :: .ref b :: st) h Q :=
  z_callV (as := [x1, x2, x3, x4, x5]) hd hh hdp Y rfl hb hcl hst hM (fun v h' q => by obtain ⟨q1, -⟩ := q; cases q1) (fun X h' q => by obtain ⟨q1, q2⟩ := q; cases q1; exact kk h' q2)
theorem z_callS1v {x1 : Value} {idx : Nat} (hd : decode mt.2.1 pc = .ok (.invokestatic idx, 3)) (hh : mt.2.2.2.2 = []) (hdp : dY + 1 ≤ d) (Y : z_Ys G mt.1.cls idx mtY 1) (hst : (st.map fun v => v.category).sum ≤ 8) {h1 : z_H} (hM : z_C G mtY dY [x1] h (z_rq none h1)) (kk : z_V G mt d (pc + 3) lo st h1 Q) : z_V G mt d pc lo (x1 :: st) h Q :=
  z_callS (as := [x1]) hd hh hdp Y rfl hst hM (fun v h' q => by obtain ⟨q1, rfl⟩ := q; cases q1; exact kk) (fun X h' q => by obtain ⟨q1, -⟩ := q; cases q1)
theorem z_callS1r {x1 : Value} {idx : Nat} (hd : decode mt.2.1 pc = .ok (.invokestatic idx, 3)) (hh : mt.2.2.2.2 = []) (hdp : dY + 1 ≤ d) (Y : z_Ys G mt.1.cls idx mtY 1) (hst : (st.map fun v => v.category).sum ≤ 8) {x : Value} {h1 : z_H} (hM : z_C G mtY dY [x1] h (z_rq (some x) h1)) (kk : z_V G mt d (pc + 3) lo (x :: st) h1 Q) : z_V G mt d pc lo (x1 :: st) h Q :=
  z_callS (as := [x1]) hd hh hdp Y rfl hst hM (fun v h' q => by obtain ⟨q1, rfl⟩ := q; cases q1; exact kk) (fun X h' q => by obtain ⟨q1, -⟩ := q; cases q1)
theorem z_callS1x {x1 : Value} {idx : Nat} (hd : decode mt.2.1 pc = .ok (.invokestatic idx, 3)) (hh : mt.2.2.2.2 = []) (hdp : dY + 1 ≤ d) (Y : z_Ys G mt.1.cls idx mtY 1) (hst : (st.map fun v => v.category).sum ≤ 8) {Xn : String} {P : z_H → Prop} (hM : z_C G mtY dY [x1] h (z_xq Xn P)) (kk : ∀ h', P h' → Q (.inr Xn) h') : z_V G mt d pc lo (x1 :: st) h Q :=
  z_callS (as := [x1]) hd hh hdp Y rfl hst hM (fun v h' q => by obtain ⟨q1, -⟩ := q; cases q1) (fun X h' q => by obtain ⟨q1, q2⟩ := q; cases q1; exact kk h' q2)
theorem z_callS2v {x1 x2 : Value} {idx : Nat} (hd : decode mt.2.1 pc = .ok (.invokestatic idx, 3)) (hh : mt.2.2.2.2 = []) (hdp : dY + 1 ≤ d) (Y : z_Ys G mt.1.cls idx mtY 2) (hst : (st.map fun v => v.category).sum ≤ 8) {h1 : z_H} (hM : z_C G mtY dY [x1, x2] h (z_rq none h1)) (kk : z_V G mt d (pc + 3) lo st h1 Q) : z_V G mt d pc lo (x2 :: x1 :: st) h Q :=
  z_callS (as := [x1, x2]) hd hh hdp Y rfl hst hM (fun v h' q => by obtain ⟨q1, rfl⟩ := q; cases q1; exact kk) (fun X h' q => by obtain ⟨q1, -⟩ := q; cases q1)
theorem z_callS2r {x1 x2 : Value} {idx : Nat} (hd : decode mt.2.1 pc = .ok (.invokestatic idx, 3)) (hh : mt.2.2.2.2 = []) (hdp : dY + 1 ≤ d) (Y : z_Ys G mt.1.cls idx mtY 2) (hst : (st.map fun v => v.category).sum ≤ 8) {x : Value} {h1 : z_H} (hM : z_C G mtY dY [x1, x2] h (z_rq (some x) h1)) (kk : z_V G mt d (pc + 3) lo (x :: st) h1 Q) : z_V G mt d pc lo (x2 :: x1 :: st) h Q :=
  z_callS (as := [x1, x2]) hd hh hdp Y rfl hst hM (fun v h' q => by obtain ⟨q1, rfl⟩ := q; cases q1; exact kk) (fun X h' q => by obtain ⟨q1, -⟩ := q; cases q1)
theorem z_callS2x {x1 x2 : Value} {idx : Nat} (hd : decode mt.2.1 pc = .ok (.invokestatic idx, 3)) (hh : mt.2.2.2.2 = []) (hdp : dY + 1 ≤ d) (Y : z_Ys G mt.1.cls idx mtY 2) (hst : (st.map fun v => v.category).sum ≤ 8) {Xn : String} {P : z_H → Prop} (hM : z_C G mtY dY [x1, x2] h (z_xq Xn P)) (kk : ∀ h', P h' → Q (.inr Xn) h') : z_V G mt d pc lo (x2 :: x1 :: st) h Q :=
  z_callS (as := [x1, x2]) hd hh hdp Y rfl hst hM (fun v h' q => by obtain ⟨q1, -⟩ := q; cases q1) (fun X h' q => by obtain ⟨q1, q2⟩ := q; cases q1; exact kk h' q2)
theorem z_callS3v {x1 x2 x3 : Value} {idx : Nat} (hd : decode mt.2.1 pc = .ok (.invokestatic idx, 3)) (hh : mt.2.2.2.2 = []) (hdp : dY + 1 ≤ d) (Y : z_Ys G mt.1.cls idx mtY 3) (hst : (st.map fun v => v.category).sum ≤ 8) {h1 : z_H} (hM : z_C G mtY dY [x1, x2, x3] h (z_rq none h1)) (kk : z_V G mt d (pc + 3) lo st h1 Q) : z_V G mt d pc lo (x3 :: x2 :: x1 :: st) h Q :=
  z_callS (as := [x1, x2, x3]) hd hh hdp Y rfl hst hM (fun v h' q => by obtain ⟨q1, rfl⟩ := q; cases q1; exact kk) (fun X h' q => by obtain ⟨q1, -⟩ := q; cases q1)
theorem z_callS3r {x1 x2 x3 : Value} {idx : Nat} (hd : decode mt.2.1 pc = .ok (.invokestatic idx, 3)) (hh : mt.2.2.2.2 = []) (hdp : dY + 1 ≤ d) (Y : z_Ys G mt.1.cls idx mtY 3) (hst : (st.map fun v => v.category).sum ≤ 8) {x : Value} {h1 : z_H} (hM : z_C G mtY dY [x1, x2, x3] h (z_rq (some x) h1)) (kk : z_V G mt d (pc + 3) lo (x :: st) h1 Q) : z_V G mt d pc lo (x3 :: x2 :: x1 :: st) h Q :=
  z_callS (as := [x1, x2, x3]) hd hh hdp Y rfl hst hM (fun v h' q => by obtain ⟨q1, rfl⟩ := q; cases q1; exact kk) (fun X h' q => by obtain ⟨q1, -⟩ := q; cases q1)
theorem z_callS3x {x1 x2 x3 : Value} {idx : Nat} (hd : decode mt.2.1 pc = .ok (.invokestatic idx, 3)) (hh : mt.2.2.2.2 = []) (hdp : dY + 1 ≤ d) (Y : z_Ys G mt.1.cls idx mtY 3) (hst : (st.map fun v => v.category).sum ≤ 8) {Xn : String} {P : z_H → Prop} (hM : z_C G mtY dY [x1, x2, x3] h (z_xq Xn P)) (kk : ∀ h', P h' → Q (.inr Xn) h') : z_V G mt d pc lo (x3 :: x2 :: x1 :: st) h Q :=
  z_callS (as := [x1, x2, x3]) hd hh hdp Y rfl hst hM (fun v h' q => by obtain ⟨q1, -⟩ := q; cases q1) (fun X h' q => by obtain ⟨q1, q2⟩ := q; cases q1; exact kk h' q2)
theorem z_callS4v {x1 x2 x3 x4 : Value} {idx : Nat} (hd : decode mt.2.1 pc = .ok (.invokestatic idx, 3)) (hh : mt.2.2.2.2 = []) (hdp : dY + 1 ≤ d) (Y : z_Ys G mt.1.cls idx mtY 4) (hst : (st.map fun v => v.category).sum ≤ 8) {h1 : z_H} (hM : z_C G mtY dY [x1, x2, x3, x4] h (z_rq none h1)) (kk : z_V G mt d (pc + 3) lo st h1 Q) : z_V G mt d pc lo (x4 :: x3 :: x2 :: x1 :: st) h Q :=
  z_callS (as := [x1, x2, x3, x4]) hd hh hdp Y rfl hst hM (fun v h' q => by obtain ⟨q1, rfl⟩ := q; cases q1; exact kk) (fun X h' q => by obtain ⟨q1, -⟩ := q; cases q1)
theorem z_callS4r {x1 x2 x3 x4 : Value} {idx : Nat} (hd : decode mt.2.1 pc = .ok (.invokestatic idx, 3)) (hh : mt.2.2.2.2 = []) (hdp : dY + 1 ≤ d) (Y : z_Ys G mt.1.cls idx mtY 4) (hst : (st.map fun v => v.category).sum ≤ 8) {x : Value} {h1 : z_H} (hM : z_C G mtY dY [x1, x2, x3, x4] h (z_rq (some x) h1)) (kk : z_V G mt d (pc + 3) lo (x :: st) h1 Q) : z_V G mt d pc lo (x4 :: x3 :: x2 :: x1 :: st) h Q :=
  z_callS (as := [x1, x2, x3, x4]) hd hh hdp Y rfl hst hM (fun v h' q => by obtain ⟨q1, rfl⟩ := q; cases q1; exact kk) (fun X h' q => by obtain ⟨q1, -⟩ := q; cases q1)
theorem z_callS4x {x1 x2 x3 x4 : Value} {idx : Nat} (hd : decode mt.2.1 pc = .ok (.invokestatic idx, 3)) (hh : mt.2.2.2.2 = []) (hdp : dY + 1 ≤ d) (Y : z_Ys G mt.1.cls idx mtY 4) (hst : (st.map fun v => v.category).sum ≤ 8) {Xn : String} {P : z_H → Prop} (hM : z_C G mtY dY [x1, x2, x3, x4] h (z_xq Xn P)) (kk : ∀ h', P h' → Q (.inr Xn) h') : z_V G mt d pc lo (x4 :: x3 :: x2 :: x1 :: st) h Q :=
  z_callS (as := [x1, x2, x3, x4]) hd hh hdp Y rfl hst hM (fun v h' q => by obtain ⟨q1, -⟩ := q; cases q1) (fun X h' q => by obtain ⟨q1, q2⟩ := q; cases q1; exact kk h' q2)
theorem z_callIv {b idx : Nat} (hd : decode mt.2.1 pc = .ok (.invokespecial idx, 3)) (hh : mt.2.2.2.2 = []) (hdp : dY + 1 ≤ d) (Y : z_Yi G mt.1.cls idx mtY) (hst : (st.map fun v => v.category).sum ≤ 8) {h1 : z_H} (hM : z_C G mtY dY [.ref b] h (z_rq none h1)) (kk : z_V G mt d (pc + 3) lo st h1 Q) : z_V G mt d pc lo (.ref b :: st) h Q :=
  z_callI hd hh hdp Y hst hM (fun v h' q => by obtain ⟨q1, rfl⟩ := q; cases q1; exact kk) (fun X h' q => by obtain ⟨q1, -⟩ := q; cases q1)
end ZK
