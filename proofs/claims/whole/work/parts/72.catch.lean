/-! calls in a method that catches -/
section HX
variable {G : z_G} {mt mtY : z_M} {d dY pc : Nat} {lo : List (Nat × Value)} {st : List Value} {h : z_H} {Q QY : z_R → z_H → Prop} {as : List Value}
theorem z_asg (vm : Vm) (c : ClassId) : vm.assignable c c = true := by
  show vm.assignableAux (255 + 1) c c = true
  rw [Vm.assignableAux]
  simp only [beq_self_eq_true, Bool.true_or]
/-- a row of the table that lets X pass -/
def z_pass (G : z_G) (own X : String) (y : Nat × Nat × Nat × Nat) : Prop := ∃ name : String, y.2.2.2 ≠ 0 ∧ Cond.classLink own y.2.2.2 name ∈ G.Ts ∧ Cond.not (.castable X name) ∈ G.Ts
/-- the row that catches X at pc -/
def z_take (G : z_G) (own X : String) (pc : Nat) (y : Nat × Nat × Nat × Nat) : Prop := (y.1 ≤ pc ∧ pc < y.2.1) ∧ y.2.2.2 ≠ 0 ∧ Cond.classLink own y.2.2.2 X ∈ G.Ts
theorem l_splitmap {α β : Type} {f : α → β} {l : List α} {pre rest : List β} {x : β} (h : l.map f = pre ++ x :: rest) : ∃ p y r, l = p ++ y :: r ∧ p.map f = pre ∧ f y = x := by
  obtain ⟨p, t, h1, h2, h3⟩ := List.map_eq_append_iff.mp h
  obtain ⟨y, r, h4, h5, h6⟩ := List.map_eq_cons_iff.mp h3
  exact ⟨p, y, r, by rw [h1, h4], h2, h5⟩
theorem z_afterH {p : Program} {e : Env} {R : Room} {s : State} {m : MethodId} {args : Array Value} {below : List Frame} {meth : Method} {c : Code} {T : State} {vm₁ : Vm} {locs : List Loc} {ss0 : Nat} {ls : Array Slot} {st0 : List Value} {ig : Instr} {mk : MethodId}
    (hd : decode mt.2.1 pc = .ok (ig, 3)) (hdp : dY + 1 ≤ d) (hmx : mtY.2.2.1 ≤ 16) (hcd : z_cd G mtY) (hpl : plainName mtY.1.cls = true) (hst : (st.map fun v => v.category).sum ≤ 8) (hM : z_C G mtY dY as h QY)
    (kr : ∀ v h', QY (.inl v) h' → z_V G mt d (pc + 3) lo (v.toList ++ st) h' Q) (kx : ∀ X h', QY (.inr X) h' → ∃ pre x rest, mt.2.2.2.2 = pre ++ x :: rest ∧ (∀ y ∈ pre, z_pass G mt.1.cls X y) ∧ z_take G mt.1.cls X pc x ∧ ∀ a, z_V G mt d x.2.2.1 lo [.ref a] h' Q)
    (S : z_St G mt d p s m args meth c R ss0 T.heap locs h) (hl : lv_has ls mt.2.2.1 lo) (X : Stand p G.l e R s m args below meth c (T.setVm vm₁) locs (h.1 - s.heap.size) (h.2.1 - ss0)) (hmk : s.methodNamed? mtY.1 = some mk)
    (hstep : ∀ target, (∀ acts, Steps p.tables e below (doInvoke e ((T.setVm vm₁).setTop (F0 m pc ls st)) acts mk as.toArray).1 target) → Steps p.tables e below (T.setTop (F0 m pc ls st0)) target) :
    ∃ t, Steps p.tables e below (T.setTop (F0 m pc ls st0)) t ∧ z_End G s below ss0 Q t := by
  obtain ⟨o, r, h', T', locs', hq, hout, X', S', hs⟩ := z_core (T := T.setVm vm₁) X S hM hdp hmx hcd hpl (g := F0 m pc ls st) rfl (hl.1.trans S.1.1.2.2.1.symm) (by rw [S.1.1.2.1]; exact hd) (by show 2 * 0 + (st.map fun v => v.category).sum ≤ 8; omega) hmk
  cases r with
  | inl v =>
    obtain rfl : o = .returned v := hout
    obtain ⟨t, a, b⟩ := kr v h' hq p e s m args below meth c R ss0 T'.heap locs' ls S' hl T' rfl X'
    exact ⟨t, hstep t (fun acts => (hs acts).trans a), b⟩
  | inr Xc =>
    obtain ⟨a, ce, rfl, hce, hcv, hcc⟩ := hout
    obtain ⟨preT, xT, restT, e1, hpass, ⟨⟨t1, t2⟩, t3, t4⟩, kk⟩ := kx Xc h' hq
    obtain ⟨pre, x, rest, hsplit, hpre, hx⟩ := l_splitmap (S.1.2.1.2.2.2.trans e1)
    subst hx
    have hts : ∀ w ∈ G.Ts, w.before args s = true := S.1.2.2.2.1
    have hpl' : e.platform.magicAccessors = ({} : Platform).magicAccessors := by rw [X'.admits.platform]
    have hP : ∀ y ∈ pre, RowPassed e.platform s m.cls (F0 m pc ls st).pc ce.cls y := fun y hy => by
      obtain ⟨name, n0, w1, w2⟩ := hpass (y.startPc, y.endPc, y.handlerPc, y.catchType) (by rw [← hpre]; exact List.mem_map.mpr ⟨y, hy, rfl⟩)
      exact RowPassed.of_words hpl' S.1.2.1.1 n0 (hts _ w1) hcc (hts _ w2)
    obtain ⟨hcatch, hk0⟩ := X'.catches_of_link S.1.2.1.1 t3 (hts _ t4) hcc (z_asg s.vm ce.cls)
    have hcov : covers x (F0 m pc ls st).pc = true := by
      have t1 : x.startPc ≤ pc := t1
      have t2 : pc < x.endPc := t2
      simp [covers, F0, t1, t2]
    obtain ⟨vm', XV, hgo⟩ := X'.caughtThrough a (g := F0 m pc ls st) rfl hce (by rw [hcv]; rfl) hk0 pre x rest hsplit hP hcov hcatch
    obtain ⟨t, ha, hb⟩ := kk a p e s m args below meth c R ss0 T'.heap locs' ls S' hl (T'.setVm vm') rfl XV
    refine ⟨t, hstep t (fun acts => (hs acts).trans ?_), hb⟩
    show Steps p.tables e below ((T'.setTop (F0 m pc ls st)).pushFrame (.throwing a)) t
    rw [X'.pushThrowing_eq]
    exact hgo _ ha
theorem z_callVH {b ci N idx n : Nat} {T : u_T} {fs : List Value} (hd : decode mt.2.1 pc = .ok (.invokevirtual idx, 3)) (hdp : dY + 1 ≤ d) (Y : z_Yv G mt.1.cls idx mtY n) (hn : as.length = n) (hb : h.2.2 b = some (.inr (ci, fs))) (hcl : G.cl[ci]? = some (mtY.1.cls, T, N)) (hst : (st.map fun v => v.category).sum ≤ 8) (hM : z_C G mtY dY (.ref b :: as) h QY)
    (kr : ∀ v h', QY (.inl v) h' → z_V G mt d (pc + 3) lo (v.toList ++ st) h' Q) (kx : ∀ X h', QY (.inr X) h' → ∃ pre x rest, mt.2.2.2.2 = pre ++ x :: rest ∧ (∀ y ∈ pre, z_pass G mt.1.cls X y) ∧ z_take G mt.1.cls X pc x ∧ ∀ a, z_V G mt d x.2.2.1 lo [.ref a] h' Q) : z_V G mt d pc lo (as.reverse ++ .ref b :: st) h Q := by
  intro p e s m args below meth c R ss0 H locs ls S hl T0 hT X
  subst hT
  obtain ⟨⟨hcd, hpl, hmx, ⟨hy, hpd⟩, hL⟩, hw1, hw2⟩ := Y
  have hts : ∀ w ∈ G.Ts, w.before args s = true := S.1.2.2.2.1
  obtain ⟨mk, methM, hnamed, hmethM, hstM, habM⟩ := Cond.instanceMethod_spec (hts _ hw1)
  obtain ⟨mk', methY, cY, hnY, hmY, -, -, -, -, -, -, hsig⟩ := hcd.spec hts
  cases hnamed.symm.trans hnY
  cases hmethM.symm.trans hmY
  have hlen : as.length = methM.sig.parameters.length := by
    rw [hsig] at hpd
    exact hn.trans (Option.some.inj hpd).symm
  obtain ⟨c2, r2, m2, q1, q2, q3, q4, kP, hkP, hkPi⟩ := Cond.selects_spec (hts _ hw2)
  obtain ⟨ws, hP, hD, hcov⟩ := S.2.2.1.2.1
  obtain ⟨q0, hq⟩ := hcov b _ hb
  obtain ⟨cellB, hcB, hoB, hclB⟩ := va_recv S.1.2.2.1 hP hcl hq
  cases hclB.symm.trans q1
  cases (State.methodFound?_of_named hnamed hy).symm.trans q2
  cases hnamed.symm.trans q3
  have hselP : selectMethod e.platform s.vm cellB.cls mk = .method mk := by rw [Launch.admits_selectMethod X.admits]; exact q4
  have hdc : decode c.code (F0 m pc ls (as.reverse ++ .ref b :: st)).pc = .ok (.invokevirtual idx, 3) := by rw [S.1.1.2.1]; exact hd
  rcases hL with hL | ⟨host, hL⟩
  · obtain ⟨vm₁, X₁, hstep⟩ := X.invokevirtual S.1.1.1 S.1.2.1.1 (hts _ hL) hnamed hmethM hstM hkP hkPi hy (a := b) (cell := cellB) hcB (fun z hz => by rw [hz] at hoB; cases hoB) hselP hmethM habM hkP hkPi (g := F0 m pc ls (as.reverse ++ .ref b :: st)) rfl (argsL := as) (rest := st) hlen rfl hdc
    exact z_afterH (as := .ref b :: as) hd hdp hmx hcd hpl hst hM kr kx S hl X₁ hnamed hstep
  · obtain ⟨vm₁, X₁, hstep⟩ := X.invokevirtualNest S.1.1.1 S.1.2.1.1 (hts _ hL) hnamed hmethM hstM hkP hkPi hy (a := b) (cell := cellB) hcB (fun z hz => by rw [hz] at hoB; cases hoB) hselP hmethM habM hkP hkPi (g := F0 m pc ls (as.reverse ++ .ref b :: st)) rfl (argsL := as) (rest := st) hlen rfl hdc
    exact z_afterH (as := .ref b :: as) hd hdp hmx hcd hpl hst hM kr kx S hl X₁ hnamed hstep
end HX
