/-! THE CLAIM OUT OF ONE WALK OF THE LAW'S BODY. Your part is whole_start (and what it stands on); all else here is the same for every law, but numbers. -/
def R_law : String := "TypeKernelLaw"
def lw_P (b : Addr) (xs : List Int32) (args : Array Value) (s : State) : Prop := args = #[.ref b] ∧ s.IntsAt b xs ∧ xs.length ≤ 2048 ∧ (Jvm.Cond.and given_1 narrow_1).before args s = true
def lw_Q (_ : Array Value) (s : State) (o : Outcome) (t : State) : Prop := o = .returned (some (.int 1)) ∧ Framed s o t [] 601024 7293034
def lw_Z (below : List Frame) (a : Array Value) (s : State) : State → Prop := fun t => ∃ o, t.status = .running ∧ Ended t below o ∧ lw_Q a s o t
/-- what holds at the law's entry: the machine, the code, the tables' words (any of lw_tbl by 'hts w (by decide +kernel)'), the script of L ints xs at the cell b, what the Statement gives of the start (any of its parts by flat_of_before) -/
def lw_At (p : Program) (s : State) (m : MethodId) (meth : Method) (c : Code) (b L : Nat) (xs : Nat → Int32) : Prop :=
  p.tables.exec = Jvm.exec ∧ c.code = code ∧ meth.sig.returnType = ret ∧ c.maxLocals = 7 ∧ s.vm.findClass R_law = some m.cls ∧ (∀ w ∈ lw_tbl, w.before #[Value.ref b] s = true) ∧ va_X b L xs s s.heap ∧ b < s.heap.size ∧ meth.locks = false ∧ (Jvm.Cond.and given_1 narrow_1).before #[Value.ref b] s = true ∧ meth.name = x.name ∧ c.exceptionTable.toList.map (fun h => (h.startPc, h.endPc, h.handlerPc, h.catchType)) = []
theorem z_tyI {args : Array Value} {s : State} (h : (Cond.arrayClass .int).before args s = true) : ∃ c, ArrOfT s c .int ∧ va_RA s c .int := by
  obtain ⟨c, k, comp, h1, h2, h3⟩ := Cond.arrayClass_spec h
  exact ⟨c, fun n z => ⟨fun k h => (by cases h), k, h2, comp, h3⟩, h1⟩
theorem z_tyL {args : Array Value} {s : State} (h : (Cond.arrayClass .long).before args s = true) : ∃ c, ArrOfT s c .long ∧ va_RA s c .long := by
  obtain ⟨c, k, comp, h1, h2, h3⟩ := Cond.arrayClass_spec h
  exact ⟨c, fun n z => ⟨fun k h => (by cases h), k, h2, comp, h3⟩, h1⟩
theorem z_tyZ {args : Array Value} {s : State} (h : (Cond.arrayClass .boolean).before args s = true) : ∃ c, ArrOfT s c .boolean ∧ va_RA s c .boolean := by
  obtain ⟨c, k, comp, h1, h2, h3⟩ := Cond.arrayClass_spec h
  exact ⟨c, fun n z => ⟨fun k h => (by cases h), k, h2, comp, h3⟩, h1⟩
theorem z_tyO {args : Array Value} {s : State} {C : String} (h : (Cond.arrayOver (.object C)).before args s = true) : ∃ c, ArrOfT s c (.object C) ∧ va_RA s c (.object C) := by
  obtain ⟨comp, c, k, h1, -, h2, h3, h4⟩ := Cond.arrayOver_spec h
  exact ⟨c, fun n z => ⟨fun k h => (by cases h), k, h2, comp, h3⟩, k, comp, h2, h3, h1, h4⟩
theorem z_inst {s : State} {args : Array Value} (hts : ∀ w ∈ k_ws, w.before args s = true) : ∀ (c : Nat) (q : vw_C), k_cl[c]? = some q → ∃ (cC : ClassId) (iS : Nat → Nat), u_Kn s q.1 q.2.1 q.2.2 cC iS := by
  intro c q hq
  match c, hq with
  | 0, hq => cases hq; exact u_known hts k_lay_Row (hts (Cond.instantiable "TypeKernel$Row" 2) (k_in 38 (by decide +kernel) rfl))
  | 1, hq => cases hq; exact u_known hts k_lay_Jd (hts (Cond.instantiable "TypeKernel$Judgement" 3) (k_in 115 (by decide +kernel) rfl))
  | 2, hq => cases hq; exact u_known hts k_lay_Ru (hts (Cond.instantiable "TypeKernel$Rule" 3) (k_in 67 (by decide +kernel) rfl))
  | 3, hq => cases hq; exact u_known hts k_lay_Wk (hts (Cond.instantiable "TypeKernel$Walk" 2) (k_in 55 (by decide +kernel) rfl))
  | 4, hq => cases hq; exact u_known hts k_lay_Rw (hts (Cond.instantiable "TypeKernel$Rewriter" 7) (k_in 30 (by decide +kernel) rfl))
  | 5, hq => cases hq; exact u_known hts k_lay_TK (hts (Cond.instantiable "TypeKernel" 12) (k_in 18 (by decide +kernel) rfl))
  | 6, hq => cases hq; exact u_known hts k_lay_Md (hts (Cond.instantiable "TypeKernelModel" 16) (k_in 590 (by decide +kernel) rfl))
  | n + 7, hq => cases hq
theorem z_know {s : State} {args : Array Value} (hts : ∀ w ∈ k_ws, w.before args s = true) : ∃ D : va_G, ∀ (c : Nat) (q : vw_C), k_cl[c]? = some q → u_Kn s q.1 q.2.1 q.2.2 (D.1 c) (D.2 c) := by
  have h : ∀ c : Nat, ∃ (cC : ClassId) (iS : Nat → Nat), ∀ q : vw_C, k_cl[c]? = some q → u_Kn s q.1 q.2.1 q.2.2 cC iS := fun c => by
    cases hq : k_cl[c]? with
    | none => exact ⟨0, fun _ => 0, fun q h => by cases h⟩
    | some q =>
      obtain ⟨cC, iS, h⟩ := z_inst hts c q hq
      exact ⟨cC, iS, fun q' e => by cases e; exact h⟩
  exact ⟨(fun c => Classical.choose (h c), fun c => Classical.choose (Classical.choose_spec (h c))), fun c q hq => Classical.choose_spec (Classical.choose_spec (h c)) q hq⟩
theorem z_nc {s : State} {args : Array Value} (h : (Jvm.Cond.and given_1 narrow_1).before args s = true) : ∀ w ∈ k_nc, w.before args s = true := by
  have hs := flat_of_before _ h
  exact List.forall_mem_cons.mpr ⟨hs _ (by decide +kernel), List.forall_mem_cons.mpr ⟨hs _ (by decide +kernel), List.forall_mem_cons.mpr ⟨hs _ (by decide +kernel), List.forall_mem_cons.mpr ⟨hs _ (by decide +kernel), List.forall_mem_cons.mpr ⟨hs _ (by decide +kernel), List.forall_mem_cons.mpr ⟨hs _ (by decide +kernel), List.forall_mem_cons.mpr ⟨hs _ (by decide +kernel), List.forall_mem_cons.mpr ⟨hs _ (by decide +kernel), List.forall_mem_cons.mpr ⟨hs _ (by decide +kernel), List.forall_mem_cons.mpr ⟨hs _ (by decide +kernel), List.forall_mem_cons.mpr ⟨hs _ (by decide +kernel), List.forall_mem_cons.mpr ⟨hs _ (by decide +kernel), List.forall_mem_cons.mpr ⟨hs _ (by decide +kernel), List.forall_mem_cons.mpr ⟨hs _ (by decide +kernel), List.forall_mem_cons.mpr ⟨hs _ (by decide +kernel), List.forall_mem_cons.mpr ⟨hs _ (by decide +kernel), List.forall_mem_cons.mpr ⟨hs _ (by decide +kernel), List.forall_mem_cons.mpr ⟨hs _ (by decide +kernel), List.forall_mem_cons.mpr ⟨hs _ (by decide +kernel), List.forall_mem_cons.mpr ⟨hs _ (by decide +kernel), fun _ h => absurd h List.not_mem_nil⟩⟩⟩⟩⟩⟩⟩⟩⟩⟩⟩⟩⟩⟩⟩⟩⟩⟩⟩⟩
theorem whole_start {p : Program} {e : Env} {s : State} {m : MethodId} {below : List Frame} {meth : Method} {c : Code} (l : Launch) (hfl : l.flags = flags0) {b L : Nat} {xs : Nat → Int32} (hL : L ≤ 2048) (C0 : lw_At p s m meth c b L xs) : W p l e room_1 s m #[Value.ref b] below meth c s.heap [] 0 0 (lw_Z below #[Value.ref b] s) (entryFrame m ([Value.ref b] : List Value).toArray 7) := by
  obtain ⟨hx, hcode, hret, hml, hown, hts, hX, hbl, hlocks, hgv, hnm, htab⟩ := C0
  have htk : ∀ w ∈ k_ws, w.before #[Value.ref b] s = true := fun w hw => by
    rcases List.mem_append.mp (List.mem_filter.mp hw).1 with h1 | h1
    · exact hts w h1
    · exact z_nc hgv w h1
  have hmv : ∀ w ∈ k_ws, z_mv w = true := fun w hw => (List.mem_filter.mp hw).2
  obtain ⟨D, hD⟩ := z_know htk
  obtain ⟨c0, t0⟩ := z_tyI (htk (Cond.arrayClass .int) (k_in 53 (by decide +kernel) rfl))
  obtain ⟨c1, t1⟩ := z_tyL (htk (Cond.arrayClass .long) (k_in 839 (by decide +kernel) rfl))
  obtain ⟨c2, t2⟩ := z_tyZ (htk (Cond.arrayClass .boolean) (k_in 52 (by decide +kernel) rfl))
  obtain ⟨c3, t3⟩ := z_tyO (htk (Cond.arrayOver (.object "TypeKernel$Row")) (k_in 28 (by decide +kernel) rfl))
  obtain ⟨c4, t4⟩ := z_tyO (htk (Cond.arrayOver (.object "TypeKernel$Judgement")) (k_in 26 (by decide +kernel) rfl))
  obtain ⟨c5, t5⟩ := z_tyO (htk (Cond.arrayOver (.object "TypeKernel$Rule")) (k_in 36 (by decide +kernel) rfl))
  have hs := flat_of_before _ hgv
  have zs1 := z_Zs.of (hts (Cond.laysStatic "java/lang/Throwable" "UNASSIGNED_STACK" "[Ljava/lang/StackTraceElement;") (List.mem_append_right _ (List.mem_of_getElem? (i := 271) (by decide +kernel)))) (hs (Cond.isRef (.static "java/lang/Throwable" "UNASSIGNED_STACK" "[Ljava/lang/StackTraceElement;")) (by decide +kernel))
  have zs2 := z_Zs.of (hts (Cond.laysStatic "java/lang/Throwable" "SUPPRESSED_SENTINEL" "Ljava/util/List;") (List.mem_append_right _ (List.mem_of_getElem? (i := 273) (by decide +kernel)))) (hs (Cond.isRef (.static "java/lang/Throwable" "SUPPRESSED_SENTINEL" "Ljava/util/List;")) (by decide +kernel))
  have HG : z_ok ((l, s.heap.size, D, [(c0, .int), (c1, .long), (c2, .boolean), (c3, .object "TypeKernel$Row"), (c4, .object "TypeKernel$Judgement"), (c5, .object "TypeKernel$Rule")], k_ws, k_cl, 1000, 20000, (b, L, xs)) : z_G) := ⟨rfl, rfl, ⟨rfl, rfl⟩, c0, c1, c2, c3, c4, c5, rfl⟩
  have hC : z_C ((l, s.heap.size, D, [(c0, .int), (c1, .long), (c2, .boolean), (c3, .object "TypeKernel$Row"), (c4, .object "TypeKernel$Judgement"), (c5, .object "TypeKernel$Rule")], k_ws, k_cl, 1000, 20000, (b, L, xs)) : z_G) m_Lw_law 8 [.ref b] ((s.heap.size, 0, fun _ => none) : z_H) (fun r _ => r = .inl (some (.int (nI 1)))) :=
    z_C.of (Nat.le_of_ble_eq_true rfl) (v_law (d := 0) HG hL (by show s.heap.size + 650 ≤ s.heap.size + 1000; omega) (by show 0 + 7200 ≤ 20000; omega) (fun _ => rfl))
  have hK : va_K D k_cl [(c0, .int), (c1, .long), (c2, .boolean), (c3, .object "TypeKernel$Row"), (c4, .object "TypeKernel$Judgement"), (c5, .object "TypeKernel$Rule")] s := by
    refine ⟨hD, fun k q hk => ?_⟩
    match k, hk with
    | 0, hk => cases hk; exact t0
    | 1, hk => cases hk; exact t1
    | 2, hk => cases hk; exact t2
    | 3, hk => cases hk; exact t3
    | 4, hk => cases hk; exact t4
    | 5, hk => cases hk; exact t5
    | n + 6, hk => cases hk
  intro T hT X
  obtain ⟨t, h1, o, r, h', hq, hrun, hend, hW, ⟨Lc, hsame, hLc⟩, -, -, ⟨u1, u2, u3, u4⟩, hout⟩ := hC p e s m below meth c room_1 ⟨⟨⟨hx, hcode, hml, hret⟩, ⟨hown, hlocks, hnm, htab⟩, hK, htk, hmv, fun e' ha => Launch.traces_off hfl ha⟩, ⟨(by show 8 + 6 ≤ 16; omega), (by show 35 * 8 + 150 ≤ 618; omega), (by show s.heap.size + 1000 ≤ s.heap.size + 601024; omega), (by show 20000 ≤ 0 + 7293034; omega)⟩, ⟨rfl, ⟨[], (fun k q hk => by cases hk), ⟨(fun i j p q hi => by cases hi), (fun k q hk => by cases hk)⟩, (fun a e' he => by cases he)⟩, zs1, zs2, hX, hbl⟩, ⟨⟨Nat.le_refl _, (fun _ _ _ => rfl), (fun x hx => by cases hx)⟩, Nat.le_refl _⟩, Nat.le_refl _, Nat.le_refl _, (by show s.heap.size ≤ s.heap.size + 1000; omega), (by show 0 ≤ 20000; omega)⟩ T hT X
  subst hq
  obtain rfl : o = .returned (some (.int (nI 1))) := hout
  refine ⟨t, h1, .returned (some (.int 1)), hrun, hend, rfl, ⟨_, rfl⟩, hW, ?_⟩
  have hk1 : h'.1 - s.heap.size ≤ 601024 := by
    have u3 : h'.1 ≤ s.heap.size + 1000 := u3
    omega
  have hk2 : h'.2.1 - 0 ≤ 7293034 := by
    have u4 : h'.2.1 ≤ 20000 := u4
    omega
  exact (State.sameButNew.drop_fresh (L := []) hsame hLc).mono hk1 hk2
set_option maxHeartbeats 4000000 in
theorem lw_walk (l : Launch) (hfl : l.flags = flags0) (b : Addr) (xs : List Int32) : MetFree l x (headSpec (Jvm.Cond.code x code maxLocals ret :: tables_1) room_1) (lw_P b xs) (fun _ _ _ _ _ => True) lw_Q := by
  refine MetFree.of_bodyS (code := code) (maxLocals := maxLocals) (ret := ret) (by decide) ?_ ?_
  · intro args s m h hn
    obtain ⟨meth, c, h1, h2, h3, h4, h5, h6, -, -⟩ := Cond.code_spec hn (atoms_spec (ws := Jvm.Cond.code x code maxLocals ret :: tables_1) h _ List.mem_cons_self)
    exact ⟨meth, c, h1, h2, h3, h4, h5, h6⟩
  · intro p e s m args below meth c s₁ B hml0 hP _
    obtain ⟨rfl, hx, hbd, hgv⟩ := hP
    obtain ⟨scr, harrAt, hlist, hof, hsmall⟩ := hx
    obtain ⟨hcb, hkn, -, -⟩ := State.arrayAt?_spec harrAt
    have hown : s.vm.findClass R_law = some m.cls := findClass_of_methodNamed B.named
    have hts0 : ∀ c ∈ (Jvm.Cond.code x code maxLocals ret :: tables_1), c.before #[Value.ref b] s = true := atoms_spec (ws := Jvm.Cond.code x code maxLocals ret :: tables_1) B.pre
    have hts : ∀ w ∈ lw_tbl, w.before #[Value.ref b] s = true := k2_hts_sels lw_privs (fun w hw => hts0 w (List.mem_cons_of_mem _ hw)) lw_privs_ok
    have hml : c.maxLocals = 7 := B.maxLocals_eq (hts0 _ List.mem_cons_self)
    have X₀ : Stand p l e room_1 s m #[Value.ref b] below meth c s₁ [] 0 0 := Stand.of_body B
    have hh0 : s₁.heap = s.heap := by rw [B.state]; rfl
    have hsz : scr.slots.size = xs.length := by rw [← Array.length_toList, hlist, List.length_map]
    have hval : ∀ j : Nat, j < xs.length → scr.slots[j]? = some (.int (xs.getD j 0)) := fun j hj => by
      rw [← Array.getElem?_toList, hlist]
      simp [hj]
    have hbl : b < s.heap.size := (Array.getElem?_eq_some_iff.mp hcb).1
    have hX : va_X b xs.length (fun j => xs.getD j 0) s s.heap := ⟨scr, hcb, hof, hkn, hsz, hval⟩
    have K : W p l e room_1 s m #[Value.ref b] below meth c s₁.heap [] 0 0 (lw_Z below #[Value.ref b] s) (entryFrame m ([Value.ref b] : List Value).toArray 7) := by
      rw [hh0]
      obtain ⟨meth', c', g1, g2, -, -, -, -, g7, -⟩ := Cond.code_spec B.named (hts0 _ List.mem_cons_self)
      cases X₀.method.symm.trans g1
      cases X₀.code.symm.trans g2
      have htab : c.exceptionTable.toList.map (fun h => (h.startPc, h.endPc, h.handlerPc, h.catchType)) = [] := by
        have h9 : c.exceptionTable.size = 0 := by simpa [Array.isEmpty] using g7
        have h10 : c.exceptionTable.toList = [] := List.eq_nil_of_length_eq_zero (by simpa using h9)
        rw [h10]
        rfl
      exact whole_start l hfl hbd ⟨B.exec, B.bytes, B.returns, hml, hown, hts, hX, hbl, B.notSynchronized, hgv, (name_of_methodNamed B.named X₀.method).1, htab⟩
    obtain ⟨t, a1, o, b1, b2, b3⟩ := K s₁ rfl X₀
    exact ⟨t, o, a1, b1, b2, b3⟩
theorem lw_pre_spec {args : Array Value} {s : State} (h : (Jvm.Cond.and given_1 narrow_1).before args s = true) (hr : rest_1_c.before args s = true) : ∃ (b : Addr) (xs : List Int32), lw_P b xs args s := by
  have hs := flat_of_before _ h
  have hq := flat_of_before _ hr
  have hc : (Cond.count 1).before args s = true := hs _ (by decide +kernel)
  have harr : (Cond.arrayOf (.arg 0) .int).before args s = true := hs _ (by decide +kernel)
  have hle : (Cond.le (.length (.arg 0)) (.int 2048)).before args s = true := hs _ (by decide +kernel)
  have hlen : (Cond.isInt (.length (.arg 0))).before args s = true := hq _ (by decide +kernel)
  have hall : (Cond.all (.arg 0) (.isInt (.elem (.arg 0) (.index 0)))).before args s = true := hq _ (by decide +kernel)
  obtain ⟨b, xs, hb, hx⟩ := State.ints_of_pre rfl harr hlen hall
  have hsm : xs.length < 2 ^ 31 := hx.choose_spec.2.2.2
  have hev : (Term.length (.arg 0)).eval args s none [] s = some (.int xs.length.toInt32) := hx.length_eval hb
  have hv := Cond.le_ints hev (show (Term.int 2048).eval args s none [] s = some (.int 2048) from rfl)
  have hd : xs.length.toInt32 ≤ 2048 := by
    simpa [Cond.before, Cond.holds, hv] using hle
  have hN : xs.length ≤ 2048 := (Int32.ofNat_le_ofNat hsm (by decide)).mp (show Int32.ofNat xs.length ≤ Int32.ofNat 2048 from hd)
  exact ⟨b, xs, Cond.one_arg hc (show args[0]? = some (.ref b) from hb), hx, hN, h⟩
theorem lw_comes (l : Launch) (hfl : l.flags = flags0) : Comes l x (Jvm.Cond.code x code maxLocals ret :: tables_1) room_1 (fun tb e args s => Calls_1 tb e args s ∧ rest_1 tb e args s ∧ Pre_1 tb e args s)
    (fun _ _ args s o t => lw_Q args s o t) := by
  intro p e ha hc hk s m args below hf hfit hheap happ hpre
  obtain ⟨b, xs, hP⟩ := lw_pre_spec hpre.2.2 hpre.2.1
  obtain ⟨k, o, h1, h2, h3, hQ⟩ := lw_walk l hfl b xs p e ha hc hk s m args below hf ((Spec.applies_iff_loose hf).mp happ).1 hP trivial
  exact ⟨k, o, h1, h2, h3, hQ⟩
theorem lw_frame {s t : State} {o : Outcome} {args : Array Value} (h : Framed s o t [] 601024 7293034) :
    Framed s o t (fieldLocs frame_1_writes args s ++ arrayLocs frame_1_arrays args s ++ staticLocs frame_1_statics s) 601024 7293034 := h
theorem lw_limb (L : Cond) (hL : ∀ (args : Array Value) (s t : State), L.after args s (.returned (some (.int 1))) t = true) :
    ArmFor flags0 classFile x code maxLocals ret World_1 tables_1 room_1 Calls_1 rest_1 Pre_1
      (fun tb e a s o t => postC L tb e a s o t ∧ Framed s o t (fieldLocs frame_1_writes a s ++ arrayLocs frame_1_arrays a s ++ staticLocs frame_1_statics s) 601024 7293034) := by
  intro l hfl _ _ p e ha hc hk s m args below hf hfit hheap happ hpre
  obtain ⟨k, o, h1, h2, h3, rfl, hF⟩ := lw_comes l hfl p e ha hc hk s m args below hf hfit hheap happ hpre
  exact ⟨k, _, h1, h2, h3, hL args s _, lw_frame hF⟩
theorem i_vc : Claimed_1_1 ∧ Claimed_1_2 := ⟨lw_limb limb_1_1 (fun args s t => by simp [limb_1_1, Cond.after, Cond.holds, Cond.value]), lw_limb limb_1_2 (fun args s t => Cond.after_iff.mpr (by
  first | (rw [show limb_1_2 = Cond.eq .result (.int 1) from rfl, Cond.eq_ints (x := 1) (y := 1) rfl rfl]; simp; done) | (simp [limb_1_2, Cond.value, Term.eval]; done)))⟩
