section
/-! A walk's picture: the heap's size, the slots made so far, the known cells. A method's row: name, code, locals, answer, handlers. An outcome: an answer, or an exception's class. -/
abbrev z_H : Type := Nat × Nat × (Nat → Option va_E)
abbrev z_M : Type := MethodName × ByteArray × Nat × Option FieldType × List (Nat × Nat × Nat × Nat)
abbrev z_R : Type := Option Value ⊕ String
abbrev z_G : Type := Launch × Nat × va_G × List (ClassId × FieldType) × List Cond × List vw_C × Nat × Nat × (Nat × Nat × (Nat → Int32))
abbrev z_G.l (G : z_G) : Launch := G.1
abbrev z_G.b0 (G : z_G) : Nat := G.2.1
abbrev z_G.D (G : z_G) : va_G := G.2.2.1
abbrev z_G.tys (G : z_G) : List (ClassId × FieldType) := G.2.2.2.1
abbrev z_G.Ts (G : z_G) : List Cond := G.2.2.2.2.1
abbrev z_G.cl (G : z_G) : List vw_C := G.2.2.2.2.2.1
abbrev z_G.cc (G : z_G) : Nat := G.2.2.2.2.2.2.1
abbrev z_G.ss (G : z_G) : Nat := G.2.2.2.2.2.2.2.1
abbrev z_G.x (G : z_G) : Nat × Nat × (Nat → Int32) := G.2.2.2.2.2.2.2.2
/-- the words that hold on in every state with warmer tables -/
def z_mv : Cond → Bool
  | .fieldLinkNest .. => true
  | .methodLinkNest .. => true
  | .castable .. => true
  | .not (.castable ..) => true
  | .declares .. => true
  | .arrayOver (.object _) => true
  | w => goodWord w
theorem z_notCast {C T : String} {a a' : Array Value} {s U : State} (hW : s.WarmedH U.vm) (hb : (Cond.not (.castable C T)).before a s = true) : (Cond.not (.castable C T)).before a' U = true := by
  obtain ⟨c, t, h1, h2, h3⟩ := va_Nc.moved hW.alike (va_Nc.of hb)
  simp [Cond.before, Cond.holds, Cond.value, h1, h2, h3]
theorem z_move {w : Cond} (h : z_mv w = true) {a a' : Array Value} {s U : State} (hW : s.WarmedH U.vm) (hb : w.before a s = true) : w.before a' U = true := by
  unfold z_mv at h
  split at h
  · exact va_Nw.use rfl (va_Nw.warmF hW (va_Nw.of rfl hb))
  · exact va_Nw.use rfl (va_Nw.warmM hW (va_Nw.of rfl hb))
  · exact va_Nw.use rfl (va_Nw.warmC hW (va_Nw.of rfl hb))
  · exact z_notCast hW hb
  · exact va_Nw.use rfl (va_Nw.warmD hW (va_Nw.of rfl hb))
  · exact va_AO.use (va_AO.moved hW.alike (va_AO.of hb))
  · exact word_at hW (good_of_word h) hb
/-- a static of references lies below b, and stays there -/
def z_Zs (C n d : String) (b : Nat) (U : State) (H : Heap) : Prop := ∃ (c : ClassId) (k : Class) (i : Nat) (f : Field) (a : Nat) (cell : Cell) (v : Value), U.vm.findClass C = some c ∧ U.fieldFound? C n d = some (c, k, i, f) ∧ f.isStatic = true ∧ k.statics = some a ∧ H[a]? = some cell ∧ cell.vm.isStatics = true ∧ cell.cls = c ∧
  f.slot < cell.slots.size ∧ k.staticTypes[f.slot]? = some f.type ∧ cell.slots[f.slot]? = some v ∧ v.isRef = true ∧ a < b
theorem z_Zs.moved {C n d : String} {b : Nat} {u U : State} {H : Heap} (hvm : u.vm.Alike U.vm) (h : z_Zs C n d b u H) : z_Zs C n d b U H := by
  obtain ⟨c, k, i, f, a, cell, v, h0, h1, h2, h3, h4, h5, h6, h7, h8, h9⟩ := h
  obtain ⟨k', hi', he⟩ := State.fieldFound?_setVm (s := u) hvm h1
  exact ⟨c, k', i, f, a, cell, v, by rw [hvm.findClass]; exact h0, hi', h2, by rw [he]; exact h3, h4, h5, h6, h7, by rw [he]; exact h8, h9⟩
theorem z_Zs.kept {C n d : String} {b : Nat} {U : State} {H H1 : Heap} (h : z_Zs C n d b U H) (hq : ∀ a : Nat, a < b → H1[a]? = H[a]?) : z_Zs C n d b U H1 := by
  obtain ⟨c, k, i, f, a, cell, v, h0, h1, h2, h3, h4, h5, h6, h7, h8, h9, h10, h11⟩ := h
  exact ⟨c, k, i, f, a, cell, v, h0, h1, h2, h3, by rw [hq a h11]; exact h4, h5, h6, h7, h8, h9, h10, h11⟩
theorem z_Zs.lays {C n d : String} {b : Nat} {U : State} (h : z_Zs C n d b U U.heap) (a : Array Value) : (Cond.laysStatic C n d).before a U = true := by
  obtain ⟨c, k, i, f, q, cell, v, h0, h1, h2, h3, h4, h5, h6, h7, h8, -⟩ := h
  simp [Cond.before, Cond.holds, Cond.value, h0, h1, h2, h3, h4, h5, h6, h7, h8]
theorem z_Zs.isRef {C n d : String} {b : Nat} {U : State} (h : z_Zs C n d b U U.heap) (a : Array Value) : (Cond.isRef (.static C n d)).before a U = true := by
  obtain ⟨c, k, i, f, q, cell, v, h0, h1, h2, h3, h4, h5, h6, h7, h8, h9, h10, -⟩ := h
  cases v with
  | null => simp [Cond.before, Cond.holds, Cond.value, Term.eval, State.fieldNamed?, h1, h2, h3, h4, h5, h9]
  | ref t => simp [Cond.before, Cond.holds, Cond.value, Term.eval, State.fieldNamed?, h1, h2, h3, h4, h5, h9]
  | _ => cases h10
theorem z_Zs.of {args : Array Value} {s : State} {C n d : String} (hl : (Cond.laysStatic C n d).before args s = true) (h : (Cond.isRef (.static C n d)).before args s = true) : z_Zs C n d s.heap.size s s.heap := by
  obtain ⟨c, k, i, f, a, cell, h0, h1, h2, h3, h4, h5, h6, h7, h8⟩ := Cond.laysStatic_spec hl
  cases hv : (Term.static C n d).eval args s none [] s with
  | none => simp [Cond.before, Cond.holds, Cond.value, hv] at h
  | some w =>
    obtain ⟨hst', a', cell', ha', hcell', -, hslot⟩ := Term.static_spec h1 hv
    cases h3.symm.trans ha'
    cases h4.symm.trans hcell'
    refine ⟨c, k, i, f, a, cell, w, h0, h1, h2, h3, h4, h5, h6, h7, h8, hslot, ?_, (Array.getElem?_eq_some_iff.mp h4).1⟩
    simp only [Cond.before, Cond.holds, Cond.value, hv] at h
    cases w <;> first | rfl | (simp at h)
/-- what a method's own walk may lean on -/
def z_Cx (G : z_G) (mt : z_M) (p : Program) (s : State) (m : MethodId) (args : Array Value) (meth : Method) (c : Code) : Prop :=
  (p.tables.exec = Jvm.exec ∧ c.code = mt.2.1 ∧ c.maxLocals = mt.2.2.1 ∧ meth.sig.returnType = mt.2.2.2.1) ∧
  (s.vm.findClass mt.1.cls = some m.cls ∧ meth.locks = false ∧ meth.name = mt.1.name ∧ c.exceptionTable.toList.map (fun h => (h.startPc, h.endPc, h.handlerPc, h.catchType)) = mt.2.2.2.2) ∧
  (va_K G.D G.cl G.tys s ∧ (∀ w ∈ G.Ts, w.before args s = true) ∧ (∀ w ∈ G.Ts, z_mv w = true) ∧ ∀ e : Env, G.l.admits e → e.platform.stackTraces = false)
/-- the heap is as the picture has it; the two statics of Throwable, and the script, lie below -/
def z_Rel (G : z_G) (h : z_H) (s : State) (H : Heap) : Prop :=
  H.size = h.1 ∧ (∃ ws : va_W, va_P G.D G.cl ws H ∧ va_D (fun q => G.b0 ≤ q) ws ∧ ∀ (a : Nat) (e : va_E), h.2.2 a = some e → ∃ k : Nat, ws[k]? = some (a, e)) ∧
  z_Zs "java/lang/Throwable" "UNASSIGNED_STACK" "[Ljava/lang/StackTraceElement;" G.b0 s H ∧ z_Zs "java/lang/Throwable" "SUPPRESSED_SENTINEL" "Ljava/util/List;" G.b0 s H ∧ va_X G.x.1 G.x.2.1 G.x.2.2 s H ∧ G.x.1 < G.b0
/-- since the method began, nothing below has changed -/
def z_Sx (G : z_G) (s : State) (H : Heap) (locs : List Loc) : Prop := va_S (fun q => G.b0 ≤ q) s.heap H locs ∧ G.b0 ≤ s.heap.size
def z_Out (r : z_R) (o : Outcome) (s : State) (H : Heap) : Prop := match r with
  | .inl v => o = .returned v
  | .inr X => ∃ (a : Nat) (ce : Cell), o = .threw a ∧ H[a]? = some ce ∧ ce.vm = .none ∧ s.vm.findClass X = some ce.cls
def z_End (G : z_G) (s : State) (below : List Frame) (ss0 : Nat) (Q : z_R → z_H → Prop) : State → Prop := fun t =>
  ∃ (o : Outcome) (r : z_R) (h' : z_H), Q r h' ∧ t.status = .running ∧ Ended t below o ∧ s.WarmedH t.vm ∧
    (∃ L : List Loc, s.sameButNew ({ t with vm := s.vm } : State) L (h'.1 - s.heap.size) (h'.2.1 - ss0) ∧ ∀ x ∈ L, G.b0 ≤ x.base) ∧
    z_Rel G h' s t.heap ∧ (∀ q : Nat, q < G.b0 → t.heap[q]? = s.heap[q]?) ∧ (s.heap.size ≤ h'.1 ∧ ss0 ≤ h'.2.1 ∧ h'.1 ≤ G.b0 + G.cc ∧ h'.2.1 ≤ G.ss) ∧ z_Out r o s t.heap
def z_St (G : z_G) (mt : z_M) (d : Nat) (p : Program) (s : State) (m : MethodId) (args : Array Value) (meth : Method) (c : Code) (R : Room) (ss0 : Nat) (H : Heap) (locs : List Loc) (h : z_H) : Prop :=
  z_Cx G mt p s m args meth c ∧ (d + 6 ≤ R.frames ∧ 35 * d + 150 ≤ R.locals ∧ G.b0 + G.cc ≤ s.heap.size + R.cells ∧ G.ss ≤ ss0 + R.slots) ∧
  (z_Rel G h s H ∧ z_Sx G s H locs ∧ s.heap.size ≤ h.1 ∧ ss0 ≤ h.2.1 ∧ h.1 ≤ G.b0 + G.cc ∧ h.2.1 ≤ G.ss)
/-- from this place of this method, with this picture, the walk comes to an end that Q allows -/
def z_V (G : z_G) (mt : z_M) (d pc : Nat) (lo : List (Nat × Value)) (st : List Value) (h : z_H) (Q : z_R → z_H → Prop) : Prop :=
  ∀ (p : Program) (e : Env) (s : State) (m : MethodId) (args : Array Value) (below : List Frame) (meth : Method) (c : Code) (R : Room) (ss0 : Nat) (H : Heap) (locs : List Loc) (ls : Array Slot),
    z_St G mt d p s m args meth c R ss0 H locs h → lv_has ls mt.2.2.1 lo →
    W p G.l e R s m args below meth c H locs (h.1 - s.heap.size) (h.2.1 - ss0) (z_End G s below ss0 Q) (F0 m pc ls st)
/-- a method's contract at these arguments and this picture -/
def z_C (G : z_G) (mt : z_M) (d : Nat) (as : List Value) (h : z_H) (Q : z_R → z_H → Prop) : Prop :=
  ∀ (p : Program) (e : Env) (s : State) (m : MethodId) (below : List Frame) (meth : Method) (c : Code) (R : Room),
    z_St G mt d p s m as.toArray meth c R h.2.1 s.heap [] h →
    W p G.l e R s m as.toArray below meth c s.heap [] 0 0 (z_End G s below h.2.1 Q) (entryFrame m as.toArray mt.2.2.1)
theorem z_C.of {G : z_G} {mt : z_M} {d : Nat} {as : List Value} {h : z_H} {Q : z_R → z_H → Prop} (hl : (lg_sl as).length ≤ mt.2.2.1) (k : z_V G mt d 0 (lv_args 0 as) [] h Q) : z_C G mt d as h Q := by
  intro p e s m below meth c R S
  have hz : s.heap.size = h.1 := S.2.2.1.1
  have h1 := k p e s m as.toArray below meth c R h.2.1 s.heap [] _ S (lv_entry as hl)
  rw [hz, Nat.sub_self, Nat.sub_self] at h1
  rw [lg_entry_eq]
  exact h1
theorem z_C.mono {G : z_G} {mt : z_M} {d : Nat} {as : List Value} {h : z_H} {Q Q' : z_R → z_H → Prop} (k : z_C G mt d as h Q) (hq : ∀ r h', Q r h' → Q' r h') : z_C G mt d as h Q' := by
  intro p e s m below meth c R S T hT X
  obtain ⟨t, a, o, r, h', b1, b2⟩ := k p e s m below meth c R S T hT X
  exact ⟨t, a, o, r, h', hq r h' b1, b2⟩
theorem z_C.deep {G : z_G} {mt : z_M} {d d' : Nat} {as : List Value} {h : z_H} {Q : z_R → z_H → Prop} (k : z_C G mt d as h Q) (hd : d ≤ d') : z_C G mt d' as h Q := by
  intro p e s m below meth c R S
  obtain ⟨S1, ⟨S2, S3, S4⟩, S5⟩ := S
  exact k p e s m below meth c R ⟨S1, ⟨by omega, by omega, S4⟩, S5⟩
/-! locals -/
def z_get : List (Nat × Value) → Nat → Option Value
  | [], _ => none
  | (j, w) :: t, i => if j = i then some w else z_get t i
theorem z_get_mem : ∀ {lo : List (Nat × Value)} {i : Nat} {v : Value}, z_get lo i = some v → (i, v) ∈ lo
  | [], i, v, h => by cases h
  | (j, w) :: t, i, v, h => by
    unfold z_get at h
    split at h
    · rename_i hj
      cases h
      rw [hj]
      exact List.mem_cons_self
    · exact List.mem_cons_of_mem _ (z_get_mem h)
def z_in : List (Nat × Value) → List (Nat × Value) → Prop
  | [], _ => True
  | q :: t, lo => z_get lo q.1 = some q.2 ∧ z_in t lo
theorem z_in_all : ∀ {lo' lo : List (Nat × Value)}, z_in lo' lo → ∀ q ∈ lo', q ∈ lo
  | [], _, _, q, hq => by cases hq
  | x :: t, lo, h, q, hq => by
    rcases List.mem_cons.mp hq with rfl | hq
    · exact z_get_mem h.1
    · exact z_in_all h.2 q hq
abbrev z_sto (lo : List (Nat × Value)) (i : Nat) (v : Value) : List (Nat × Value) := (i, v) :: lo.filter (fun q => !(q.1 == i) && !(q.1 + 1 == i && q.2.category == 2))
section ZR
variable {G : z_G} {mt : z_M} {d pc : Nat} {lo : List (Nat × Value)} {st : List Value} {h : z_H} {Q : z_R → z_H → Prop}
theorem z_fg (lo' : List (Nat × Value)) (hs : z_in lo' lo) (k : z_V G mt d pc lo' st h Q) : z_V G mt d pc lo st h Q :=
  fun p e s m args below meth c R ss0 H locs ls S hl => k p e s m args below meth c R ss0 H locs ls S ⟨hl.1, hl.2.1, fun q hq => hl.2.2 q (z_in_all hs q hq)⟩
theorem z_V.mono {Q' : z_R → z_H → Prop} (k : z_V G mt d pc lo st h Q) (hq : ∀ r h', Q r h' → Q' r h') : z_V G mt d pc lo st h Q' := by
  intro p e s m args below meth c R ss0 H locs ls S hl T hT X
  obtain ⟨t, a, o, r, h', b1, b2⟩ := k p e s m args below meth c R ss0 H locs ls S hl T hT X
  exact ⟨t, a, o, r, h', hq r h' b1, b2⟩
theorem z_iconst {n : Int} {v : Int32} (hd : decode mt.2.1 pc = .ok (.iconst n, 1)) (hv : Int32.ofInt n = v) (k : z_V G mt d (pc + 1) lo (.int v :: st) h Q) : z_V G mt d pc lo st h Q :=
  fun p e s m args below meth c R ss0 H locs ls S hl => lv_iconst S.1.1.1 S.1.1.2.1 hd hv (k p e s m args below meth c R ss0 H locs ls S hl)
theorem z_bipush {n : Int} {v : Int32} (hd : decode mt.2.1 pc = .ok (.bipush n, 2)) (hv : (Int8.ofInt n).toInt32 = v) (k : z_V G mt d (pc + 2) lo (.int v :: st) h Q) : z_V G mt d pc lo st h Q :=
  fun p e s m args below meth c R ss0 H locs ls S hl => lv_bipush S.1.1.1 S.1.1.2.1 hd hv (k p e s m args below meth c R ss0 H locs ls S hl)
theorem z_sipush {n : Int} {v : Int32} (hd : decode mt.2.1 pc = .ok (.sipush n, 3)) (hv : (Int16.ofInt n).toInt32 = v) (k : z_V G mt d (pc + 3) lo (.int v :: st) h Q) : z_V G mt d pc lo st h Q :=
  fun p e s m args below meth c R ss0 H locs ls S hl => lv_sipush S.1.1.1 S.1.1.2.1 hd hv (k p e s m args below meth c R ss0 H locs ls S hl)
theorem z_lconst {n : Fin 2} {v : Int64} (hd : decode mt.2.1 pc = .ok (.lconst n, 1)) (hv : Int64.ofNat (n : Nat) = v) (k : z_V G mt d (pc + 1) lo (.long v :: st) h Q) : z_V G mt d pc lo st h Q :=
  fun p e s m args below meth c R ss0 H locs ls S hl => lv_lconst S.1.1.1 S.1.1.2.1 hd hv (k p e s m args below meth c R ss0 H locs ls S hl)
theorem z_iload_n {j : Fin 4} {i : Nat} {x : Int32} (hd : decode mt.2.1 pc = .ok (.iload_n j, 1)) (hi : (j : Nat) = i) (hv : z_get lo i = some (.int x)) (k : z_V G mt d (pc + 1) lo (.int x :: st) h Q) : z_V G mt d pc lo st h Q :=
  fun p e s m args below meth c R ss0 H locs ls S hl => lv_iload_n S.1.1.1 S.1.1.2.1 hd hi (hl.2.2 _ (z_get_mem hv)) (k p e s m args below meth c R ss0 H locs ls S hl)
theorem z_iload {i : Nat} {x : Int32} (hd : decode mt.2.1 pc = .ok (.iload i, 2)) (hv : z_get lo i = some (.int x)) (k : z_V G mt d (pc + 2) lo (.int x :: st) h Q) : z_V G mt d pc lo st h Q :=
  fun p e s m args below meth c R ss0 H locs ls S hl => lv_iload S.1.1.1 S.1.1.2.1 hd (hl.2.2 _ (z_get_mem hv)) (k p e s m args below meth c R ss0 H locs ls S hl)
theorem z_aload_n {j : Fin 4} {i : Nat} {x : Nat} (hd : decode mt.2.1 pc = .ok (.aload_n j, 1)) (hi : (j : Nat) = i) (hv : z_get lo i = some (.ref x)) (k : z_V G mt d (pc + 1) lo (.ref x :: st) h Q) : z_V G mt d pc lo st h Q :=
  fun p e s m args below meth c R ss0 H locs ls S hl => lv_aload_n S.1.1.1 S.1.1.2.1 hd hi (hl.2.2 _ (z_get_mem hv)) (k p e s m args below meth c R ss0 H locs ls S hl)
theorem z_aload {i : Nat} {x : Nat} (hd : decode mt.2.1 pc = .ok (.aload i, 2)) (hv : z_get lo i = some (.ref x)) (k : z_V G mt d (pc + 2) lo (.ref x :: st) h Q) : z_V G mt d pc lo st h Q :=
  fun p e s m args below meth c R ss0 H locs ls S hl => lv_aload S.1.1.1 S.1.1.2.1 hd (hl.2.2 _ (z_get_mem hv)) (k p e s m args below meth c R ss0 H locs ls S hl)
theorem z_istore_n {j : Fin 4} {i : Nat} {x : Int32} (hd : decode mt.2.1 pc = .ok (.istore_n j, 1)) (hi : (j : Nat) = i) (hn : i < mt.2.2.1) (k : z_V G mt d (pc + 1) (z_sto lo i (.int x)) st h Q) : z_V G mt d pc lo (.int x :: st) h Q :=
  fun p e s m args below meth c R ss0 H locs ls S hl => lv_istore_n S.1.1.1 S.1.1.2.1 hd hi hl hn rfl (fun ls' hl' => k p e s m args below meth c R ss0 H locs ls' S hl')
theorem z_istore {i : Nat} {x : Int32} (hd : decode mt.2.1 pc = .ok (.istore i, 2)) (hn : i < mt.2.2.1) (k : z_V G mt d (pc + 2) (z_sto lo i (.int x)) st h Q) : z_V G mt d pc lo (.int x :: st) h Q :=
  fun p e s m args below meth c R ss0 H locs ls S hl => lv_istore S.1.1.1 S.1.1.2.1 hd hl hn rfl (fun ls' hl' => k p e s m args below meth c R ss0 H locs ls' S hl')
theorem z_astore_n {j : Fin 4} {i : Nat} {x : Nat} (hd : decode mt.2.1 pc = .ok (.astore_n j, 1)) (hi : (j : Nat) = i) (hn : i < mt.2.2.1) (k : z_V G mt d (pc + 1) (z_sto lo i (.ref x)) st h Q) : z_V G mt d pc lo (.ref x :: st) h Q :=
  fun p e s m args below meth c R ss0 H locs ls S hl => lv_astore_n S.1.1.1 S.1.1.2.1 hd hi hl hn rfl (fun ls' hl' => k p e s m args below meth c R ss0 H locs ls' S hl')
theorem z_astore {i : Nat} {x : Nat} (hd : decode mt.2.1 pc = .ok (.astore i, 2)) (hn : i < mt.2.2.1) (k : z_V G mt d (pc + 2) (z_sto lo i (.ref x)) st h Q) : z_V G mt d pc lo (.ref x :: st) h Q :=
  fun p e s m args below meth c R ss0 H locs ls S hl => lv_astore S.1.1.1 S.1.1.2.1 hd hl hn rfl (fun ls' hl' => k p e s m args below meth c R ss0 H locs ls' S hl')
theorem z_iinc {i : Nat} {n : Int} {x v : Int32} (hd : decode mt.2.1 pc = .ok (.iinc i n, 3)) (hg : z_get lo i = some (.int x)) (hv : x + Int32.ofInt n = v) (hn : i < mt.2.2.1) (k : z_V G mt d (pc + 3) (z_sto lo i (.int v)) st h Q) : z_V G mt d pc lo st h Q := by
  obtain ⟨j, hj⟩ := List.getElem?_of_mem (z_get_mem hg)
  exact fun p e s m args below meth c R ss0 H locs ls S hl => lv_iinc S.1.1.1 S.1.1.2.1 hd hl hj hv hn rfl (fun ls' hl' => k p e s m args below meth c R ss0 H locs ls' S hl')
theorem z_iadd {x y : Int32} (hd : decode mt.2.1 pc = .ok (.iadd, 1)) (k : z_V G mt d (pc + 1) lo (.int (x + y) :: st) h Q) : z_V G mt d pc lo (.int y :: .int x :: st) h Q :=
  fun p e s m args below meth c R ss0 H locs ls S hl => lv_iadd S.1.1.1 S.1.1.2.1 hd (k p e s m args below meth c R ss0 H locs ls S hl)
theorem z_isub {x y : Int32} (hd : decode mt.2.1 pc = .ok (.isub, 1)) (k : z_V G mt d (pc + 1) lo (.int (x - y) :: st) h Q) : z_V G mt d pc lo (.int y :: .int x :: st) h Q :=
  fun p e s m args below meth c R ss0 H locs ls S hl => lv_isub S.1.1.1 S.1.1.2.1 hd (k p e s m args below meth c R ss0 H locs ls S hl)
theorem z_imul {x y : Int32} (hd : decode mt.2.1 pc = .ok (.imul, 1)) (k : z_V G mt d (pc + 1) lo (.int (x * y) :: st) h Q) : z_V G mt d pc lo (.int y :: .int x :: st) h Q :=
  fun p e s m args below meth c R ss0 H locs ls S hl => lv_imul S.1.1.1 S.1.1.2.1 hd (k p e s m args below meth c R ss0 H locs ls S hl)
theorem z_iand {x y : Int32} (hd : decode mt.2.1 pc = .ok (.iand, 1)) (k : z_V G mt d (pc + 1) lo (.int (x &&& y) :: st) h Q) : z_V G mt d pc lo (.int y :: .int x :: st) h Q :=
  fun p e s m args below meth c R ss0 H locs ls S hl => lv_iand S.1.1.1 S.1.1.2.1 hd (k p e s m args below meth c R ss0 H locs ls S hl)
theorem z_ior {x y : Int32} (hd : decode mt.2.1 pc = .ok (.ior, 1)) (k : z_V G mt d (pc + 1) lo (.int (x ||| y) :: st) h Q) : z_V G mt d pc lo (.int y :: .int x :: st) h Q :=
  fun p e s m args below meth c R ss0 H locs ls S hl => lv_ior S.1.1.1 S.1.1.2.1 hd (k p e s m args below meth c R ss0 H locs ls S hl)
theorem z_dup {x : Value} (hd : decode mt.2.1 pc = .ok (.dup, 1)) (hc : x.category = 1) (k : z_V G mt d (pc + 1) lo (x :: x :: st) h Q) : z_V G mt d pc lo (x :: st) h Q :=
  fun p e s m args below meth c R ss0 H locs ls S hl => lv_dup S.1.1.1 S.1.1.2.1 hd hc (k p e s m args below meth c R ss0 H locs ls S hl)
theorem z_pop {x : Value} (hd : decode mt.2.1 pc = .ok (.pop, 1)) (hc : x.category = 1) (k : z_V G mt d (pc + 1) lo st h Q) : z_V G mt d pc lo (x :: st) h Q :=
  fun p e s m args below meth c R ss0 H locs ls S hl => lv_pop S.1.1.1 S.1.1.2.1 hd hc (k p e s m args below meth c R ss0 H locs ls S hl)
theorem z_goto {off : Int} {tgt : Nat} (hd : decode mt.2.1 pc = .ok (.goto off, 3)) (ht : (pc : Int) + off = (tgt : Int)) (k : z_V G mt d tgt lo st h Q) : z_V G mt d pc lo st h Q :=
  fun p e s m args below meth c R ss0 H locs ls S hl => lv_goto S.1.1.1 S.1.1.2.1 hd ht (k p e s m args below meth c R ss0 H locs ls S hl)
theorem z_if_eq {x : Int32} {off : Int} {tgt : Nat} (hd : decode mt.2.1 pc = .ok (.ifCond .eq off, 3)) (ht : (pc : Int) + off = (tgt : Int)) (kt : x = 0 → z_V G mt d tgt lo st h Q) (kf : ¬ x = 0 → z_V G mt d (pc + 3) lo st h Q) : z_V G mt d pc lo (.int x :: st) h Q :=
  fun p e s m args below meth c R ss0 H locs ls S hl => lv_if_eq S.1.1.1 S.1.1.2.1 hd ht (fun z => kt z p e s m args below meth c R ss0 H locs ls S hl) (fun z => kf z p e s m args below meth c R ss0 H locs ls S hl)
theorem z_icmp_eq {x y : Int32} {off : Int} {tgt : Nat} (hd : decode mt.2.1 pc = .ok (.if_icmp .eq off, 3)) (ht : (pc : Int) + off = (tgt : Int)) (kt : x = y → z_V G mt d tgt lo st h Q) (kf : ¬ x = y → z_V G mt d (pc + 3) lo st h Q) : z_V G mt d pc lo (.int y :: .int x :: st) h Q :=
  fun p e s m args below meth c R ss0 H locs ls S hl => lv_icmp_eq S.1.1.1 S.1.1.2.1 hd ht (fun z => kt z p e s m args below meth c R ss0 H locs ls S hl) (fun z => kf z p e s m args below meth c R ss0 H locs ls S hl)
theorem z_if_ne {x : Int32} {off : Int} {tgt : Nat} (hd : decode mt.2.1 pc = .ok (.ifCond .ne off, 3)) (ht : (pc : Int) + off = (tgt : Int)) (kt : ¬ x = 0 → z_V G mt d tgt lo st h Q) (kf : x = 0 → z_V G mt d (pc + 3) lo st h Q) : z_V G mt d pc lo (.int x :: st) h Q :=
  fun p e s m args below meth c R ss0 H locs ls S hl => lv_if_ne S.1.1.1 S.1.1.2.1 hd ht (fun z => kt z p e s m args below meth c R ss0 H locs ls S hl) (fun z => kf z p e s m args below meth c R ss0 H locs ls S hl)
theorem z_icmp_ne {x y : Int32} {off : Int} {tgt : Nat} (hd : decode mt.2.1 pc = .ok (.if_icmp .ne off, 3)) (ht : (pc : Int) + off = (tgt : Int)) (kt : ¬ x = y → z_V G mt d tgt lo st h Q) (kf : x = y → z_V G mt d (pc + 3) lo st h Q) : z_V G mt d pc lo (.int y :: .int x :: st) h Q :=
  fun p e s m args below meth c R ss0 H locs ls S hl => lv_icmp_ne S.1.1.1 S.1.1.2.1 hd ht (fun z => kt z p e s m args below meth c R ss0 H locs ls S hl) (fun z => kf z p e s m args below meth c R ss0 H locs ls S hl)
theorem z_if_lt {x : Int32} {off : Int} {tgt : Nat} (hd : decode mt.2.1 pc = .ok (.ifCond .lt off, 3)) (ht : (pc : Int) + off = (tgt : Int)) (kt : x < 0 → z_V G mt d tgt lo st h Q) (kf : ¬ x < 0 → z_V G mt d (pc + 3) lo st h Q) : z_V G mt d pc lo (.int x :: st) h Q :=
  fun p e s m args below meth c R ss0 H locs ls S hl => lv_if_lt S.1.1.1 S.1.1.2.1 hd ht (fun z => kt z p e s m args below meth c R ss0 H locs ls S hl) (fun z => kf z p e s m args below meth c R ss0 H locs ls S hl)
theorem z_icmp_lt {x y : Int32} {off : Int} {tgt : Nat} (hd : decode mt.2.1 pc = .ok (.if_icmp .lt off, 3)) (ht : (pc : Int) + off = (tgt : Int)) (kt : x < y → z_V G mt d tgt lo st h Q) (kf : ¬ x < y → z_V G mt d (pc + 3) lo st h Q) : z_V G mt d pc lo (.int y :: .int x :: st) h Q :=
  fun p e s m args below meth c R ss0 H locs ls S hl => lv_icmp_lt S.1.1.1 S.1.1.2.1 hd ht (fun z => kt z p e s m args below meth c R ss0 H locs ls S hl) (fun z => kf z p e s m args below meth c R ss0 H locs ls S hl)
theorem z_if_ge {x : Int32} {off : Int} {tgt : Nat} (hd : decode mt.2.1 pc = .ok (.ifCond .ge off, 3)) (ht : (pc : Int) + off = (tgt : Int)) (kt : 0 ≤ x → z_V G mt d tgt lo st h Q) (kf : ¬ 0 ≤ x → z_V G mt d (pc + 3) lo st h Q) : z_V G mt d pc lo (.int x :: st) h Q :=
  fun p e s m args below meth c R ss0 H locs ls S hl => lv_if_ge S.1.1.1 S.1.1.2.1 hd ht (fun z => kt z p e s m args below meth c R ss0 H locs ls S hl) (fun z => kf z p e s m args below meth c R ss0 H locs ls S hl)
theorem z_icmp_ge {x y : Int32} {off : Int} {tgt : Nat} (hd : decode mt.2.1 pc = .ok (.if_icmp .ge off, 3)) (ht : (pc : Int) + off = (tgt : Int)) (kt : y ≤ x → z_V G mt d tgt lo st h Q) (kf : ¬ y ≤ x → z_V G mt d (pc + 3) lo st h Q) : z_V G mt d pc lo (.int y :: .int x :: st) h Q :=
  fun p e s m args below meth c R ss0 H locs ls S hl => lv_icmp_ge S.1.1.1 S.1.1.2.1 hd ht (fun z => kt z p e s m args below meth c R ss0 H locs ls S hl) (fun z => kf z p e s m args below meth c R ss0 H locs ls S hl)
theorem z_if_gt {x : Int32} {off : Int} {tgt : Nat} (hd : decode mt.2.1 pc = .ok (.ifCond .gt off, 3)) (ht : (pc : Int) + off = (tgt : Int)) (kt : 0 < x → z_V G mt d tgt lo st h Q) (kf : ¬ 0 < x → z_V G mt d (pc + 3) lo st h Q) : z_V G mt d pc lo (.int x :: st) h Q :=
  fun p e s m args below meth c R ss0 H locs ls S hl => lv_if_gt S.1.1.1 S.1.1.2.1 hd ht (fun z => kt z p e s m args below meth c R ss0 H locs ls S hl) (fun z => kf z p e s m args below meth c R ss0 H locs ls S hl)
theorem z_icmp_gt {x y : Int32} {off : Int} {tgt : Nat} (hd : decode mt.2.1 pc = .ok (.if_icmp .gt off, 3)) (ht : (pc : Int) + off = (tgt : Int)) (kt : y < x → z_V G mt d tgt lo st h Q) (kf : ¬ y < x → z_V G mt d (pc + 3) lo st h Q) : z_V G mt d pc lo (.int y :: .int x :: st) h Q :=
  fun p e s m args below meth c R ss0 H locs ls S hl => lv_icmp_gt S.1.1.1 S.1.1.2.1 hd ht (fun z => kt z p e s m args below meth c R ss0 H locs ls S hl) (fun z => kf z p e s m args below meth c R ss0 H locs ls S hl)
theorem z_if_le {x : Int32} {off : Int} {tgt : Nat} (hd : decode mt.2.1 pc = .ok (.ifCond .le off, 3)) (ht : (pc : Int) + off = (tgt : Int)) (kt : x ≤ 0 → z_V G mt d tgt lo st h Q) (kf : ¬ x ≤ 0 → z_V G mt d (pc + 3) lo st h Q) : z_V G mt d pc lo (.int x :: st) h Q :=
  fun p e s m args below meth c R ss0 H locs ls S hl => lv_if_le S.1.1.1 S.1.1.2.1 hd ht (fun z => kt z p e s m args below meth c R ss0 H locs ls S hl) (fun z => kf z p e s m args below meth c R ss0 H locs ls S hl)
theorem z_icmp_le {x y : Int32} {off : Int} {tgt : Nat} (hd : decode mt.2.1 pc = .ok (.if_icmp .le off, 3)) (ht : (pc : Int) + off = (tgt : Int)) (kt : x ≤ y → z_V G mt d tgt lo st h Q) (kf : ¬ x ≤ y → z_V G mt d (pc + 3) lo st h Q) : z_V G mt d pc lo (.int y :: .int x :: st) h Q :=
  fun p e s m args below meth c R ss0 H locs ls S hl => lv_icmp_le S.1.1.1 S.1.1.2.1 hd ht (fun z => kt z p e s m args below meth c R ss0 H locs ls S hl) (fun z => kf z p e s m args below meth c R ss0 H locs ls S hl)
theorem z_ishl {x y : Int32} (hd : decode mt.2.1 pc = .ok (.ishl, 1)) (k : z_V G mt d (pc + 1) lo (.int (x <<< (y &&& 31)) :: st) h Q) : z_V G mt d pc lo (.int y :: .int x :: st) h Q :=
  fun p e s m args below meth c R ss0 H locs ls S hl => lv_ishl S.1.1.1 S.1.1.2.1 hd (k p e s m args below meth c R ss0 H locs ls S hl)
theorem z_ishr {x y : Int32} (hd : decode mt.2.1 pc = .ok (.ishr, 1)) (k : z_V G mt d (pc + 1) lo (.int (x >>> (y &&& 31)) :: st) h Q) : z_V G mt d pc lo (.int y :: .int x :: st) h Q :=
  fun p e s m args below meth c R ss0 H locs ls S hl => lv_ishr S.1.1.1 S.1.1.2.1 hd (k p e s m args below meth c R ss0 H locs ls S hl)
theorem z_dup2 {x y : Value} (hd : decode mt.2.1 pc = .ok (.dup2, 1)) (h1 : x.category = 1) (h2 : y.category = 1) (k : z_V G mt d (pc + 1) lo (x :: y :: x :: y :: st) h Q) : z_V G mt d pc lo (x :: y :: st) h Q :=
  fun p e s m args below meth c R ss0 H locs ls S hl => lv_dup2_11 S.1.1.1 S.1.1.2.1 hd h1 h2 (k p e s m args below meth c R ss0 H locs ls S hl)
theorem z_i2l {x : Int32} {v : Int64} (hd : decode mt.2.1 pc = .ok (.i2l, 1)) (hv : x.toInt64 = v) (k : z_V G mt d (pc + 1) lo (.long v :: st) h Q) : z_V G mt d pc lo (.int x :: st) h Q :=
  fun p e s m args below meth c R ss0 H locs ls S hl => lv_i2l S.1.1.1 S.1.1.2.1 hd hv (k p e s m args below meth c R ss0 H locs ls S hl)
theorem z_lcmp {x y : Int64} (hd : decode mt.2.1 pc = .ok (.lcmp, 1)) (k : z_V G mt d (pc + 1) lo (.int (lg_cmp x y) :: st) h Q) : z_V G mt d pc lo (.long y :: .long x :: st) h Q :=
  fun p e s m args below meth c R ss0 H locs ls S hl => W.lcmp S.1.1.1 S.1.1.2.1 hd (k p e s m args below meth c R ss0 H locs ls S hl)
theorem z_topi {x : Int32} (k : ∀ y : Int32, y = x → z_V G mt d pc lo (.int y :: st) h Q) : z_V G mt d pc lo (.int x :: st) h Q := k x rfl
theorem z_eqi {x y : Int32} (hxy : x = y) (k : z_V G mt d pc lo (.int y :: st) h Q) : z_V G mt d pc lo (.int x :: st) h Q := hxy ▸ k
theorem z_tableIn {dflt lw hi : Int} {offs : Array Int} {len : Nat} {x : Int32} {off : Int} {tgt : Nat} (hd : decode mt.2.1 pc = .ok (.tableswitch dflt lw hi offs, len)) (h1 : ¬ x.toInt < lw) (h2 : ¬ hi < x.toInt) (ho : offs[(x.toInt - lw).toNat]? = some off) (ht : (pc : Int) + off = (tgt : Int)) (k : z_V G mt d tgt lo st h Q) : z_V G mt d pc lo (.int x :: st) h Q :=
  fun p e s m args below meth c R ss0 H locs ls S hl => lv_tableIn S.1.1.1 S.1.1.2.1 hd h1 h2 ho ht (k p e s m args below meth c R ss0 H locs ls S hl)
theorem z_tableOut {dflt lw hi : Int} {offs : Array Int} {len : Nat} {x : Int32} {tgt : Nat} (hd : decode mt.2.1 pc = .ok (.tableswitch dflt lw hi offs, len)) (h1 : x.toInt < lw ∨ hi < x.toInt) (ht : (pc : Int) + dflt = (tgt : Int)) (k : z_V G mt d tgt lo st h Q) : z_V G mt d pc lo (.int x :: st) h Q :=
  fun p e s m args below meth c R ss0 H locs ls S hl => lv_tableOut S.1.1.1 S.1.1.2.1 hd h1 ht (k p e s m args below meth c R ss0 H locs ls S hl)
/-! the ends -/
theorem z_ends {p : Program} {s : State} {m : MethodId} {args : Array Value} {below : List Frame} {meth : Method} {c : Code} {R : Room} {ss0 : Nat} {H : Heap} {locs : List Loc} {T : State} {v : Option Value} {fs : List Frame}
    (S : z_St G mt d p s m args meth c R ss0 H locs h) (hT : T.heap = H) (hq : Q (.inl v) h) (hrun : (T.setFrames fs).status = .running) (hended : Ended (T.setFrames fs) below (.returned v)) (hW : s.WarmedH (T.setFrames fs).vm)
    (hframe : s.sameButNew ({ T.setFrames fs with vm := s.vm } : State) locs (h.1 - s.heap.size) (h.2.1 - ss0)) : z_End G s below ss0 Q (T.setFrames fs) := by
  obtain ⟨-, -, S1, S2, S3⟩ := S
  refine ⟨.returned v, .inl v, h, hq, hrun, hended, hW, ⟨locs, hframe, S2.1.2.2⟩, ?_, ?_, S3, rfl⟩
  · show z_Rel G h s T.heap
    rw [hT]
    exact S1
  · intro q hq
    show T.heap[q]? = s.heap[q]?
    rw [hT]
    exact S2.1.2.1 q (Nat.lt_of_lt_of_le hq S2.2) (Nat.not_le.mpr hq)
theorem z_ireturn {v : Int32} {ty : FieldType} (hd : decode mt.2.1 pc = .ok (.ireturn, 1)) (hr : mt.2.2.2.1 = some ty) (hn : narrow ty (.int v) = .int v) (hq : Q (.inl (some (.int v))) h) : z_V G mt d pc lo [.int v] h Q := by
  intro p e s m args below meth c R ss0 H locs ls S hl T hT X
  have hx : p.tables.exec = Jvm.exec := S.1.1.1
  have hb : c.code = mt.2.1 := S.1.1.2.1
  have hlocks : meth.locks = false := S.1.2.1.2.1
  have hr0 : meth.sig.returnType = some ty := S.1.1.2.2.2.trans hr
  obtain ⟨fs, hret, hrun, hended, hW, hframe⟩ := X.leave (v := some (.int v)) (fun h => by rw [hr0] at h; cases h)
  have hmeth' : T.vm.method? m = some meth := X.method'
  refine ⟨T.setFrames fs, ?_, z_ends S hT hq hrun hended hW hframe⟩
  jvm_step X.here [X.here.top, hx, hb, hd, hmeth', hr0, hn]
  (try refine ⟨rfl, ?_⟩); (try refine ⟨rfl, ?_⟩)
  first | (intro acts; rw [hret _ acts rfl rfl rfl]) | rw [hret _ _ rfl rfl rfl]
  exact Steps.refl _
theorem z_return (hd : decode mt.2.1 pc = .ok (.return_, 1)) (hr : mt.2.2.2.1 = none) (hq : Q (.inl none) h) : z_V G mt d pc lo [] h Q := by
  intro p e s m args below meth c R ss0 H locs ls S hl T hT X
  have hx : p.tables.exec = Jvm.exec := S.1.1.1
  have hb : c.code = mt.2.1 := S.1.1.2.1
  have hlocks : meth.locks = false := S.1.2.1.2.1
  have hr0 : meth.sig.returnType = none := S.1.1.2.2.2.trans hr
  obtain ⟨fs, hret, hrun, hended, hW, hframe⟩ := X.leave (v := none) (fun _ => rfl)
  have hmeth' : T.vm.method? m = some meth := X.method'
  refine ⟨T.setFrames fs, ?_, z_ends S hT hq hrun hended hW hframe⟩
  jvm_step X.here [X.here.top, hx, hb, hd, hmeth', hr0]
  (try refine ⟨rfl, ?_⟩); (try refine ⟨rfl, ?_⟩)
  first | (intro acts; rw [hret _ acts rfl rfl rfl]) | rw [hret _ _ rfl rfl rfl]
  exact Steps.refl _
theorem z_areturn {a : Nat} {n : String} (hd : decode mt.2.1 pc = .ok (.areturn, 1)) (hr : mt.2.2.2.1 = some (.object n)) (hq : Q (.inl (some (.ref a))) h) : z_V G mt d pc lo [.ref a] h Q := by
  intro p e s m args below meth c R ss0 H locs ls S hl T hT X
  have hx : p.tables.exec = Jvm.exec := S.1.1.1
  have hb : c.code = mt.2.1 := S.1.1.2.1
  have hlocks : meth.locks = false := S.1.2.1.2.1
  have hr0 : meth.sig.returnType = some (.object n) := S.1.1.2.2.2.trans hr
  obtain ⟨fs, hret, hrun, hended, hW, hframe⟩ := X.leave (v := some (.ref a)) (fun h => by rw [hr0] at h; cases h)
  have hmeth' : T.vm.method? m = some meth := X.method'
  refine ⟨T.setFrames fs, ?_, z_ends S hT hq hrun hended hW hframe⟩
  jvm_step X.here [X.here.top, hx, hb, hd, hmeth', hr0]
  (try refine ⟨rfl, ?_⟩); (try refine ⟨rfl, ?_⟩)
  first | (intro acts; rw [hret _ acts rfl rfl rfl]) | rw [hret _ _ rfl rfl rfl]
  exact Steps.refl _
end ZR
end
section
/-! the heap's rows -/
abbrev z_set (h : z_H) (a : Nat) (e : va_E) : z_H := (h.1, h.2.1, va_up h.2.2 a (some e))
abbrev z_new (h : z_H) (n : Nat) (e : va_E) : z_H := (h.1 + 1, h.2.1 + n, va_up h.2.2 h.1 (some e))
section ZA
variable {p : Program} {l : Launch} {e : Env} {R : Room} {s : State} {m : MethodId} {args : Array Value} {below : List Frame} {meth : Method} {c : Code} {H H1 : Heap} {locs locs1 : List Loc} {cells slots : Nat} {Q : State → Prop}
theorem z_sz {g : JFrame} (k : H.size ≤ s.heap.size + cells → W p l e R s m args below meth c H locs cells slots Q g) : W p l e R s m args below meth c H locs cells slots Q g :=
  fun T hT X => k (hT ▸ X.heapSize) T hT X
variable {G : z_G} {mt : z_M} {d ss0 : Nat} {h : z_H}
theorem z_rf (S : z_St G mt d p s m args meth c R ss0 H locs h) : va_S (fun q => G.b0 ≤ q) H H locs := ⟨Nat.le_refl _, fun _ _ _ => rfl, S.2.2.2.1.1.2.2⟩
theorem z_Sx.go (S : z_Sx G s H locs) (hS : va_S (fun q => G.b0 ≤ q) H H1 locs1) : z_Sx G s H1 locs1 :=
  ⟨⟨Nat.le_trans S.1.1 hS.1, fun q h1 h2 => (hS.2.1 q (Nat.lt_of_lt_of_le h1 S.1.1) h2).trans (S.1.2.1 q h1 h2), hS.2.2⟩, S.2⟩
theorem z_wr (S : z_St G mt d p s m args meth c R ss0 H locs h) {ws : va_W} (hD : va_D (fun q => G.b0 ≤ q) ws) (hcov : ∀ (a : Nat) (e : va_E), h.2.2 a = some e → ∃ k : Nat, ws[k]? = some (a, e)) {k a : Nat} {e0 e : va_E} (hk : ws[k]? = some (a, e0))
    (hP1 : va_P G.D G.cl (ws.set k (a, e)) H1) (hD1 : va_D (fun q => G.b0 ≤ q) (ws.set k (a, e))) (hS1 : va_S (fun q => G.b0 ≤ q) H H1 locs1) (hz : H1.size ≤ s.heap.size + (h.1 - s.heap.size)) : z_St G mt d p s m args meth c R ss0 H1 locs1 (z_set h a e) := by
  obtain ⟨S1, S2, ⟨Ra, -, Rz1, Rz2, Rx, Rb⟩, S4, S5⟩ := S
  have hz1 := hS1.1
  have hz2 := S5.1
  have hl := (List.getElem?_eq_some_iff.mp hk).1
  refine ⟨S1, S2, ⟨by show H1.size = h.1; omega, ⟨ws.set k (a, e), hP1, hD1, fun b x hb => ?_⟩, Rz1.kept (fun q hq => hS1.2.1 q (by have := S4.2; omega) (Nat.not_le.mpr hq)), Rz2.kept (fun q hq => hS1.2.1 q (by have := S4.2; omega) (Nat.not_le.mpr hq)), Rx.kept (hS1.2.1 _ (by have := S4.2; omega) (Nat.not_le.mpr Rb)), Rb⟩, S4.go hS1, S5⟩
  have hb : va_up h.2.2 a (some e) b = some x := hb
  by_cases hba : b = a
  · subst hba
    rw [va_up_self] at hb
    cases hb
    exact ⟨k, List.getElem?_set_self hl⟩
  · rw [va_up_ne _ _ hba] at hb
    obtain ⟨j, hj⟩ := hcov b x hb
    refine ⟨j, ?_⟩
    have hjk : k ≠ j := fun q => hba (by subst q; rw [hk] at hj; cases hj; rfl)
    rw [List.getElem?_set_ne hjk]
    exact hj
theorem z_nw (S : z_St G mt d p s m args meth c R ss0 H locs h) {n : Nat} {e : va_E} (hc : h.1 + 1 ≤ G.b0 + G.cc) (hn : h.2.1 + n ≤ G.ss) (he : va_at G.D G.cl (h.1, e) H1) (hz : H1.size = h.1 + 1) (ho : ∀ q, q < h.1 → H1[q]? = H[q]?) : z_St G mt d p s m args meth c R ss0 H1 locs (z_new h n e) := by
  obtain ⟨S1, S2, ⟨Ra, ⟨ws, hP, hD, hcov⟩, Rz1, Rz2, Rx, Rb⟩, S4, S5⟩ := S
  have hk : ∀ (k : Nat) (x : Nat × va_E), ws[k]? = some x → H1[x.1]? = H[x.1]? := fun k x hx => ho x.1 (by rw [← Ra]; exact (hP k x hx).lt)
  have hb0 : G.b0 ≤ h.1 := Nat.le_trans S4.2 S5.1
  have hS : va_S (fun q => G.b0 ≤ q) H H1 locs := ⟨by omega, fun q h1 _ => ho q (by omega), S4.1.2.2⟩
  refine ⟨S1, S2, ⟨hz, ⟨ws ++ [(h.1, e)], (hP.kept hk).app (fun k x hx => ?_), hD.push hP Ra.symm hb0, fun b x hb => ?_⟩, Rz1.kept (fun q hq => hS.2.1 q (by omega) (Nat.not_le.mpr hq)), Rz2.kept (fun q hq => hS.2.1 q (by omega) (Nat.not_le.mpr hq)), Rx.kept (hS.2.1 _ (by omega) (Nat.not_le.mpr Rb)), Rb⟩, S4.go hS, ?_⟩
  · have hz : k < 1 := (List.getElem?_eq_some_iff.mp hx).1
    rw [show k = 0 by omega] at hx
    cases hx
    exact he
  · have hb : va_up h.2.2 h.1 (some e) b = some x := hb
    by_cases hba : b = h.1
    · subst hba
      rw [va_up_self] at hb
      cases hb
      exact ⟨ws.length, by simp⟩
    · rw [va_up_ne _ _ hba] at hb
      obtain ⟨j, hj⟩ := hcov b x hb
      exact ⟨j, by rw [List.getElem?_append_left (List.getElem?_eq_some_iff.mp hj).1]; exact hj⟩
  · obtain ⟨t1, t2, t3, t4⟩ := S5
    exact ⟨by show s.heap.size ≤ h.1 + 1; omega, by show ss0 ≤ h.2.1 + n; omega, hc, hn⟩
end ZA
/-- a class of the program: its place, name, fields, types -/
def z_cls (G : z_G) (ci : Nat) (C : String) (T : u_T) (N : Nat) (ty : Nat → FieldType) : Prop :=
  G.cl[ci]? = some (C, T, N) ∧ (∀ w ∈ u_ws C T N, w ∈ G.Ts) ∧ (∀ k, k < N → parseFieldDescriptor (T k).2.2.1 = some (ty k)) ∧ (∀ a, a < N → ∀ b, b < N → a ≠ b → (T a).2.1 ≠ (T b).2.1)
/-- a field that a class's pool names at index -/
def z_lnk (G : z_G) (own : String) (index : Nat) (T : u_T) (k : Nat) : Prop :=
  Cond.fieldLink own index (T k).1 (T k).2.1 (T k).2.2.1 ∈ G.Ts ∨ ∃ host : String, Cond.fieldLinkNest own index (T k).1 (T k).2.1 (T k).2.2.1 host ∈ G.Ts
section ZH
variable {G : z_G} {mt : z_M} {d pc : Nat} {lo : List (Nat × Value)} {st : List Value} {h : z_H} {Q : z_R → z_H → Prop}
theorem z_getf {ci N k idx a : Nat} {C : String} {T : u_T} {ty : Nat → FieldType} {fs : List Value} {v : Value} (K : z_cls G ci C T N ty) (hk : k < N) (L : z_lnk G mt.1.cls idx T k) (hd : decode mt.2.1 pc = .ok (.getfield idx, 3)) (he : h.2.2 a = some (.inr (ci, fs))) (hv : fs[k]? = some v)
    (kk : z_V G mt d (pc + 3) lo (v :: st) h Q) : z_V G mt d pc lo (.ref a :: st) h Q := by
  intro p e s m args below meth c R ss0 H locs ls S hl
  obtain ⟨ws, hP, hD, hcov⟩ := S.2.2.1.2.1
  obtain ⟨q0, hq⟩ := hcov a _ he
  have hts := S.1.2.2.2.1
  rcases L with L | ⟨host, L⟩
  · exact va_get S.1.1.1 S.1.1.2.1 hts K.2.1 S.1.2.1.1 S.1.2.2.1 hP q0 hq K.1 k hk (hts _ L) (fun _ z => z) hv hd (kk p e s m args below meth c R ss0 H locs ls S hl)
  · exact va_getN S.1.1.1 S.1.1.2.1 hts K.2.1 S.1.2.1.1 S.1.2.2.1 hP q0 hq K.1 k hk (hts _ L) (fun _ z => z) hv hd (kk p e s m args below meth c R ss0 H locs ls S hl)
theorem z_putf {ci N k idx a : Nat} {C : String} {T : u_T} {ty : Nat → FieldType} {fs : List Value} {v : Value} (K : z_cls G ci C T N ty) (hk : k < N) (L : z_lnk G mt.1.cls idx T k) (hfin : (T k).2.2.2 = false) (hd : decode mt.2.1 pc = .ok (.putfield idx, 3)) (he : h.2.2 a = some (.inr (ci, fs))) (hn : narrow (ty k) v = v) (hf : fits (ty k) v = true) (hl : k < fs.length)
    (kk : z_V G mt d (pc + 3) lo st (z_set h a (.inr (ci, fs.set k v))) Q) : z_V G mt d pc lo (v :: .ref a :: st) h Q := by
  intro p e s m args below meth c R ss0 H locs ls S hls
  obtain ⟨ws, hP, hD, hcov⟩ := S.2.2.1.2.1
  obtain ⟨q0, hq⟩ := hcov a _ he
  have hts := S.1.2.2.2.1
  rcases L with L | ⟨host, L⟩
  · exact va_put S.1.1.1 S.1.1.2.1 hts K.2.1 ty K.2.2.1 K.2.2.2 S.1.2.1.1 S.1.2.2.1 hP hD (z_rf S) q0 hq K.1 k hk (hts _ L) (fun _ z => z) hfin (K.2.2.1 k hk) hn hf hl hd (fun H1 locs1 hP1 hD1 hS1 => z_sz fun hz => kk p e s m args below meth c R ss0 H1 locs1 ls (z_wr S hD hcov hq hP1 hD1 hS1 hz) hls)
  · exact va_putN S.1.1.1 S.1.1.2.1 hts K.2.1 ty K.2.2.1 K.2.2.2 S.1.2.1.1 S.1.2.2.1 hP hD (z_rf S) q0 hq K.1 k hk (hts _ L) (fun _ z => z) hfin (K.2.2.1 k hk) hn hf hl hd (fun H1 locs1 hP1 hD1 hS1 => z_sz fun hz => kk p e s m args below meth c R ss0 H1 locs1 ls (z_wr S hD hcov hq hP1 hD1 hS1 hz) hls)
theorem z_putF {ci N k idx a : Nat} {C : String} {T : u_T} {ty : Nat → FieldType} {fs : List Value} {v : Value} (K : z_cls G ci C T N ty) (hk : k < N) (L : Cond.fieldLink mt.1.cls idx (T k).1 (T k).2.1 (T k).2.2.1 ∈ G.Ts) (hfin : (T k).2.2.2 = true) (hi : mt.1.name = "<init>") (ho : (T k).1 = mt.1.cls) (hd : decode mt.2.1 pc = .ok (.putfield idx, 3)) (he : h.2.2 a = some (.inr (ci, fs))) (hn : narrow (ty k) v = v) (hf : fits (ty k) v = true) (hl : k < fs.length)
    (kk : z_V G mt d (pc + 3) lo st (z_set h a (.inr (ci, fs.set k v))) Q) : z_V G mt d pc lo (v :: .ref a :: st) h Q := by
  intro p e s m args below meth c R ss0 H locs ls S hls
  obtain ⟨ws, hP, hD, hcov⟩ := S.2.2.1.2.1
  obtain ⟨q0, hq⟩ := hcov a _ he
  have hts := S.1.2.2.2.1
  exact va_putF S.1.1.1 S.1.1.2.1 hts K.2.1 ty K.2.2.1 K.2.2.2 S.1.2.1.1 S.1.2.2.1 hP hD (z_rf S) q0 hq K.1 k hk (hts _ L) (fun _ z => z) hfin (S.1.2.1.2.2.1.trans hi) ho (K.2.2.1 k hk) hn hf hl hd (fun H1 locs1 hP1 hD1 hS1 => z_sz fun hz => kk p e s m args below meth c R ss0 H1 locs1 ls (z_wr S hD hcov hq hP1 hD1 hS1 hz) hls)
theorem z_iald {t0 a n : Nat} {cA : ClassId} {f : Nat → Int32} {i : Int32} (hd : decode mt.2.1 pc = .ok (.iaload, 1)) (ht : G.tys[t0]? = some (cA, .int)) (he : h.2.2 a = some (.inl (cA, n, .inl f))) (hin : vp_in i n)
    (kk : z_V G mt d (pc + 1) lo (.int (f i.toNatClampNeg) :: st) h Q) : z_V G mt d pc lo (.int i :: .ref a :: st) h Q := by
  intro p e s m args below meth c R ss0 H locs ls S hl
  obtain ⟨ws, hP, hD, hcov⟩ := S.2.2.1.2.1
  obtain ⟨q0, hq⟩ := hcov a _ he
  exact va_iald S.1.1.1 S.1.1.2.1 S.1.2.2.1 hP q0 t0 hq ht hin hd (kk p e s m args below meth c R ss0 H locs ls S hl)
theorem z_zald {t0 a n : Nat} {cA : ClassId} {f : Nat → Int32} {i : Int32} (hd : decode mt.2.1 pc = .ok (.baload, 1)) (ht : G.tys[t0]? = some (cA, .boolean)) (he : h.2.2 a = some (.inl (cA, n, .inl f))) (hin : vp_in i n)
    (kk : z_V G mt d (pc + 1) lo (.int (f i.toNatClampNeg) :: st) h Q) : z_V G mt d pc lo (.int i :: .ref a :: st) h Q := by
  intro p e s m args below meth c R ss0 H locs ls S hl
  obtain ⟨ws, hP, hD, hcov⟩ := S.2.2.1.2.1
  obtain ⟨q0, hq⟩ := hcov a _ he
  exact va_zald S.1.1.1 S.1.1.2.1 S.1.2.2.1 hP q0 t0 hq ht hin hd (kk p e s m args below meth c R ss0 H locs ls S hl)
theorem z_lald {t0 a n : Nat} {cA : ClassId} {f : Nat → Int64} {i : Int32} (hd : decode mt.2.1 pc = .ok (.laload, 1)) (ht : G.tys[t0]? = some (cA, .long)) (he : h.2.2 a = some (.inl (cA, n, .inr (.inl f)))) (hin : vp_in i n)
    (kk : z_V G mt d (pc + 1) lo (.long (f i.toNatClampNeg) :: st) h Q) : z_V G mt d pc lo (.int i :: .ref a :: st) h Q := by
  intro p e s m args below meth c R ss0 H locs ls S hl
  obtain ⟨ws, hP, hD, hcov⟩ := S.2.2.1.2.1
  obtain ⟨q0, hq⟩ := hcov a _ he
  exact va_lald S.1.1.1 S.1.1.2.1 S.1.2.2.1 hP q0 t0 hq ht hin hd (kk p e s m args below meth c R ss0 H locs ls S hl)
theorem z_aald {t0 a n x : Nat} {cA : ClassId} {C : String} {f : Nat → Option Nat} {i : Int32} (hd : decode mt.2.1 pc = .ok (.aaload, 1)) (ht : G.tys[t0]? = some (cA, .object C)) (he : h.2.2 a = some (.inl (cA, n, .inr (.inr (.inr (.inr f)))))) (hin : vp_in i n) (hx : f i.toNatClampNeg = some x)
    (kk : z_V G mt d (pc + 1) lo (.ref x :: st) h Q) : z_V G mt d pc lo (.int i :: .ref a :: st) h Q := by
  intro p e s m args below meth c R ss0 H locs ls S hl
  obtain ⟨ws, hP, hD, hcov⟩ := S.2.2.1.2.1
  obtain ⟨q0, hq⟩ := hcov a _ he
  refine va_aldq S.1.1.1 S.1.1.2.1 S.1.2.2.1 hP q0 t0 hq ht hin hd ?_
  rw [hx]
  exact kk p e s m args below meth c R ss0 H locs ls S hl
theorem z_alen {t0 a : Nat} {cA : ClassId} {x : vp_A} {ty : FieldType} {v : Int32} (hd : decode mt.2.1 pc = .ok (.arraylength, 1)) (ht : G.tys[t0]? = some (cA, ty)) (he : h.2.2 a = some (.inl (cA, x))) (hv : Int32.ofNat x.1 = v)
    (kk : z_V G mt d (pc + 1) lo (.int v :: st) h Q) : z_V G mt d pc lo (.ref a :: st) h Q := by
  intro p e s m args below meth c R ss0 H locs ls S hl
  obtain ⟨ws, hP, hD, hcov⟩ := S.2.2.1.2.1
  obtain ⟨q0, hq⟩ := hcov a _ he
  exact va_alen S.1.1.1 S.1.1.2.1 S.1.2.2.1 hP q0 t0 hq ht hv hd (kk p e s m args below meth c R ss0 H locs ls S hl)
theorem z_sld {i : Int32} (hd : decode mt.2.1 pc = .ok (.iaload, 1)) (hin : vp_in i G.x.2.1) (kk : z_V G mt d (pc + 1) lo (.int (G.x.2.2 i.toNatClampNeg) :: st) h Q) : z_V G mt d pc lo (.int i :: .ref G.x.1 :: st) h Q := by
  intro p e s m args below meth c R ss0 H locs ls S hl
  obtain ⟨scr, h1, h2, h3, h4, h5⟩ := S.2.2.1.2.2.2.2.1
  have hlt : i.toNatClampNeg < G.x.2.1 := Nat.not_le.mp fun q => hin (Or.inr q)
  exact W.iald (v := .int (G.x.2.2 i.toNatClampNeg)) S.1.1.1 S.1.1.2.1 h1 h2 h3 (by rw [h4]; exact hin) (h5 _ hlt) rfl rfl hd (kk p e s m args below meth c R ss0 H locs ls S hl)
theorem z_slen (hd : decode mt.2.1 pc = .ok (.arraylength, 1)) (kk : z_V G mt d (pc + 1) lo (.int (Int32.ofNat G.x.2.1) :: st) h Q) : z_V G mt d pc lo (.ref G.x.1 :: st) h Q := by
  intro p e s m args below meth c R ss0 H locs ls S hl
  obtain ⟨scr, h1, h2, h3, h4, h5⟩ := S.2.2.1.2.2.2.2.1
  exact W.alen (n := Int32.ofNat G.x.2.1) S.1.1.1 S.1.1.2.1 h1 h2 (by rw [h4] <;> rfl) rfl rfl hd (kk p e s m args below meth c R ss0 H locs ls S hl)
theorem z_iast {t0 a n : Nat} {cA : ClassId} {f : Nat → Int32} {i x : Int32} (hd : decode mt.2.1 pc = .ok (.iastore, 1)) (ht : G.tys[t0]? = some (cA, .int)) (he : h.2.2 a = some (.inl (cA, n, .inl f))) (hin : vp_in i n)
    (kk : z_V G mt d (pc + 1) lo st (z_set h a (.inl (cA, n, .inl (upd f i.toNatClampNeg x)))) Q) : z_V G mt d pc lo (.int x :: .int i :: .ref a :: st) h Q := by
  intro p e s m args below meth c R ss0 H locs ls S hl
  obtain ⟨ws, hP, hD, hcov⟩ := S.2.2.1.2.1
  obtain ⟨q0, hq⟩ := hcov a _ he
  exact va_iast S.1.1.1 S.1.1.2.1 S.1.2.2.1 hP hD (z_rf S) q0 t0 hq ht hin hd (fun H1 locs1 hP1 hD1 hS1 => z_sz fun hz => kk p e s m args below meth c R ss0 H1 locs1 ls (z_wr S hD hcov hq hP1 hD1 hS1 hz) hl)
theorem z_zast {t0 a n : Nat} {cA : ClassId} {f : Nat → Int32} {i x : Int32} (hd : decode mt.2.1 pc = .ok (.bastore, 1)) (ht : G.tys[t0]? = some (cA, .boolean)) (he : h.2.2 a = some (.inl (cA, n, .inl f))) (hin : vp_in i n)
    (kk : z_V G mt d (pc + 1) lo st (z_set h a (.inl (cA, n, .inl (upd f i.toNatClampNeg (vp_nar .boolean x))))) Q) : z_V G mt d pc lo (.int x :: .int i :: .ref a :: st) h Q := by
  intro p e s m args below meth c R ss0 H locs ls S hl
  obtain ⟨ws, hP, hD, hcov⟩ := S.2.2.1.2.1
  obtain ⟨q0, hq⟩ := hcov a _ he
  exact va_zast S.1.1.1 S.1.1.2.1 S.1.2.2.1 hP hD (z_rf S) q0 t0 hq ht hin hd (fun H1 locs1 hP1 hD1 hS1 => z_sz fun hz => kk p e s m args below meth c R ss0 H1 locs1 ls (z_wr S hD hcov hq hP1 hD1 hS1 hz) hl)
theorem z_last {t0 a n : Nat} {cA : ClassId} {f : Nat → Int64} {i : Int32} {x : Int64} (hd : decode mt.2.1 pc = .ok (.lastore, 1)) (ht : G.tys[t0]? = some (cA, .long)) (he : h.2.2 a = some (.inl (cA, n, .inr (.inl f)))) (hin : vp_in i n)
    (kk : z_V G mt d (pc + 1) lo st (z_set h a (.inl (cA, n, .inr (.inl (vp_updL f i.toNatClampNeg x))))) Q) : z_V G mt d pc lo (.long x :: .int i :: .ref a :: st) h Q := by
  intro p e s m args below meth c R ss0 H locs ls S hl
  obtain ⟨ws, hP, hD, hcov⟩ := S.2.2.1.2.1
  obtain ⟨q0, hq⟩ := hcov a _ he
  exact va_last S.1.1.1 S.1.1.2.1 S.1.2.2.1 hP hD (z_rf S) q0 t0 hq ht hin hd (fun H1 locs1 hP1 hD1 hS1 => z_sz fun hz => kk p e s m args below meth c R ss0 H1 locs1 ls (z_wr S hD hcov hq hP1 hD1 hS1 hz) hl)
theorem z_aast {t0 a n x ci N : Nat} {cA : ClassId} {C : String} {T : u_T} {ty : Nat → FieldType} {fs : List Value} {f : Nat → Option Nat} {i : Int32} (K : z_cls G ci C T N ty) (hd : decode mt.2.1 pc = .ok (.aastore, 1)) (ht : G.tys[t0]? = some (cA, .object C)) (he : h.2.2 a = some (.inl (cA, n, .inr (.inr (.inr (.inr f)))))) (hx : h.2.2 x = some (.inr (ci, fs))) (hin : vp_in i n)
    (kk : z_V G mt d (pc + 1) lo st (z_set h a (.inl (cA, n, .inr (.inr (.inr (.inr (va_up f i.toNatClampNeg (some x)))))))) Q) : z_V G mt d pc lo (.ref x :: .int i :: .ref a :: st) h Q := by
  intro p e s m args below meth c R ss0 H locs ls S hl
  obtain ⟨ws, hP, hD, hcov⟩ := S.2.2.1.2.1
  obtain ⟨q0, hq⟩ := hcov a _ he
  obtain ⟨q1, hq1⟩ := hcov x _ hx
  exact va_astq S.1.1.1 S.1.1.2.1 S.1.2.2.1 hP hD (z_rf S) q0 t0 q1 ci (r := (C, T, N)) hq ht hq1 K.1 hin hd (fun H1 locs1 hP1 hD1 hS1 => z_sz fun hz => kk p e s m args below meth c R ss0 H1 locs1 ls (z_wr S hD hcov hq hP1 hD1 hS1 hz) hl)
theorem z_copy {t0 a0 a n0 n1 idx : Nat} {cA : ClassId} {f g : Nat → Int32} {sp dp n : Int32} (hd : decode mt.2.1 pc = .ok (.invokestatic idx, 3)) (ht : G.tys[t0]? = some (cA, .int)) (w1 : Cond.methodLink mt.1.cls idx arraycopyName ∈ G.Ts) (w2 : Cond.native arraycopyName ∈ G.Ts) (w3 : Cond.static arraycopyName ∈ G.Ts) (w4 : Cond.initialized "java/lang/System" ∈ G.Ts)
    (he0 : h.2.2 a0 = some (.inl (cA, n0, .inl f))) (he : h.2.2 a = some (.inl (cA, n1, .inl g))) (h1 : ¬ sp < 0) (h2 : ¬ dp < 0) (h3 : ¬ n < 0) (h4 : sp.toNatClampNeg + n.toNatClampNeg ≤ n0) (h5 : dp.toNatClampNeg + n.toNatClampNeg ≤ n1)
    (hst : (st.map fun v => v.category).sum + (nativeFrameWords "java/lang/System" "arraycopy" 5 + 11) ≤ 150)
    (kk : z_V G mt d (pc + 3) lo st (z_set h a (.inl (cA, n1, .inl (va_cpy f g sp.toNatClampNeg dp.toNatClampNeg n.toNatClampNeg)))) Q) : z_V G mt d pc lo (.int n :: .int dp :: .ref a :: .int sp :: .ref a0 :: st) h Q := by
  intro p e s m args below meth c R ss0 H locs ls S hl
  obtain ⟨ws, hP, hD, hcov⟩ := S.2.2.1.2.1
  obtain ⟨q0, hq0⟩ := hcov a0 _ he0
  obtain ⟨q1, hq⟩ := hcov a _ he
  have hts := S.1.2.2.2.1
  have hR := S.2.1
  exact va_copyi S.1.1.1 S.1.1.2.1 (S.1.1.2.2.1.trans hl.1.symm) S.1.2.1.1 (hts _ w1) (hts _ w2) (hts _ w3) (hts _ w4) S.1.2.2.1 hP hD (z_rf S) q0 q1 t0 t0 hq0 hq ht ht rfl h1 h2 h3 h4 h5 (fun _ _ => rfl) (by omega) (by omega) hd (fun H1 locs1 hP1 hD1 hS1 => z_sz fun hz => kk p e s m args below meth c R ss0 H1 locs1 ls (z_wr S hD hcov hq hP1 hD1 hS1 hz) hl)
theorem z_newo {ci N idx : Nat} {C : String} {T : u_T} {ty : Nat → FieldType} {fs : List Value} (K : z_cls G ci C T N ty) (hd : decode mt.2.1 pc = .ok (.new idx, 3)) (w1 : Cond.classLink mt.1.cls idx C ∈ G.Ts) (w2 : Cond.instantiable C N ∈ G.Ts) (w3 : Cond.initialized C ∈ G.Ts) (hfs : ∀ j, j < N → defaultValue (ty j) = vp_V fs j) (hc : h.1 + 1 ≤ G.b0 + G.cc) (hs : h.2.1 + N ≤ G.ss)
    (kk : z_V G mt d (pc + 3) lo (.ref h.1 :: st) (z_new h N (.inr (ci, fs))) Q) : z_V G mt d pc lo st h Q := by
  intro p e s m args below meth c R ss0 H locs ls S hl
  have hts := S.1.2.2.2.1
  have hR := S.2.1
  have hZ := S.2.2.2.2
  have hKn := S.1.2.2.1.1 ci _ K.1
  refine W.newcK S.1.1.1 S.1.1.2.1 S.1.2.1.1 (hts _ w1) (hts _ w2) (hts _ w3) rfl hd (by omega) (by omega) hKn.2.1 S.2.2.1.1 fun H1 kC hkC e1 z1 o1 => ?_
  refine W.cs (cells' := h.1 + 1 - s.heap.size) (slots' := h.2.1 + N - ss0) (by omega) (by omega) ?_
  exact kk p e s m args below meth c R ss0 H1 locs ls (z_nw S hc hs ⟨_, K.1, (u_born ty hts K.2.1 hKn hkC e1 K.2.2.1).to hfs⟩ z1 o1) hl
theorem z_newa {t0 N' : Nat} {cA : ClassId} {atype : ArrayType} {ty : FieldType} {n : Int32} {a0 : vp_A} (hd : decode mt.2.1 pc = .ok (.newarray atype, 2)) (hty : newarray.typeOf atype = ty) (w1 : Cond.arrayClass ty ∈ G.Ts) (ht : G.tys[t0]? = some (cA, ty)) (hra : ∀ (U : State) (x : ClassId), va_RA U x ty → U.vm.findClass ("[" ++ ty.toString) = some x) (ha : ∀ x : ClassId, vp_cell x a0 = arrV x N' (fun _ => defaultValue ty)) (hn : ¬ n < 0) (hN : n.toNatClampNeg = N') (hby : N' * componentBytes ty ≤ 536870912) (hc : h.1 + 1 ≤ G.b0 + G.cc) (hs : h.2.1 + N' ≤ G.ss)
    (kk : z_V G mt d (pc + 2) lo (.ref h.1 :: st) (z_new h N' (.inl (cA, a0))) Q) : z_V G mt d pc lo (.int n :: st) h Q := by
  subst hty
  intro p e s m args below meth c R ss0 H locs ls S hl
  have hts := S.1.2.2.2.1
  have hR := S.2.1
  have hZ := S.2.2.2.2
  refine va_newaK S.1.1.1 S.1.1.2.1 (hts _ w1) rfl hd rfl hn hN hby (by omega) (by omega) S.2.2.1.1 fun H1 x e1 z1 o1 hAr hNm => ?_
  have hx : x = cA := Option.some.inj (hNm.symm.trans (hra s cA (S.1.2.2.1.2 t0 _ ht).2))
  subst hx
  refine W.cs (cells' := h.1 + 1 - s.heap.size) (slots' := h.2.1 + N' - ss0) (by omega) (by omega) ?_
  exact kk p e s m args below meth c R ss0 H1 locs ls (z_nw S hc hs (by show H1[h.1]? = some (vp_cell _ _); rw [ha]; exact e1) z1 o1) hl
theorem z_anew {t0 N' idx : Nat} {cA : ClassId} {C : String} {n : Int32} (hd : decode mt.2.1 pc = .ok (.anewarray idx, 3)) (w1 : Cond.classLink mt.1.cls idx C ∈ G.Ts) (w2 : Cond.arrayOver (.object C) ∈ G.Ts) (ht : G.tys[t0]? = some (cA, .object C)) (hn : ¬ n < 0) (hN : n.toNatClampNeg = N') (hby : N' * 4 ≤ 536870912) (hc : h.1 + 1 ≤ G.b0 + G.cc) (hs : h.2.1 + N' ≤ G.ss)
    (kk : z_V G mt d (pc + 3) lo (.ref h.1 :: st) (z_new h N' (.inl (cA, N', .inr (.inr (.inr (.inr (fun _ => none))))))) Q) : z_V G mt d pc lo (.int n :: st) h Q := by
  subst hN
  intro p e s m args below meth c R ss0 H locs ls S hl
  have hts := S.1.2.2.2.1
  have hR := S.2.1
  have hZ := S.2.2.2.2
  have hz0 : H.size = h.1 := S.2.2.1.1
  refine W.anew S.1.1.1 S.1.1.2.1 S.1.2.1.1 (hts _ w1) (hts _ w2) rfl hd rfl hn hby (by omega) (by omega) fun x kA comp f1 f2 f3 f4 => ?_
  obtain ⟨-, -, -, -, -, f5⟩ := (S.1.2.2.1.2 t0 _ ht).2
  have hx : x = cA := Option.some.inj (f1.symm.trans f5)
  subst hx
  generalize hH1 : H.push ({ cls := x, slots := Array.replicate n.toNatClampNeg .null, vm := .none } : Cell) = H1
  have z1 : H1.size = h.1 + 1 := by rw [← hH1, Array.size_push, hz0]
  have e1 : H1[h.1]? = some (arrV x n.toNatClampNeg (fun _ => .null)) := by rw [← hH1, ← hz0, Array.getElem?_push_size, ← arrV_new]
  have o1 : ∀ q : Nat, q < h.1 → H1[q]? = H[q]? := fun q hq => by rw [← hH1, Array.getElem?_push, if_neg (by omega)]
  rw [hz0]
  refine W.cs (cells' := h.1 + 1 - s.heap.size) (slots' := h.2.1 + n.toNatClampNeg - ss0) (by omega) (by omega) ?_
  exact kk p e s m args below meth c R ss0 H1 locs ls (z_nw S hc hs (by show H1[h.1]? = some (vp_cell _ _); rw [vp_cell_q]; exact e1) z1 o1) hl
theorem z_oinit {a idx : Nat} (hd : decode mt.2.1 pc = .ok (.invokespecial idx, 3)) (w1 : Cond.methodLink mt.1.cls idx Lib.objectInit ∈ G.Ts) (w2 : Cond.instanceMethod Lib.objectInit ∈ G.Ts) (w3 : Cond.code Lib.objectInit ⟨#[0xb1]⟩ 1 none ∈ G.Ts) (hst : (st.map fun v => v.category).sum ≤ 8)
    (kk : z_V G mt d (pc + 3) lo st h Q) : z_V G mt d pc lo (.ref a :: st) h Q := by
  intro p e s m args below meth c R ss0 H locs ls S hl
  have hts := S.1.2.2.2.1
  have hR := S.2.1
  exact W.objInit S.1.1.1 S.1.1.2.1 S.1.2.1.1 (hts _ w1) (hts _ w2) (hts _ w3) rfl (hl.1.trans S.1.1.2.2.1.symm) rfl hd (by omega) (by show 2 * 0 + _ + 12 ≤ _; omega) (kk p e s m args below meth c R ss0 H locs ls S hl)
end ZH
end
section
/-! calls, and exceptions -/
theorem z_under {tb : Tables} {e : Env} {g : JFrame} {below : List Frame} {a b : State} (h : Steps tb e (.java g :: below) a b) : Steps tb e below a b := by
  obtain ⟨n, h1, h2⟩ := h
  refine ⟨n, h1, fun k hk => ?_⟩
  obtain ⟨ab, e1, e2, e3⟩ := h2 k hk
  refine ⟨ab ++ [.java g], by rw [e1]; simp, by simp, fun x q => ?_⟩
  cases ab with
  | nil => exact e2 rfl
  | cons y t => simp at q
/-- the method's own code stands in the tables -/
def z_cd (G : z_G) (mt : z_M) : Prop := (mt.2.2.2.2 = [] ∧ Cond.code mt.1 mt.2.1 mt.2.2.1 mt.2.2.2.1 ∈ G.Ts) ∨ Cond.codeWith mt.1 mt.2.1 mt.2.2.1 mt.2.2.2.1 mt.2.2.2.2 ∈ G.Ts
theorem z_cd.spec {G : z_G} {mt : z_M} (hc : z_cd G mt) {args : Array Value} {s : State} (hts : ∀ w ∈ G.Ts, w.before args s = true) :
    ∃ (mk : MethodId) (meth : Method) (c : Code), s.methodNamed? mt.1 = some mk ∧ s.vm.method? mk = some meth ∧ meth.code = some c ∧ c.code = mt.2.1 ∧ c.maxLocals = mt.2.2.1 ∧ meth.sig.returnType = mt.2.2.2.1 ∧ meth.locks = false ∧
      c.exceptionTable.toList.map (fun h => (h.startPc, h.endPc, h.handlerPc, h.catchType)) = mt.2.2.2.2 ∧ parseMethodDescriptor mt.1.desc = some meth.sig := by
  rcases hc with ⟨h0, hc⟩ | hc
  · have hw := hts _ hc
    obtain ⟨mk, hn⟩ := Cond.code_named hw
    obtain ⟨meth, c, h1, h2, h3, h4, h5, h6, h7, h8⟩ := Cond.code_spec hn hw
    refine ⟨mk, meth, c, hn, h1, h2, h3, h4, h5, h6, ?_, h8⟩
    have h9 : c.exceptionTable.size = 0 := by simpa [Array.isEmpty] using h7
    have h10 : c.exceptionTable.toList = [] := List.eq_nil_of_length_eq_zero (by simpa using h9)
    rw [h10, h0]
    rfl
  · obtain ⟨mk, meth, c, hn, h1, h2, h3, h4, h5, h6, h7, h8⟩ := Cond.codeWith_spec (hts _ hc)
    exact ⟨mk, meth, c, hn, h1, h2, h3, h4, h6, h7, h5, h8⟩
section ZC
variable {p : Program} {e : Env} {R : Room} {s : State} {m : MethodId} {args : Array Value} {below : List Frame} {meth : Method} {c : Code} {T : State} {locs : List Loc} {ss0 : Nat}
variable {G : z_G} {mt mtY : z_M} {d dY : Nat} {h : z_H} {as : List Value} {QY : z_R → z_H → Prop}
theorem z_Out.moved {r : z_R} {o : Outcome} {U : State} {H : Heap} (hvm : s.vm.Alike U.vm) (h : z_Out r o U H) : z_Out r o s H := by
  cases r with
  | inl v => exact h
  | inr X =>
    obtain ⟨a, ce, h1, h2, h3, h4⟩ := h
    exact ⟨a, ce, h1, h2, h3, by rw [← hvm.findClass]; exact h4⟩
theorem z_core (X : Stand p G.l e R s m args below meth c T locs (h.1 - s.heap.size) (h.2.1 - ss0)) (S : z_St G mt d p s m args meth c R ss0 T.heap locs h)
    (hM : z_C G mtY dY as h QY) (hdp : dY + 1 ≤ d) (hmx : mtY.2.2.1 ≤ 16) (hcd : z_cd G mtY) (hpl : plainName mtY.1.cls = true)
    {g : JFrame} (hg : g.method = m) (hsize : g.locals.size = c.maxLocals) {ig : Instr} {len : Nat} (hdg : decode c.code g.pc = .ok (ig, len)) (hw : 2 * g.monitorRoom + (g.stack.map fun v => v.category).sum ≤ 8)
    {mk : MethodId} (hmk : s.methodNamed? mtY.1 = some mk) :
    ∃ (o : Outcome) (r : z_R) (h' : z_H) (T' : State) (locs' : List Loc), QY r h' ∧ z_Out r o s T'.heap ∧ Stand p G.l e R s m args below meth c T' locs' (h'.1 - s.heap.size) (h'.2.1 - ss0) ∧ z_St G mt d p s m args meth c R ss0 T'.heap locs' h' ∧
      ∀ acts, Steps p.tables e below (doInvoke e (T.setTop g) acts mk as.toArray).1 (match o with | .returned v => T'.setTop { g with pc := g.pc + len, stack := v.toList ++ g.stack } | .threw a => (T'.setTop g).pushFrame (.throwing a)) := by
  obtain ⟨S1, ⟨r1, r2, r3, r4⟩, ⟨Ra, ⟨ws, hP, hD, hcov⟩, Rz1, Rz2, Rx, Rb⟩, S4, S5⟩ := id S
  obtain ⟨s5a, s5b, s5c, s5d⟩ := S5
  have hts : ∀ w ∈ G.Ts, w.before args s = true := S1.2.2.2.1
  have hmv : ∀ w ∈ G.Ts, z_mv w = true := S1.2.2.2.2.1
  have htsT : ∀ w ∈ G.Ts, w.before as.toArray T = true := fun w hw => z_move (hmv w hw) X.warmed (hts w hw)
  obtain ⟨mk', methY, cY, hnY, hmY, hcY, hbY, hlY, hrY, hkY, htY, -⟩ := hcd.spec htsT
  have hnS : T.methodNamed? mtY.1 = some mk := X.named hmk
  cases hnY.symm.trans hnS
  have hplain : T.plainMethod mk := State.plainMethod.of_named (plainFor_of_name hpl) hnS hmY
  obtain ⟨Y, hin⟩ := X.into hg hsize hdg as.toArray (R' := { frames := R.frames - 1, cells := G.b0 + G.cc - h.1, slots := G.ss - h.2.1, locals := R.locals - 35 }) hmY hcY hkY hplain (by show R.frames - 1 + 1 ≤ R.frames; omega) (by show _ + (R.locals - 35) ≤ R.locals; rw [hlY]; omega) (by show _ + (G.b0 + G.cc - h.1) ≤ R.cells; omega) (by show _ + (G.ss - h.2.1) ≤ R.slots; omega)
  have hal : s.vm.Alike T.vm := X.warmed.alike
  have S' : z_St G mtY dY p (T.calling g mk as.toArray) mk as.toArray methY cY { frames := R.frames - 1, cells := G.b0 + G.cc - h.1, slots := G.ss - h.2.1, locals := R.locals - 35 } h.2.1 (T.calling g mk as.toArray).heap [] h := by
    refine ⟨⟨⟨S1.1.1, hbY, hlY, hrY⟩, ⟨findClass_of_methodNamed hnS, hkY, (name_of_methodNamed hnS hmY).1, htY⟩, va_K.moved (u := s) (U := T.calling g mk as.toArray) hal S1.2.2.1, fun w hw => ?_, hmv, S1.2.2.2.2.2⟩, ⟨by show dY + 6 ≤ R.frames - 1; omega, by show 35 * dY + 150 ≤ R.locals - 35; omega, ?_, ?_⟩, ⟨Ra, ⟨ws, hP, hD, hcov⟩, Rz1.moved hal, Rz2.moved hal, Rx.moved hal, Rb⟩, ⟨va_S.rf, ?_⟩, ?_, Nat.le_refl _, s5c, s5d⟩
    · exact z_move (U := T.calling g mk as.toArray) (hmv w hw) X.warmed (hts w hw)
    · show G.b0 + G.cc ≤ T.heap.size + (G.b0 + G.cc - h.1)
      omega
    · show G.ss ≤ h.2.1 + (G.ss - h.2.1)
      omega
    · show G.b0 ≤ T.heap.size
      have := S4.2
      omega
    · show T.heap.size ≤ h.1
      omega
  obtain ⟨t, hst, o, r, h', hq, hrun, hended, hW, ⟨L, hsame, hL⟩, hRel, hlow, ⟨u1, u2, u3, u4⟩, hout⟩ := hM p e (T.calling g mk as.toArray) mk (.java g :: below) methY cY _ S' ((T.setTop g).pushFrame (.java (entryFrame mk as.toArray cY.maxLocals))) rfl Y
  have hzT : (T.calling g mk as.toArray).heap.size = h.1 := Ra
  have hst2 : ∀ acts, Steps p.tables e below (doInvoke e (T.setTop g) acts mk as.toArray).1 t := fun acts => by
    rw [hin acts]
    rw [← hlY] at hst
    exact z_under hst
  have hcl : h.1 - s.heap.size + (h'.1 - (T.calling g mk as.toArray).heap.size) = h'.1 - s.heap.size := by rw [hzT] at u1 ⊢; omega
  have hsl : h.2.1 - ss0 + (h'.2.1 - h.2.1) = h'.2.1 - ss0 := by omega
  have hSt : ∀ T' : State, T'.heap = t.heap → z_St G mt d p s m args meth c R ss0 T'.heap (locs ++ L) h' := by
    intro T' hT'
    rw [hT']
    obtain ⟨q1, q2, q3, q4, q5, q6⟩ := hRel
    refine ⟨S1, ⟨r1, r2, r3, r4⟩, ⟨q1, q2, q3.moved (u := T.calling g mk as.toArray) (U := s) hal.symm, q4.moved (u := T.calling g mk as.toArray) (U := s) hal.symm, q5.moved (u := T.calling g mk as.toArray) (U := s) hal.symm, q6⟩, ⟨⟨?_, fun q g1 g2 => ?_, fun x hx => ?_⟩, S4.2⟩, ?_, by omega, u3, u4⟩
    · rw [hzT] at u1; omega
    · have hq' : q < G.b0 := Nat.not_le.mp g2
      exact (hlow q hq').trans (S4.1.2.1 q g1 g2)
    · rcases List.mem_append.mp hx with hx | hx
      · exact S4.1.2.2 x hx
      · exact hL x hx
    · rw [hzT] at u1; omega
  cases o with
  | returned v =>
    obtain ⟨T', X', -, -, rfl⟩ := X.outOf hg hdg hended hW hsame
    rw [hcl, hsl] at X'
    exact ⟨.returned v, r, h', T', locs ++ L, hq, z_Out.moved (U := T.calling g mk as.toArray) hal hout, X', hSt T' rfl, hst2⟩
  | threw a =>
    obtain ⟨T', X', -, -, rfl⟩ := X.outOfThrown hg hended hW hsame
    rw [hcl, hsl] at X'
    exact ⟨.threw a, r, h', T', locs ++ L, hq, z_Out.moved (U := T.calling g mk as.toArray) hal hout, X', hSt T' rfl, hst2⟩
end ZC
section ZK
variable {G : z_G} {mt mtY : z_M} {d dY pc : Nat} {lo : List (Nat × Value)} {st : List Value} {h : z_H} {Q QY : z_R → z_H → Prop} {as : List Value}
theorem z_noh {c : Code} (hh : c.exceptionTable.toList.map (fun h => (h.startPc, h.endPc, h.handlerPc, h.catchType)) = []) (pc : Nat) : ∀ x ∈ c.exceptionTable.toList, covers x pc = false := by
  have h1 : c.exceptionTable.toList = [] := List.map_eq_nil_iff.mp hh
  intro x hx
  rw [h1] at hx
  cases hx
theorem z_after {p : Program} {e : Env} {R : Room} {s : State} {m : MethodId} {args : Array Value} {below : List Frame} {meth : Method} {c : Code} {T : State} {vm₁ : Vm} {locs : List Loc} {ss0 : Nat} {ls : Array Slot} {st0 : List Value} {ig : Instr} {mk : MethodId}
    (hd : decode mt.2.1 pc = .ok (ig, 3)) (hh : mt.2.2.2.2 = []) (hdp : dY + 1 ≤ d) (hmx : mtY.2.2.1 ≤ 16) (hcd : z_cd G mtY) (hpl : plainName mtY.1.cls = true) (hst : (st.map fun v => v.category).sum ≤ 8) (hM : z_C G mtY dY as h QY)
    (kr : ∀ v h', QY (.inl v) h' → z_V G mt d (pc + 3) lo (v.toList ++ st) h' Q) (kx : ∀ X h', QY (.inr X) h' → Q (.inr X) h')
    (S : z_St G mt d p s m args meth c R ss0 T.heap locs h) (hl : lv_has ls mt.2.2.1 lo) (X : Stand p G.l e R s m args below meth c (T.setVm vm₁) locs (h.1 - s.heap.size) (h.2.1 - ss0)) (hmk : s.methodNamed? mtY.1 = some mk)
    (hstep : ∀ target, (∀ acts, Steps p.tables e below (doInvoke e ((T.setVm vm₁).setTop (F0 m pc ls st)) acts mk as.toArray).1 target) → Steps p.tables e below (T.setTop (F0 m pc ls st0)) target) :
    ∃ t, Steps p.tables e below (T.setTop (F0 m pc ls st0)) t ∧ z_End G s below ss0 Q t := by
  obtain ⟨o, r, h', T', locs', hq, hout, X', S', hs⟩ := z_core (T := T.setVm vm₁) X S hM hdp hmx hcd hpl (g := F0 m pc ls st) rfl (hl.1.trans S.1.1.2.2.1.symm) (by rw [S.1.1.2.1]; exact hd) (by show 2 * 0 + (st.map fun v => v.category).sum ≤ 8; omega) hmk
  cases r with
  | inl v =>
    obtain rfl : o = .returned v := hout
    obtain ⟨t, a, b⟩ := kr v h' hq p e s m args below meth c R ss0 T'.heap locs' ls S' hl T' rfl X'
    exact ⟨t, hstep t (fun acts => (hs acts).trans a), b⟩
  | inr Xc =>
    obtain ⟨a, ce, rfl, hce, hcv, hcc⟩ := hout
    have hlocks : meth.locks = false := S.1.2.1.2.1
    obtain ⟨hwalk, hrun, hended, hW, hsame⟩ := X'.leaveThrown a (g := F0 m pc ls st) rfl rfl rfl (z_noh (S.1.2.1.2.2.2.trans hh) _)
    refine ⟨T'.setFrames (.throwing a :: below), hstep _ (fun acts => (hs acts).trans hwalk), .threw a, .inr Xc, h', kx Xc h' hq, hrun, hended, hW, ⟨locs', hsame, S'.2.2.2.1.1.2.2⟩, S'.2.2.1, fun q hq2 => ?_, S'.2.2.2.2, a, ce, rfl, hce, hcv, hcc⟩
    exact S'.2.2.2.1.1.2.1 q (Nat.lt_of_lt_of_le hq2 S'.2.2.2.1.2) (Nat.not_le.mpr hq2)
/-- what the tables say of a method that a class's pool names at index -/
def z_Yb (G : z_G) (own : String) (idx : Nat) (mtY : z_M) (n : Nat) : Prop := z_cd G mtY ∧ plainName mtY.1.cls = true ∧ mtY.2.2.1 ≤ 16 ∧ ((mtY.1.cls ≠ "java/lang/invoke/MethodHandle" ∧ mtY.1.cls ≠ "java/lang/invoke/VarHandle") ∧ (parseMethodDescriptor mtY.1.desc).map (fun d => d.parameters.length) = some n) ∧
  (Cond.methodLink own idx mtY.1 ∈ G.Ts ∨ ∃ host : String, Cond.methodLinkNest own idx mtY.1 host ∈ G.Ts)
def z_Yv (G : z_G) (own : String) (idx : Nat) (mtY : z_M) (n : Nat) : Prop := z_Yb G own idx mtY n ∧ Cond.instanceMethod mtY.1 ∈ G.Ts ∧ Cond.selects mtY.1.cls mtY.1 mtY.1 ∈ G.Ts
def z_Ys (G : z_G) (own : String) (idx : Nat) (mtY : z_M) (n : Nat) : Prop := z_Yb G own idx mtY n ∧ Cond.static mtY.1 ∈ G.Ts ∧ Cond.initialized mtY.1.cls ∈ G.Ts
def z_Yi (G : z_G) (own : String) (idx : Nat) (mtY : z_M) : Prop := z_Yb G own idx mtY 0 ∧ mtY.1.name = "<init>" ∧ mtY.2.2.2.1 = none ∧ mtY.2.2.2.2 = [] ∧ Cond.code mtY.1 mtY.2.1 mtY.2.2.1 none ∈ G.Ts ∧ Cond.instanceMethod mtY.1 ∈ G.Ts
theorem z_callV {b ci N idx n : Nat} {T : u_T} {fs : List Value} (hd : decode mt.2.1 pc = .ok (.invokevirtual idx, 3)) (hh : mt.2.2.2.2 = []) (hdp : dY + 1 ≤ d) (Y : z_Yv G mt.1.cls idx mtY n) (hn : as.length = n) (hb : h.2.2 b = some (.inr (ci, fs))) (hcl : G.cl[ci]? = some (mtY.1.cls, T, N)) (hst : (st.map fun v => v.category).sum ≤ 8) (hM : z_C G mtY dY (.ref b :: as) h QY)
    (kr : ∀ v h', QY (.inl v) h' → z_V G mt d (pc + 3) lo (v.toList ++ st) h' Q) (kx : ∀ X h', QY (.inr X) h' → Q (.inr X) h') : z_V G mt d pc lo (as.reverse ++ .ref b :: st) h Q := by
  intro p e s m args below meth c R ss0 H locs ls S hl T0 hT X
  subst hT
  obtain ⟨⟨hcd, hpl, hmx, ⟨hy, hpd⟩, hL⟩, hw1, hw2⟩ := Y
  have hts : ∀ w ∈ G.Ts, w.before args s = true := S.1.2.2.2.1
  obtain ⟨mk, methM, hnamed, hmethM, hstM, habM⟩ := Cond.instanceMethod_spec (hts _ hw1)
  obtain ⟨mk', methY, cY, hnY, hmY, -, -, -, -, -, -, hsig⟩ := hcd.spec hts
  cases hnamed.symm.trans hnY
  cases hmethM.symm.trans hmY
  have hlen : as.length = methM.sig.parameters.length := by
    rw [hsig] at hpd
    exact hn.trans (Option.some.inj hpd).symm
  obtain ⟨c2, r2, m2, q1, q2, q3, q4, kP, hkP, hkPi⟩ := Cond.selects_spec (hts _ hw2)
  obtain ⟨ws, hP, hD, hcov⟩ := S.2.2.1.2.1
  obtain ⟨q0, hq⟩ := hcov b _ hb
  obtain ⟨cellB, hcB, hoB, hclB⟩ := va_recv S.1.2.2.1 hP hcl hq
  cases hclB.symm.trans q1
  cases (State.methodFound?_of_named hnamed hy).symm.trans q2
  cases hnamed.symm.trans q3
  have hselP : selectMethod e.platform s.vm cellB.cls mk = .method mk := by rw [Launch.admits_selectMethod X.admits]; exact q4
  have hdc : decode c.code (F0 m pc ls (as.reverse ++ .ref b :: st)).pc = .ok (.invokevirtual idx, 3) := by rw [S.1.1.2.1]; exact hd
  rcases hL with hL | ⟨host, hL⟩
  · obtain ⟨vm₁, X₁, hstep⟩ := X.invokevirtual S.1.1.1 S.1.2.1.1 (hts _ hL) hnamed hmethM hstM hkP hkPi hy (a := b) (cell := cellB) hcB (fun z hz => by rw [hz] at hoB; cases hoB) hselP hmethM habM hkP hkPi (g := F0 m pc ls (as.reverse ++ .ref b :: st)) rfl (argsL := as) (rest := st) hlen rfl hdc
    exact z_after (as := .ref b :: as) hd hh hdp hmx hcd hpl hst hM kr kx S hl X₁ hnamed hstep
  · obtain ⟨vm₁, X₁, hstep⟩ := X.invokevirtualNest S.1.1.1 S.1.2.1.1 (hts _ hL) hnamed hmethM hstM hkP hkPi hy (a := b) (cell := cellB) hcB (fun z hz => by rw [hz] at hoB; cases hoB) hselP hmethM habM hkP hkPi (g := F0 m pc ls (as.reverse ++ .ref b :: st)) rfl (argsL := as) (rest := st) hlen rfl hdc
    exact z_after (as := .ref b :: as) hd hh hdp hmx hcd hpl hst hM kr kx S hl X₁ hnamed hstep
theorem z_callS {idx n : Nat} (hd : decode mt.2.1 pc = .ok (.invokestatic idx, 3)) (hh : mt.2.2.2.2 = []) (hdp : dY + 1 ≤ d) (Y : z_Ys G mt.1.cls idx mtY n) (hn : as.length = n) (hst : (st.map fun v => v.category).sum ≤ 8) (hM : z_C G mtY dY as h QY)
    (kr : ∀ v h', QY (.inl v) h' → z_V G mt d (pc + 3) lo (v.toList ++ st) h' Q) (kx : ∀ X h', QY (.inr X) h' → Q (.inr X) h') : z_V G mt d pc lo (as.reverse ++ st) h Q := by
  intro p e s m args below meth c R ss0 H locs ls S hl T0 hT X
  subst hT
  obtain ⟨⟨hcd, hpl, hmx, ⟨hy, hpd⟩, hL⟩, hw1, hw2⟩ := Y
  have hts : ∀ w ∈ G.Ts, w.before args s = true := S.1.2.2.2.1
  obtain ⟨mk, methM, cM, hnamed, hmethM, -, -, -, -, -, -, hsig⟩ := hcd.spec hts
  have hstatic : methM.isStatic = true := Cond.static_spec hnamed hmethM (hts _ hw1)
  obtain ⟨kP, hkP, -⟩ := className_of_methodNamed hnamed
  have hinitP : kP.init = .initialized := Cond.initialized_spec (findClass_of_methodNamed hnamed) hkP (hts _ hw2)
  have hlen : as.length = methM.sig.parameters.length := by
    rw [hsig] at hpd
    exact hn.trans (Option.some.inj hpd).symm
  have hdc : decode c.code (F0 m pc ls (as.reverse ++ st)).pc = .ok (.invokestatic idx, 3) := by rw [S.1.1.2.1]; exact hd
  rcases hL with hL | ⟨host, hL⟩
  · obtain ⟨vm₁, X₁, hstep⟩ := X.invokestatic S.1.1.1 S.1.2.1.1 (hts _ hL) hnamed hmethM hstatic hkP hinitP hy (g := F0 m pc ls (as.reverse ++ st)) rfl (argsL := as) (rest := st) hlen rfl hdc
    exact z_after hd hh hdp hmx hcd hpl hst hM kr kx S hl X₁ hnamed hstep
  · obtain ⟨vm₁, X₁, hstep⟩ := X.invokestaticNest S.1.1.1 S.1.2.1.1 (hts _ hL) hnamed hmethM hstatic hkP hinitP hy (g := F0 m pc ls (as.reverse ++ st)) rfl (argsL := as) (rest := st) hlen rfl hdc
    exact z_after hd hh hdp hmx hcd hpl hst hM kr kx S hl X₁ hnamed hstep
theorem z_callI {b idx : Nat} (hd : decode mt.2.1 pc = .ok (.invokespecial idx, 3)) (hh : mt.2.2.2.2 = []) (hdp : dY + 1 ≤ d) (Y : z_Yi G mt.1.cls idx mtY) (hst : (st.map fun v => v.category).sum ≤ 8) (hM : z_C G mtY dY [.ref b] h QY)
    (kr : ∀ v h', QY (.inl v) h' → z_V G mt d (pc + 3) lo (v.toList ++ st) h' Q) (kx : ∀ X h', QY (.inr X) h' → Q (.inr X) h') : z_V G mt d pc lo (.ref b :: st) h Q := by
  intro p e s m args below meth c R ss0 H locs ls S hl T0 hT X
  subst hT
  obtain ⟨⟨hcd, hpl, hmx, ⟨hy, hpd⟩, hL⟩, hy1, hret, hnh, hcode, hinst⟩ := Y
  have hts : ∀ w ∈ G.Ts, w.before args s = true := S.1.2.2.2.1
  have hpm : e.platform.magicAccessors = ({} : Platform).magicAccessors := by rw [X.admits.platform]
  have hlen : ∀ sig, parseMethodDescriptor mtY.1.desc = some sig → ([] : List Value).length = sig.parameters.length := fun sig hs => by
    rw [hs] at hpd
    exact (Option.some.inj hpd).symm
  have hdc : decode c.code (F0 m pc ls (.ref b :: st)).pc = .ok (.invokespecial idx, 3) := by rw [S.1.1.2.1]; exact hd
  rcases hL with hL | ⟨host, hL⟩
  · obtain ⟨mk, methM, cM, kP, vm₁, hnamed, -, -, -, -, -, -, -, hW₁, hstep⟩ := Steps.initColdArgs (e := e) X.here S.1.1.1 X.warmed hpm S.1.2.1.1 hy1 hy (hts _ hL) (hts _ hinst) (hts _ hcode) (f := F0 m pc ls (.ref b :: st)) rfl (a := b) (argsL := []) (rest := st) hlen rfl hdc
    exact z_after (as := [.ref b]) hd hh hdp hmx hcd hpl hst hM kr kx S hl (X.noted hW₁) hnamed hstep
  · obtain ⟨mk, methM, cM, kP, vm₁, hnamed, -, -, -, -, -, -, -, hW₁, hstep⟩ := Steps.initColdArgsNest (e := e) X.here S.1.1.1 X.warmed hpm S.1.2.1.1 hy1 hy (hts _ hL) (hts _ hinst) (hts _ hcode) (f := F0 m pc ls (.ref b :: st)) rfl (a := b) (argsL := []) (rest := st) hlen rfl hdc
    exact z_after (as := [.ref b]) hd hh hdp hmx hcd hpl hst hM kr kx S hl (X.noted hW₁) hnamed hstep
theorem z_callV0 {b ci N idx : Nat} {T : u_T} {fs : List Value} (hd : decode mt.2.1 pc = .ok (.invokevirtual idx, 3)) (hh : mt.2.2.2.2 = []) (hdp : dY + 1 ≤ d) (Y : z_Yv G mt.1.cls idx mtY 0) (hb : h.2.2 b = some (.inr (ci, fs))) (hcl : G.cl[ci]? = some (mtY.1.cls, T, N)) (hst : (st.map fun v => v.category).sum ≤ 8) (hM : z_C G mtY dY [.ref b] h QY)
    (kr : ∀ v h', QY (.inl v) h' → z_V G mt d (pc + 3) lo (v.toList ++ st) h' Q) (kx : ∀ X h', QY (.inr X) h' → Q (.inr X) h') : z_V G mt d pc lo (.ref b :: st) h Q :=
  z_callV (as := []) hd hh hdp Y rfl hb hcl hst hM kr kx
theorem z_callV1 {x1 : Value} {b ci N idx : Nat} {T : u_T} {fs : List Value} (hd : decode mt.2.1 pc = .ok (.invokevirtual idx, 3)) (hh : mt.2.2.2.2 = []) (hdp : dY + 1 ≤ d) (Y : z_Yv G mt.1.cls idx mtY 1) (hb : h.2.2 b = some (.inr (ci, fs))) (hcl : G.cl[ci]? = some (mtY.1.cls, T, N)) (hst : (st.map fun v => v.category).sum ≤ 8) (hM : z_C G mtY dY [.ref b, x1] h QY)
    (kr : ∀ v h', QY (.inl v) h' → z_V G mt d (pc + 3) lo (v.toList ++ st) h' Q) (kx : ∀ X h', QY (.inr X) h' → Q (.inr X) h') : z_V G mt d pc lo (x1 :: .ref b :: st) h Q :=
  z_callV (as := [x1]) hd hh hdp Y rfl hb hcl hst hM kr kx
theorem z_callV2 {x1 x2 : Value} {b ci N idx : Nat} {T : u_T} {fs : List Value} (hd : decode mt.2.1 pc = .ok (.invokevirtual idx, 3)) (hh : mt.2.2.2.2 = []) (hdp : dY + 1 ≤ d) (Y : z_Yv G mt.1.cls idx mtY 2) (hb : h.2.2 b = some (.inr (ci, fs))) (hcl : G.cl[ci]? = some (mtY.1.cls, T, N)) (hst : (st.map fun v => v.category).sum ≤ 8) (hM : z_C G mtY dY [.ref b, x1, x2] h QY)
    (kr : ∀ v h', QY (.inl v) h' → z_V G mt d (pc + 3) lo (v.toList ++ st) h' Q) (kx : ∀ X h', QY (.inr X) h' → Q (.inr X) h') : z_V G mt d pc lo (x2 :: x1 :: .ref b :: st) h Q :=
  z_callV (as := [x1, x2]) hd hh hdp Y rfl hb hcl hst hM kr kx
theorem z_callV3 {x1 x2 x3 : Value} {b ci N idx : Nat} {T : u_T} {fs : List Value} (hd : decode mt.2.1 pc = .ok (.invokevirtual idx, 3)) (hh : mt.2.2.2.2 = []) (hdp : dY + 1 ≤ d) (Y : z_Yv G mt.1.cls idx mtY 3) (hb : h.2.2 b = some (.inr (ci, fs))) (hcl : G.cl[ci]? = some (mtY.1.cls, T, N)) (hst : (st.map fun v => v.category).sum ≤ 8) (hM : z_C G mtY dY [.ref b, x1, x2, x3] h QY)
    (kr : ∀ v h', QY (.inl v) h' → z_V G mt d (pc + 3) lo (v.toList ++ st) h' Q) (kx : ∀ X h', QY (.inr X) h' → Q (.inr X) h') : z_V G mt d pc lo (x3 :: x2 :: x1 :: .ref b :: st) h Q :=
  z_callV (as := [x1, x2, x3]) hd hh hdp Y rfl hb hcl hst hM kr kx
theorem z_callV4 {x1 x2 x3 x4 : Value} {b ci N idx : Nat} {T : u_T} {fs : List Value} (hd : decode mt.2.1 pc = .ok (.invokevirtual idx, 3)) (hh : mt.2.2.2.2 = []) (hdp : dY + 1 ≤ d) (Y : z_Yv G mt.1.cls idx mtY 4) (hb : h.2.2 b = some (.inr (ci, fs))) (hcl : G.cl[ci]? = some (mtY.1.cls, T, N)) (hst : (st.map fun v => v.category).sum ≤ 8) (hM : z_C G mtY dY [.ref b, x1, x2, x3, x4] h QY)
    (kr : ∀ v h', QY (.inl v) h' → z_V G mt d (pc + 3) lo (v.toList ++ st) h' Q) (kx : ∀ X h', QY (.inr X) h' → Q (.inr X) h') : z_V G mt d pc lo (x4 :: x3 :: x2 :: x1 :: .ref b :: st) h Q :=
  z_callV (as := [x1, x2, x3, x4]) hd hh hdp Y rfl hb hcl hst hM kr kx
theorem z_callV5 {x1 x2 x3 x4 x5 : Value} {b ci N idx : Nat} {T : u_T} {fs : List Value} (hd : decode mt.2.1 pc = .ok (.invokevirtual idx, 3)) (hh : mt.2.2.2.2 = []) (hdp : dY + 1 ≤ d) (Y : z_Yv G mt.1.cls idx mtY 5) (hb : h.2.2 b = some (.inr (ci, fs))) (hcl : G.cl[ci]? = some (mtY.1.cls, T, N)) (hst : (st.map fun v => v.category).sum ≤ 8) (hM : z_C G mtY dY [.ref b, x1, x2, x3, x4, x5] h QY)
    (kr : ∀ v h', QY (.inl v) h' → z_V G mt d (pc + 3) lo (v.toList ++ st) h' Q) (kx : ∀ X h', QY (.inr X) h' → Q (.inr X) h') : z_V G mt d pc lo (x5 :: x4 :: x3 :: x2 :: x1 :: .ref b :: st) h Q :=
  z_callV (as := [x1, x2, x3, x4, x5]) hd hh hdp Y rfl hb hcl hst hM kr kx
theorem z_callS1 {x1 : Value} {idx : Nat} (hd : decode mt.2.1 pc = .ok (.invokestatic idx, 3)) (hh : mt.2.2.2.2 = []) (hdp : dY + 1 ≤ d) (Y : z_Ys G mt.1.cls idx mtY 1) (hst : (st.map fun v => v.category).sum ≤ 8) (hM : z_C G mtY dY [x1] h QY)
    (kr : ∀ v h', QY (.inl v) h' → z_V G mt d (pc + 3) lo (v.toList ++ st) h' Q) (kx : ∀ X h', QY (.inr X) h' → Q (.inr X) h') : z_V G mt d pc lo (x1 :: st) h Q :=
  z_callS (as := [x1]) hd hh hdp Y rfl hst hM kr kx
theorem z_callS2 {x1 x2 : Value} {idx : Nat} (hd : decode mt.2.1 pc = .ok (.invokestatic idx, 3)) (hh : mt.2.2.2.2 = []) (hdp : dY + 1 ≤ d) (Y : z_Ys G mt.1.cls idx mtY 2) (hst : (st.map fun v => v.category).sum ≤ 8) (hM : z_C G mtY dY [x1, x2] h QY)
    (kr : ∀ v h', QY (.inl v) h' → z_V G mt d (pc + 3) lo (v.toList ++ st) h' Q) (kx : ∀ X h', QY (.inr X) h' → Q (.inr X) h') : z_V G mt d pc lo (x2 :: x1 :: st) h Q :=
  z_callS (as := [x1, x2]) hd hh hdp Y rfl hst hM kr kx
theorem z_callS3 {x1 x2 x3 : Value} {idx : Nat} (hd : decode mt.2.1 pc = .ok (.invokestatic idx, 3)) (hh : mt.2.2.2.2 = []) (hdp : dY + 1 ≤ d) (Y : z_Ys G mt.1.cls idx mtY 3) (hst : (st.map fun v => v.category).sum ≤ 8) (hM : z_C G mtY dY [x1, x2, x3] h QY)
    (kr : ∀ v h', QY (.inl v) h' → z_V G mt d (pc + 3) lo (v.toList ++ st) h' Q) (kx : ∀ X h', QY (.inr X) h' → Q (.inr X) h') : z_V G mt d pc lo (x3 :: x2 :: x1 :: st) h Q :=
  z_callS (as := [x1, x2, x3]) hd hh hdp Y rfl hst hM kr kx
theorem z_callS4 {x1 x2 x3 x4 : Value} {idx : Nat} (hd : decode mt.2.1 pc = .ok (.invokestatic idx, 3)) (hh : mt.2.2.2.2 = []) (hdp : dY + 1 ≤ d) (Y : z_Ys G mt.1.cls idx mtY 4) (hst : (st.map fun v => v.category).sum ≤ 8) (hM : z_C G mtY dY [x1, x2, x3, x4] h QY)
    (kr : ∀ v h', QY (.inl v) h' → z_V G mt d (pc + 3) lo (v.toList ++ st) h' Q) (kx : ∀ X h', QY (.inr X) h' → Q (.inr X) h') : z_V G mt d pc lo (x4 :: x3 :: x2 :: x1 :: st) h Q :=
  z_callS (as := [x1, x2, x3, x4]) hd hh hdp Y rfl hst hM kr kx
/-- it answers v and leaves the picture h1; it throws X and leaves a picture that P allows -/
def z_rq (v : Option Value) (h1 : z_H) : z_R → z_H → Prop := fun r h' => r = .inl v ∧ h' = h1
def z_xq (X : String) (P : z_H → Prop) : z_R → z_H → Prop := fun r h' => r = .inr X ∧ P h'
theorem z_callV0v {b ci N idx : Nat} {T : u_T} {fs : List Value} (hd : decode mt.2.1 pc = .ok (.invokevirtual idx, 3)) (hh : mt.2.2.2.2 = []) (hdp : dY + 1 ≤ d) (Y : z_Yv G mt.1.cls idx mtY 0) (hb : h.2.2 b = some (.inr (ci, fs))) (hcl : G.cl[ci]? = some (mtY.1.cls, T, N)) (hst : (st.map fun v => v.category).sum ≤ 8) {h1 : z_H} (hM : z_C G mtY dY [.ref b] h (z_rq none h1)) (kk : z_V G mt d (pc + 3) lo st h1 Q) : z_V G mt d pc lo (.ref b :: st) h Q :=
  z_callV (as := []) hd hh hdp Y rfl hb hcl hst hM (fun v h' q => by obtain ⟨q1, rfl⟩ := q; cases q1; exact kk) (fun X h' q => by obtain ⟨q1, -⟩ := q; cases q1)
theorem z_callV0r {b ci N idx : Nat} {T : u_T} {fs : List Value} (hd : decode mt.2.1 pc = .ok (.invokevirtual idx, 3)) (hh : mt.2.2.2.2 = []) (hdp : dY + 1 ≤ d) (Y : z_Yv G mt.1.cls idx mtY 0) (hb : h.2.2 b = some (.inr (ci, fs))) (hcl : G.cl[ci]? = some (mtY.1.cls, T, N)) (hst : (st.map fun v => v.category).sum ≤ 8) {x : Value} {h1 : z_H} (hM : z_C G mtY dY [.ref b] h (z_rq (some x) h1)) (kk : z_V G mt d (pc + 3) lo (x :: st) h1 Q) : z_V G mt d pc lo (.ref b :: st) h Q :=
  z_callV (as := []) hd hh hdp Y rfl hb hcl hst hM (fun v h' q => by obtain ⟨q1, rfl⟩ := q; cases q1; exact kk) (fun X h' q => by obtain ⟨q1, -⟩ := q; cases q1)
theorem z_callV0x {b ci N idx : Nat} {T : u_T} {fs : List Value} (hd : decode mt.2.1 pc = .ok (.invokevirtual idx, 3)) (hh : mt.2.2.2.2 = []) (hdp : dY + 1 ≤ d) (Y : z_Yv G mt.1.cls idx mtY 0) (hb : h.2.2 b = some (.inr (ci, fs))) (hcl : G.cl[ci]? = some (mtY.1.cls, T, N)) (hst : (st.map fun v => v.category).sum ≤ 8) {Xn : String} {P : z_H → Prop} (hM : z_C G mtY dY [.ref b] h (z_xq Xn P)) (kk : ∀ h', P h' → Q (.inr Xn) h') : z_V G mt d pc lo (.ref b :: st) h Q :=
  z_callV (as := []) hd hh hdp Y rfl hb hcl hst hM (fun v h' q => by obtain ⟨q1, -⟩ := q; cases q1) (fun X h' q => by obtain ⟨q1, q2⟩ := q; cases q1; exact kk h' q2)
theorem z_callV1v {x1 : Value} {b ci N idx : Nat} {T : u_T} {fs : List Value} (hd : decode mt.2.1 pc = .ok (.invokevirtual idx, 3)) (hh : mt.2.2.2.2 = []) (hdp : dY + 1 ≤ d) (Y : z_Yv G mt.1.cls idx mtY 1) (hb : h.2.2 b = some (.inr (ci, fs))) (hcl : G.cl[ci]? = some (mtY.1.cls, T, N)) (hst : (st.map fun v => v.category).sum ≤ 8) {h1 : z_H} (hM : z_C G mtY dY [.ref b, x1] h (z_rq none h1)) (kk : z_V G mt d (pc + 3) lo st h1 Q) : z_V G mt d pc lo (x1 :: .ref b :: st) h Q :=
  z_callV (as := [x1]) hd hh hdp Y rfl hb hcl hst hM (fun v h' q => by obtain ⟨q1, rfl⟩ := q; cases q1; exact kk) (fun X h' q => by obtain ⟨q1, -⟩ := q; cases q1)
theorem z_callV1r {x1 : Value} {b ci N idx : Nat} {T : u_T} {fs : List Value} (hd : decode mt.2.1 pc = .ok (.invokevirtual idx, 3)) (hh : mt.2.2.2.2 = []) (hdp : dY + 1 ≤ d) (Y : z_Yv G mt.1.cls idx mtY 1) (hb : h.2.2 b = some (.inr (ci, fs))) (hcl : G.cl[ci]? = some (mtY.1.cls, T, N)) (hst : (st.map fun v => v.category).sum ≤ 8) {x : Value} {h1 : z_H} (hM : z_C G mtY dY [.ref b, x1] h (z_rq (some x) h1)) (kk : z_V G mt d (pc + 3) lo (x :: st) h1 Q) : z_V G mt d pc lo (x1 :: .ref b :: st) h Q :=
  z_callV (as := [x1]) hd hh hdp Y rfl hb hcl hst hM (fun v h' q => by obtain ⟨q1, rfl⟩ := q; cases q1; exact kk) (fun X h' q => by obtain ⟨q1, -⟩ := q; cases q1)
theorem z_callV1x {x1 : Value} {b ci N idx : Nat} {T : u_T} {fs : List Value} (hd : decode mt.2.1 pc = .ok (.invokevirtual idx, 3)) (hh : mt.2.2.2.2 = []) (hdp : dY + 1 ≤ d) (Y : z_Yv G mt.1.cls idx mtY 1) (hb : h.2.2 b = some (.inr (ci, fs))) (hcl : G.cl[ci]? = some (mtY.1.cls, T, N)) (hst : (st.map fun v => v.category).sum ≤ 8) {Xn : String} {P : z_H → Prop} (hM : z_C G mtY dY [.ref b, x1] h (z_xq Xn P)) (kk : ∀ h', P h' → Q (.inr Xn) h') : z_V G mt d pc lo (x1 :: .ref b :: st) h Q :=
  z_callV (as := [x1]) hd hh hdp Y rfl hb hcl hst hM (fun v h' q => by obtain ⟨q1, -⟩ := q; cases q1) (fun X h' q => by obtain ⟨q1, q2⟩ := q; cases q1; exact kk h' q2)
theorem z_callV2v {x1 x2 : Value} {b ci N idx : Nat} {T : u_T} {fs : List Value} (hd : decode mt.2.1 pc = .ok (.invokevirtual idx, 3)) (hh : mt.2.2.2.2 = []) (hdp : dY + 1 ≤ d) (Y : z_Yv G mt.1.cls idx mtY 2) (hb : h.2.2 b = some (.inr (ci, fs))) (hcl : G.cl[ci]? = some (mtY.1.cls, T, N)) (hst : (st.map fun v => v.category).sum ≤ 8) {h1 : z_H} (hM : z_C G mtY dY [.ref b, x1, x2] h (z_rq none h1)) (kk : z_V G mt d (pc + 3) lo st h1 Q) : z_V G mt d pc lo (x2 :: x1 :: .ref b :: st) h Q :=
  z_callV (as := [x1, x2]) hd hh hdp Y rfl hb hcl hst hM (fun v h' q => by obtain ⟨q1, rfl⟩ := q; cases q1; exact kk) (fun X h' q => by obtain ⟨q1, -⟩ := q; cases q1)
theorem z_callV2r {x1 x2 : Value} {b ci N idx : Nat} {T : u_T} {fs : List Value} (hd : decode mt.2.1 pc = .ok (.invokevirtual idx, 3)) (hh : mt.2.2.2.2 = []) (hdp : dY + 1 ≤ d) (Y : z_Yv G mt.1.cls idx mtY 2) (hb : h.2.2 b = some (.inr (ci, fs))) (hcl : G.cl[ci]? = some (mtY.1.cls, T, N)) (hst : (st.map fun v => v.category).sum ≤ 8) {x : Value} {h1 : z_H} (hM : z_C G mtY dY [.ref b, x1, x2] h (z_rq (some x) h1)) (kk : z_V G mt d (pc + 3) lo (x :: st) h1 Q) : z_V G mt d pc lo (x2 :: x1 :: .ref b :: st) h Q :=
  z_callV (as := [x1, x2]) hd hh hdp Y rfl hb hcl hst hM (fun v h' q => by obtain ⟨q1, rfl⟩ := q; cases q1; exact kk) (fun X h' q => by obtain ⟨q1, -⟩ := q; cases q1)
theorem z_callV2x {x1 x2 : Value} {b ci N idx : Nat} {T : u_T} {fs : List Value} (hd : decode mt.2.1 pc = .ok (.invokevirtual idx, 3)) (hh : mt.2.2.2.2 = []) (hdp : dY + 1 ≤ d) (Y : z_Yv G mt.1.cls idx mtY 2) (hb : h.2.2 b = some (.inr (ci, fs))) (hcl : G.cl[ci]? = some (mtY.1.cls, T, N)) (hst : (st.map fun v => v.category).sum ≤ 8) {Xn : String} {P : z_H → Prop} (hM : z_C G mtY dY [.ref b, x1, x2] h (z_xq Xn P)) (kk : ∀ h', P h' → Q (.inr Xn) h') : z_V G mt d pc lo (x2 :: x1 :: .ref b :: st) h Q :=
  z_callV (as := [x1, x2]) hd hh hdp Y rfl hb hcl hst hM (fun v h' q => by obtain ⟨q1, -⟩ := q; cases q1) (fun X h' q => by obtain ⟨q1, q2⟩ := q; cases q1; exact kk h' q2)
theorem z_callV3v {x1 x2 x3 : Value} {b ci N idx : Nat} {T : u_T} {fs : List Value} (hd : decode mt.2.1 pc = .ok (.invokevirtual idx, 3)) (hh : mt.2.2.2.2 = []) (hdp : dY + 1 ≤ d) (Y : z_Yv G mt.1.cls idx mtY 3) (hb : h.2.2 b = some (.inr (ci, fs))) (hcl : G.cl[ci]? = some (mtY.1.cls, T, N)) (hst : (st.map fun v => v.category).sum ≤ 8) {h1 : z_H} (hM : z_C G mtY dY [.ref b, x1, x2, x3] h (z_rq none h1)) (kk : z_V G mt d (pc + 3) lo st h1 Q) : z_V G mt d pc lo (x3 :: x2 :: x1 :: .ref b :: st) h Q :=
  z_callV (as := [x1, x2, x3]) hd hh hdp Y rfl hb hcl hst hM (fun v h' q => by obtain ⟨q1, rfl⟩ := q; cases q1; exact kk) (fun X h' q => by obtain ⟨q1, -⟩ := q; cases q1)
theorem z_callV3r {x1 x2 x3 : Value} {b ci N idx : Nat} {T : u_T} {fs : List Value} (hd : decode mt.2.1 pc = .ok (.invokevirtual idx, 3)) (hh : mt.2.2.2.2 = []) (hdp : dY + 1 ≤ d) (Y : z_Yv G mt.1.cls idx mtY 3) (hb : h.2.2 b = some (.inr (ci, fs))) (hcl : G.cl[ci]? = some (mtY.1.cls, T, N)) (hst : (st.map fun v => v.category).sum ≤ 8) {x : Value} {h1 : z_H} (hM : z_C G mtY dY [.ref b, x1, x2, x3] h (z_rq (some x) h1)) (kk : z_V G mt d (pc + 3) lo (x :: st) h1 Q) : z_V G mt d pc lo (x3 :: x2 :: x1 :: .ref b :: st) h Q :=
  z_callV (as := [x1, x2, x3]) hd hh hdp Y rfl hb hcl hst hM (fun v h' q => by obtain ⟨q1, rfl⟩ := q; cases q1; exact kk) (fun X h' q => by obtain ⟨q1, -⟩ := q; cases q1)
theorem z_callV3x {x1 x2 x3 : Value} {b ci N idx : Nat} {T : u_T} {fs : List Value} (hd : decode mt.2.1 pc = .ok (.invokevirtual idx, 3)) (hh : mt.2.2.2.2 = []) (hdp : dY + 1 ≤ d) (Y : z_Yv G mt.1.cls idx mtY 3) (hb : h.2.2 b = some (.inr (ci, fs))) (hcl : G.cl[ci]? = some (mtY.1.cls, T, N)) (hst : (st.map fun v => v.category).sum ≤ 8) {Xn : String} {P : z_H → Prop} (hM : z_C G mtY dY [.ref b, x1, x2, x3] h (z_xq Xn P)) (kk : ∀ h', P h' → Q (.inr Xn) h') : z_V G mt d pc lo (x3 :: x2 :: x1 :: .ref b :: st) h Q :=
  z_callV (as := [x1, x2, x3]) hd hh hdp Y rfl hb hcl hst hM (fun v h' q => by obtain ⟨q1, -⟩ := q; cases q1) (fun X h' q => by obtain ⟨q1, q2⟩ := q; cases q1; exact kk h' q2)
theorem z_callV4v {x1 x2 x3 x4 : Value} {b ci N idx : Nat} {T : u_T} {fs : List Value} (hd : decode mt.2.1 pc = .ok (.invokevirtual idx, 3)) (hh : mt.2.2.2.2 = []) (hdp : dY + 1 ≤ d) (Y : z_Yv G mt.1.cls idx mtY 4) (hb : h.2.2 b = some (.inr (ci, fs))) (hcl : G.cl[ci]? = some (mtY.1.cls, T, N)) (hst : (st.map fun v => v.category).sum ≤ 8) {h1 : z_H} (hM : z_C G mtY dY [.ref b, x1, x2, x3, x4] h (z_rq none h1)) (kk : z_V G mt d (pc + 3) lo st h1 Q) : z_V G mt d pc lo (x4 :: x3 :: x2 :: x1 :: .ref b :: st) h Q :=
  z_callV (as := [x1, x2, x3, x4]) hd hh hdp Y rfl hb hcl hst hM (fun v h' q => by obtain ⟨q1, rfl⟩ := q; cases q1; exact kk) (fun X h' q => by obtain ⟨q1, -⟩ := q; cases q1)
theorem z_callV4r {x1 x2 x3 x4 : Value} {b ci N idx : Nat} {T : u_T} {fs : List Value} (hd : decode mt.2.1 pc = .ok (.invokevirtual idx, 3)) (hh : mt.2.2.2.2 = []) (hdp : dY + 1 ≤ d) (Y : z_Yv G mt.1.cls idx mtY 4) (hb : h.2.2 b = some (.inr (ci, fs))) (hcl : G.cl[ci]? = some (mtY.1.cls, T, N)) (hst : (st.map fun v => v.category).sum ≤ 8) {x : Value} {h1 : z_H} (hM : z_C G mtY dY [.ref b, x1, x2, x3, x4] h (z_rq (some x) h1)) (kk : z_V G mt d (pc + 3) lo (x :: st) h1 Q) : z_V G mt d pc lo (x4 :: x3 :: x2 :: x1 :: .ref b :: st) h Q :=
  z_callV (as := [x1, x2, x3, x4]) hd hh hdp Y rfl hb hcl hst hM (fun v h' q => by obtain ⟨q1, rfl⟩ := q; cases q1; exact kk) (fun X h' q => by obtain ⟨q1, -⟩ := q; cases q1)
theorem z_callV4x {x1 x2 x3 x4 : Value} {b ci N idx : Nat} {T : u_T} {fs : List Value} (hd : decode mt.2.1 pc = .ok (.invokevirtual idx, 3)) (hh : mt.2.2.2.2 = []) (hdp : dY + 1 ≤ d) (Y : z_Yv G mt.1.cls idx mtY 4) (hb : h.2.2 b = some (.inr (ci, fs))) (hcl : G.cl[ci]? = some (mtY.1.cls, T, N)) (hst : (st.map fun v => v.category).sum ≤ 8) {Xn : String} {P : z_H → Prop} (hM : z_C G mtY dY [.ref b, x1, x2, x3, x4] h (z_xq Xn P)) (kk : ∀ h', P h' → Q (.inr Xn) h') : z_V G mt d pc lo (x4 :: x3 :: x2 :: x1 :: .ref b :: st) h Q :=
  z_callV (as := [x1, x2, x3, x4]) hd hh hdp Y rfl hb hcl hst hM (fun v h' q => by obtain ⟨q1, -⟩ := q; cases q1) (fun X h' q => by obtain ⟨q1, q2⟩ := q; cases q1; exact kk h' q2)
theorem z_callV5v {x1 x2 x3 x4 x5 : Value} {b ci N idx : Nat} {T : u_T} {fs : List Value} (hd : decode mt.2.1 pc = .ok (.invokevirtual idx, 3)) (hh : mt.2.2.2.2 = []) (hdp : dY + 1 ≤ d) (Y : z_Yv G mt.1.cls idx mtY 5) (hb : h.2.2 b = some (.inr (ci, fs))) (hcl : G.cl[ci]? = some (mtY.1.cls, T, N)) (hst : (st.map fun v => v.category).sum ≤ 8) {h1 : z_H} (hM : z_C G mtY dY [.ref b, x1, x2, x3, x4, x5] h (z_rq none h1)) (kk : z_V G mt d (pc + 3) lo st h1 Q) : z_V G mt d pc lo (x5 :: x4 :: x3 :: x2 :: x1 :: .ref b :: st) h Q :=
  z_callV (as := [x1, x2, x3, x4, x5]) hd hh hdp Y rfl hb hcl hst hM (fun v h' q => by obtain ⟨q1, rfl⟩ := q; cases q1; exact kk) (fun X h' q => by obtain ⟨q1, -⟩ := q; cases q1)
theorem z_callV5r {x1 x2 x3 x4 x5 : Value} {b ci N idx : Nat} {T : u_T} {fs : List Value} (hd : decode mt.2.1 pc = .ok (.invokevirtual idx, 3)) (hh : mt.2.2.2.2 = []) (hdp : dY + 1 ≤ d) (Y : z_Yv G mt.1.cls idx mtY 5) (hb : h.2.2 b = some (.inr (ci, fs))) (hcl : G.cl[ci]? = some (mtY.1.cls, T, N)) (hst : (st.map fun v => v.category).sum ≤ 8) {x : Value} {h1 : z_H} (hM : z_C G mtY dY [.ref b, x1, x2, x3, x4, x5] h (z_rq (some x) h1)) (kk : z_V G mt d (pc + 3) lo (x :: st) h1 Q) : z_V G mt d pc lo (x5 :: x4 :: x3 :: x2 :: x1 :: .ref b :: st) h Q :=
  z_callV (as := [x1, x2, x3, x4, x5]) hd hh hdp Y rfl hb hcl hst hM (fun v h' q => by obtain ⟨q1, rfl⟩ := q; cases q1; exact kk) (fun X h' q => by obtain ⟨q1, -⟩ := q; cases q1)
theorem z_callV5x {x1 x2 x3 x4 x5 : Value} {b ci N idx : Nat} {T : u_T} {fs : List Value} (hd : decode mt.2.1 pc = .ok (.invokevirtual idx, 3)) (hh : mt.2.2.2.2 = []) (hdp : dY + 1 ≤ d) (Y : z_Yv G mt.1.cls idx mtY 5) (hb : h.2.2 b = some (.inr (ci, fs))) (hcl : G.cl[ci]? = some (mtY.1.cls, T, N)) (hst : (st.map fun v => v.category).sum ≤ 8) {Xn : String} {P : z_H → Prop} (hM : z_C G mtY dY [.ref b, x1, x2, x3, x4, x5] h (z_xq Xn P)) (kk : ∀ h', P h' → Q (.inr Xn) h') : z_V G mt d pc lo (x5 :: x4 :: x3 :: x2 :: x1 :: .ref b :: st) h Q :=
  z_callV (as := [x1, x2, x3, x4, x5]) hd hh hdp Y rfl hb hcl hst hM (fun v h' q => by obtain ⟨q1, -⟩ := q; cases q1) (fun X h' q => by obtain ⟨q1, q2⟩ := q; cases q1; exact kk h' q2)
theorem z_callS1v {x1 : Value} {idx : Nat} (hd : decode mt.2.1 pc = .ok (.invokestatic idx, 3)) (hh : mt.2.2.2.2 = []) (hdp : dY + 1 ≤ d) (Y : z_Ys G mt.1.cls idx mtY 1) (hst : (st.map fun v => v.category).sum ≤ 8) {h1 : z_H} (hM : z_C G mtY dY [x1] h (z_rq none h1)) (kk : z_V G mt d (pc + 3) lo st h1 Q) : z_V G mt d pc lo (x1 :: st) h Q :=
  z_callS (as := [x1]) hd hh hdp Y rfl hst hM (fun v h' q => by obtain ⟨q1, rfl⟩ := q; cases q1; exact kk) (fun X h' q => by obtain ⟨q1, -⟩ := q; cases q1)
theorem z_callS1r {x1 : Value} {idx : Nat} (hd : decode mt.2.1 pc = .ok (.invokestatic idx, 3)) (hh : mt.2.2.2.2 = []) (hdp : dY + 1 ≤ d) (Y : z_Ys G mt.1.cls idx mtY 1) (hst : (st.map fun v => v.category).sum ≤ 8) {x : Value} {h1 : z_H} (hM : z_C G mtY dY [x1] h (z_rq (some x) h1)) (kk : z_V G mt d (pc + 3) lo (x :: st) h1 Q) : z_V G mt d pc lo (x1 :: st) h Q :=
  z_callS (as := [x1]) hd hh hdp Y rfl hst hM (fun v h' q => by obtain ⟨q1, rfl⟩ := q; cases q1; exact kk) (fun X h' q => by obtain ⟨q1, -⟩ := q; cases q1)
theorem z_callS1x {x1 : Value} {idx : Nat} (hd : decode mt.2.1 pc = .ok (.invokestatic idx, 3)) (hh : mt.2.2.2.2 = []) (hdp : dY + 1 ≤ d) (Y : z_Ys G mt.1.cls idx mtY 1) (hst : (st.map fun v => v.category).sum ≤ 8) {Xn : String} {P : z_H → Prop} (hM : z_C G mtY dY [x1] h (z_xq Xn P)) (kk : ∀ h', P h' → Q (.inr Xn) h') : z_V G mt d pc lo (x1 :: st) h Q :=
  z_callS (as := [x1]) hd hh hdp Y rfl hst hM (fun v h' q => by obtain ⟨q1, -⟩ := q; cases q1) (fun X h' q => by obtain ⟨q1, q2⟩ := q; cases q1; exact kk h' q2)
theorem z_callS2v {x1 x2 : Value} {idx : Nat} (hd : decode mt.2.1 pc = .ok (.invokestatic idx, 3)) (hh : mt.2.2.2.2 = []) (hdp : dY + 1 ≤ d) (Y : z_Ys G mt.1.cls idx mtY 2) (hst : (st.map fun v => v.category).sum ≤ 8) {h1 : z_H} (hM : z_C G mtY dY [x1, x2] h (z_rq none h1)) (kk : z_V G mt d (pc + 3) lo st h1 Q) : z_V G mt d pc lo (x2 :: x1 :: st) h Q :=
  z_callS (as := [x1, x2]) hd hh hdp Y rfl hst hM (fun v h' q => by obtain ⟨q1, rfl⟩ := q; cases q1; exact kk) (fun X h' q => by obtain ⟨q1, -⟩ := q; cases q1)
theorem z_callS2r {x1 x2 : Value} {idx : Nat} (hd : decode mt.2.1 pc = .ok (.invokestatic idx, 3)) (hh : mt.2.2.2.2 = []) (hdp : dY + 1 ≤ d) (Y : z_Ys G mt.1.cls idx mtY 2) (hst : (st.map fun v => v.category).sum ≤ 8) {x : Value} {h1 : z_H} (hM : z_C G mtY dY [x1, x2] h (z_rq (some x) h1)) (kk : z_V G mt d (pc + 3) lo (x :: st) h1 Q) : z_V G mt d pc lo (x2 :: x1 :: st) h Q :=
  z_callS (as := [x1, x2]) hd hh hdp Y rfl hst hM (fun v h' q => by obtain ⟨q1, rfl⟩ := q; cases q1; exact kk) (fun X h' q => by obtain ⟨q1, -⟩ := q; cases q1)
theorem z_callS2x {x1 x2 : Value} {idx : Nat} (hd : decode mt.2.1 pc = .ok (.invokestatic idx, 3)) (hh : mt.2.2.2.2 = []) (hdp : dY + 1 ≤ d) (Y : z_Ys G mt.1.cls idx mtY 2) (hst : (st.map fun v => v.category).sum ≤ 8) {Xn : String} {P : z_H → Prop} (hM : z_C G mtY dY [x1, x2] h (z_xq Xn P)) (kk : ∀ h', P h' → Q (.inr Xn) h') : z_V G mt d pc lo (x2 :: x1 :: st) h Q :=
  z_callS (as := [x1, x2]) hd hh hdp Y rfl hst hM (fun v h' q => by obtain ⟨q1, -⟩ := q; cases q1) (fun X h' q => by obtain ⟨q1, q2⟩ := q; cases q1; exact kk h' q2)
theorem z_callS3v {x1 x2 x3 : Value} {idx : Nat} (hd : decode mt.2.1 pc = .ok (.invokestatic idx, 3)) (hh : mt.2.2.2.2 = []) (hdp : dY + 1 ≤ d) (Y : z_Ys G mt.1.cls idx mtY 3) (hst : (st.map fun v => v.category).sum ≤ 8) {h1 : z_H} (hM : z_C G mtY dY [x1, x2, x3] h (z_rq none h1)) (kk : z_V G mt d (pc + 3) lo st h1 Q) : z_V G mt d pc lo (x3 :: x2 :: x1 :: st) h Q :=
  z_callS (as := [x1, x2, x3]) hd hh hdp Y rfl hst hM (fun v h' q => by obtain ⟨q1, rfl⟩ := q; cases q1; exact kk) (fun X h' q => by obtain ⟨q1, -⟩ := q; cases q1)
theorem z_callS3r {x1 x2 x3 : Value} {idx : Nat} (hd : decode mt.2.1 pc = .ok (.invokestatic idx, 3)) (hh : mt.2.2.2.2 = []) (hdp : dY + 1 ≤ d) (Y : z_Ys G mt.1.cls idx mtY 3) (hst : (st.map fun v => v.category).sum ≤ 8) {x : Value} {h1 : z_H} (hM : z_C G mtY dY [x1, x2, x3] h (z_rq (some x) h1)) (kk : z_V G mt d (pc + 3) lo (x :: st) h1 Q) : z_V G mt d pc lo (x3 :: x2 :: x1 :: st) h Q :=
  z_callS (as := [x1, x2, x3]) hd hh hdp Y rfl hst hM (fun v h' q => by obtain ⟨q1, rfl⟩ := q; cases q1; exact kk) (fun X h' q => by obtain ⟨q1, -⟩ := q; cases q1)
theorem z_callS3x {x1 x2 x3 : Value} {idx : Nat} (hd : decode mt.2.1 pc = .ok (.invokestatic idx, 3)) (hh : mt.2.2.2.2 = []) (hdp : dY + 1 ≤ d) (Y : z_Ys G mt.1.cls idx mtY 3) (hst : (st.map fun v => v.category).sum ≤ 8) {Xn : String} {P : z_H → Prop} (hM : z_C G mtY dY [x1, x2, x3] h (z_xq Xn P)) (kk : ∀ h', P h' → Q (.inr Xn) h') : z_V G mt d pc lo (x3 :: x2 :: x1 :: st) h Q :=
  z_callS (as := [x1, x2, x3]) hd hh hdp Y rfl hst hM (fun v h' q => by obtain ⟨q1, -⟩ := q; cases q1) (fun X h' q => by obtain ⟨q1, q2⟩ := q; cases q1; exact kk h' q2)
theorem z_callS4v {x1 x2 x3 x4 : Value} {idx : Nat} (hd : decode mt.2.1 pc = .ok (.invokestatic idx, 3)) (hh : mt.2.2.2.2 = []) (hdp : dY + 1 ≤ d) (Y : z_Ys G mt.1.cls idx mtY 4) (hst : (st.map fun v => v.category).sum ≤ 8) {h1 : z_H} (hM : z_C G mtY dY [x1, x2, x3, x4] h (z_rq none h1)) (kk : z_V G mt d (pc + 3) lo st h1 Q) : z_V G mt d pc lo (x4 :: x3 :: x2 :: x1 :: st) h Q :=
  z_callS (as := [x1, x2, x3, x4]) hd hh hdp Y rfl hst hM (fun v h' q => by obtain ⟨q1, rfl⟩ := q; cases q1; exact kk) (fun X h' q => by obtain ⟨q1, -⟩ := q; cases q1)
theorem z_callS4r {x1 x2 x3 x4 : Value} {idx : Nat} (hd : decode mt.2.1 pc = .ok (.invokestatic idx, 3)) (hh : mt.2.2.2.2 = []) (hdp : dY + 1 ≤ d) (Y : z_Ys G mt.1.cls idx mtY 4) (hst : (st.map fun v => v.category).sum ≤ 8) {x : Value} {h1 : z_H} (hM : z_C G mtY dY [x1, x2, x3, x4] h (z_rq (some x) h1)) (kk : z_V G mt d (pc + 3) lo (x :: st) h1 Q) : z_V G mt d pc lo (x4 :: x3 :: x2 :: x1 :: st) h Q :=
  z_callS (as := [x1, x2, x3, x4]) hd hh hdp Y rfl hst hM (fun v h' q => by obtain ⟨q1, rfl⟩ := q; cases q1; exact kk) (fun X h' q => by obtain ⟨q1, -⟩ := q; cases q1)
theorem z_callS4x {x1 x2 x3 x4 : Value} {idx : Nat} (hd : decode mt.2.1 pc = .ok (.invokestatic idx, 3)) (hh : mt.2.2.2.2 = []) (hdp : dY + 1 ≤ d) (Y : z_Ys G mt.1.cls idx mtY 4) (hst : (st.map fun v => v.category).sum ≤ 8) {Xn : String} {P : z_H → Prop} (hM : z_C G mtY dY [x1, x2, x3, x4] h (z_xq Xn P)) (kk : ∀ h', P h' → Q (.inr Xn) h') : z_V G mt d pc lo (x4 :: x3 :: x2 :: x1 :: st) h Q :=
  z_callS (as := [x1, x2, x3, x4]) hd hh hdp Y rfl hst hM (fun v h' q => by obtain ⟨q1, -⟩ := q; cases q1) (fun X h' q => by obtain ⟨q1, q2⟩ := q; cases q1; exact kk h' q2)
theorem z_callIv {b idx : Nat} (hd : decode mt.2.1 pc = .ok (.invokespecial idx, 3)) (hh : mt.2.2.2.2 = []) (hdp : dY + 1 ≤ d) (Y : z_Yi G mt.1.cls idx mtY) (hst : (st.map fun v => v.category).sum ≤ 8) {h1 : z_H} (hM : z_C G mtY dY [.ref b] h (z_rq none h1)) (kk : z_V G mt d (pc + 3) lo st h1 Q) : z_V G mt d pc lo (.ref b :: st) h Q :=
  z_callI hd hh hdp Y hst hM (fun v h' q => by obtain ⟨q1, rfl⟩ := q; cases q1; exact kk) (fun X h' q => by obtain ⟨q1, -⟩ := q; cases q1)
end ZK
end
section
/-! a new exception is thrown out of the method -/
section ZT
variable {p : Program} {l : Launch} {e : Env} {R : Room} {s : State} {m : MethodId} {args : Array Value} {below : List Frame} {meth : Method} {c : Code} {T : State} {locs : List Loc} {cells slots : Nat}
/-- the walk as if it began here -/
theorem z_rebase (X : Stand p l e R s m args below meth c T locs cells slots) {kc ks : Nat} (hc : cells + kc ≤ R.cells) (hs : slots + ks ≤ R.slots) :
    Stand p l e { frames := R.frames, cells := kc, slots := ks, locals := R.locals } (T.setFrames (.invoking m args :: below)) m args below meth c T [] 0 0 := by
  obtain ⟨g₀, hfr⟩ := X.frames_eq
  have hcur : T.cur < T.threads.size := State.cur_lt_of_frames hfr
  have hF : (T.setFrames (.invoking m args :: below)).frames = .invoking m args :: below := State.frames_setFrames _ hcur
  have hme : ∀ k, T.vm.method? k = s.vm.method? k := fun k => by rw [X.warmed.alike.method?]
  refine ⟨X.admits, X.cas, X.clock, hF, ?_, ?_, X.method', X.code, X.here, X.tail, State.WarmedH.refl (T.setFrames (.invoking m args :: below)), (State.stackLimits_setFrames _ _ _).symm, (State.stackBytes_setFrames _ _).symm, ?_⟩
  · have h0 := X.room
    have h1 := X.heapSize
    have h2 := X.used
    have h3 := X.book
    simp only [State.hasRoom, Bool.and_eq_true, decide_eq_true_eq] at h0 ⊢
    rw [State.localsInUse_invoking X.frames X.method X.code, X.frames] at h0
    rw [State.localsInUse_invoking hF X.method' X.code, hF, State.stackLimits_setFrames, State.stackBytes_setFrames, X.limits, X.bytes]
    obtain ⟨⟨⟨⟨a1, a2⟩, a3⟩, a4⟩, a5⟩ := h0
    refine ⟨⟨⟨⟨a1, a2⟩, ?_⟩, ?_⟩, h3⟩
    · show T.heap.size + kc ≤ _
      omega
    · show T.slotsUsed + ks ≤ _
      omega
  · have h0 := X.hears
    rcases below with _ | ⟨y, r⟩
    · simpa [State.hears, hme] using h0
    · cases y <;> first | rfl | (simpa [State.hears, State.code?_eq, hme] using h0)
  · obtain ⟨th, hth, -⟩ := State.frames_cons hF
    have h1 := (State.sameButNew.refl (T.setFrames (.invoking m args :: below)) hth).setFrames T.frames (State.cur_lt_of_frames hF)
    obtain ⟨th', hth', -⟩ := State.frames_cons hfr
    rw [State.setFrames_setFrames, State.setFrames_self hth'] at h1
    exact h1
theorem z_kept {s' t : State} {k n : Nat} (h : s'.sameButNew t [] k n) {a : Nat} {cell : Cell} (hc : s'.heap[a]? = some cell) : t.heap[a]? = some cell := by
  obtain ⟨c', h1, h2, h3, h4⟩ := h.2.2.2.2.2 a cell hc
  have h5 : c'.slots = cell.slots := by
    apply Array.ext_getElem?
    intro i
    exact h4 i (by simp)
  rw [h5] at h2
  rw [h1, h2]
end ZT
/-- a word that doesn't speak of the heap -/
def z_hp : Cond → Bool
  | .isRef _ => false
  | .laysStatic .. => false
  | _ => true
/-- the words of a new exception with no message, but those of the heap -/
def z_thr (own : String) (ix ic : Nat) (X : String) : List Cond :=
  [.classLink own ix X, .initialized X] ++ (Bundle.ownAtoms0 own ic X ["java/lang/RuntimeException", "java/lang/Exception"]).filter z_hp
section ZU
variable {G : z_G} {mt : z_M} {d pc : Nat} {lo : List (Nat × Value)} {st : List Value} {h : z_H} {Q : z_R → z_H → Prop}
set_option maxHeartbeats 1000000 in
theorem z_throw {ix ic : Nat} {Xn : String} (hd0 : decode mt.2.1 pc = .ok (.new ix, 3)) (hd3 : decode mt.2.1 (pc + 3) = .ok (.dup, 1)) (hd4 : decode mt.2.1 (pc + 4) = .ok (.invokespecial ic, 3)) (hd7 : decode mt.2.1 (pc + 7) = .ok (.athrow, 1)) (hh : mt.2.2.2.2 = [])
    (hfit : Bundle.fit Xn = true) (hws : ∀ w ∈ z_thr mt.1.cls ix ic Xn, w ∈ G.Ts) (hc : h.1 + 1 ≤ G.b0 + G.cc) (hs : h.2.1 + 6 ≤ G.ss) (hst : (st.map fun v => v.category).sum ≤ 8) (hq : Q (.inr Xn) (h.1 + 1, h.2.1 + 6, h.2.2)) : z_V G mt d pc lo st h Q := by
  intro p e s m args below meth c R ss0 H locs ls S hl T hT X
  subst hT
  have hlocks : meth.locks = false := S.1.2.1.2.1
  have hts : ∀ w ∈ G.Ts, w.before args s = true := S.1.2.2.2.1
  have hmv : ∀ w ∈ G.Ts, z_mv w = true := S.1.2.2.2.2.1
  obtain ⟨S1, ⟨r1, r2, r3, r4⟩, ⟨Ra, ⟨ws, hP, hD, hcov⟩, Rz1, Rz2, Rx, Rb⟩, S4, s5a, s5b, s5c, s5d⟩ := id S
  have X' := z_rebase X (kc := 1) (ks := 6) (by omega) (by omega)
  have hal : s.vm.Alike T.vm := X.warmed.alike
  have hW0 : s.WarmedH (T.setFrames (.invoking m args :: below)).vm := X.warmed
  have hw : ∀ w ∈ z_thr mt.1.cls ix ic Xn, w.before args (T.setFrames (.invoking m args :: below)) = true := fun w hm => z_move (hmv w (hws w hm)) hW0 (hts w (hws w hm))
  have hat : ∀ w ∈ Bundle.ownAtoms0 mt.1.cls ic Xn ["java/lang/RuntimeException", "java/lang/Exception"], w.before args (T.setFrames (.invoking m args :: below)) = true := by
    intro w hm
    by_cases hr : z_hp w = true
    · exact hw w (List.mem_append_right _ (List.mem_filter.mpr ⟨hm, hr⟩))
    · have z1 := (Rz1.moved (U := T.setFrames (.invoking m args :: below)) hal)
      have z2 := (Rz2.moved (U := T.setFrames (.invoking m args :: below)) hal)
      simp only [Bundle.ownAtoms0, Bundle.throwableAtoms, Bundle.chain0Atoms, Bundle.passAtoms, List.mem_append, List.mem_cons, List.not_mem_nil, or_false] at hm
      rcases hm with (hm | hm) | hm
      · rcases hm with rfl | rfl | rfl | rfl | rfl | rfl | rfl | rfl | rfl | rfl | rfl | rfl | rfl | rfl | rfl | rfl | rfl | rfl | rfl | rfl | rfl | rfl | rfl | rfl
        all_goals first | exact absurd rfl hr | exact z1.lays args | exact z2.lays args
      · rcases hm with (rfl | rfl | rfl | rfl | rfl) | (rfl | rfl | rfl | rfl | rfl) | (rfl | rfl | rfl | rfl | rfl) <;> exact absurd rfl hr
      · rcases hm with rfl | rfl | rfl | rfl | rfl | rfl | rfl | rfl | rfl | rfl | rfl | rfl | rfl | rfl
        all_goals first | exact absurd rfl hr | exact z1.isRef args | exact z2.isRef args
  have hown : (T.setFrames (.invoking m args :: below)).vm.findClass mt.1.cls = some m.cls := by
    show T.vm.findClass mt.1.cls = some m.cls
    rw [hal.findClass]
    exact S1.2.1.1
  have hins : (Cond.instantiable Xn 6).before args (T.setFrames (.invoking m args :: below)) = true := hat _ (by simp [Bundle.ownAtoms0])
  have hx : p.tables.exec = Jvm.exec := S1.1.1
  have hb : c.code = mt.2.1 := S1.1.2.1
  have htr : e.platform.stackTraces = false := S1.2.2.2.2.2 e X.admits
  have hW : W p G.l e { frames := R.frames, cells := 1, slots := 6, locals := R.locals } (T.setFrames (.invoking m args :: below)) m args below meth c T.heap [] 0 0
      (fun U => U.status = .running ∧ Ended U below (.threw T.heap.size) ∧ (T.setFrames (.invoking m args :: below)).WarmedH U.vm ∧ (T.setFrames (.invoking m args :: below)).sameButNew ({ U with vm := (T.setFrames (.invoking m args :: below)).vm } : State) [] 1 6 ∧
        ∃ ce, U.heap[T.heap.size]? = some ce ∧ ce.vm = .none ∧ (T.setFrames (.invoking m args :: below)).vm.findClass Xn = some ce.cls) (F0 m pc ls st) := by
    refine W.newc hx hb hown (hw _ (by simp [z_thr])) hins (hw _ (by simp [z_thr])) rfl hd0 (Nat.le_refl _) (Nat.le_refl _) fun cC kC h1 h2 h3 h4 => ?_
    refine lv_dup (pc := pc + 3) hx hb hd3 rfl ?_
    intro T2 hT2 X2
    obtain ⟨U, u1, u2, u3, u4, u5, ce, u6, u7⟩ := X2.ctorThrow0 hx htr (own := mt.1.cls) (cls := Xn) (names := ["java/lang/RuntimeException", "java/lang/Exception"]) (ic := ic) hown hfit (by decide) hat (fun x hx => by cases hx)
      (a := T.heap.size) h1 h2 (by rw [hT2]; simp [freshCell]) (Nat.le_refl _) (g := F0 m (pc + 3 + 1) ls (.ref T.heap.size :: .ref T.heap.size :: st)) rfl (hl.1.trans S1.1.2.2.1.symm) rfl rfl (rest := st) rfl (by rw [hb]; exact hd4) (by rw [hb]; exact hd7) (z_noh (S1.2.1.2.2.2.trans hh) _) (by show 2 + 3 < R.frames; omega) (by show 2 * 0 + (1 + (st.map fun v => v.category).sum) + (13 * (2 + 1) + 41) ≤ R.locals; omega)
    exact ⟨U, u1, u2, u3, u4, u5, ce, u6, u7.vm, u7.cls⟩
  obtain ⟨U, a1, u2, u3, u4, u5, ce, u6, u7, u8⟩ := hW T rfl X'
  have hT1 : T.sameButNew ({ U with vm := T.vm } : State) [] 1 6 := by
    obtain ⟨e2, q⟩ := u5
    refine ⟨?_, q⟩
    rw [State.setFrames_setFrames] at e2
    exact e2
  have hkeep : ∀ (a : Nat) (cell : Cell), T.heap[a]? = some cell → U.heap[a]? = some cell := fun a cell hcell => z_kept (t := ({ U with vm := T.vm } : State)) hT1 hcell
  have hzU : U.heap.size = h.1 + 1 := by
    have q1 : U.heap.size ≤ T.heap.size + 1 := hT1.2.2.1
    have q2 := (Array.getElem?_eq_some_iff.mp u6).1
    omega
  have hsm : s.sameButNew ({ U with vm := s.vm } : State) locs (h.1 + 1 - s.heap.size) (h.2.1 + 6 - ss0) := by
    have h1 := X.same.trans (hT1.setVm s.vm)
    rw [List.append_nil, show h.1 - s.heap.size + 1 = h.1 + 1 - s.heap.size by omega, show h.2.1 - ss0 + 6 = h.2.1 + 6 - ss0 by omega] at h1
    exact h1
  have hko : ∀ q : Nat, q < T.heap.size → U.heap[q]? = T.heap[q]? := fun q hq => by
    have e1 : T.heap[q]? = some T.heap[q] := Array.getElem?_eq_getElem hq
    rw [e1]
    exact hkeep q _ e1
  refine ⟨U, a1, .threw T.heap.size, .inr Xn, (h.1 + 1, h.2.1 + 6, h.2.2), hq, u2, u3, State.WarmedH.trans X.warmed u4, ⟨locs, hsm, S4.1.2.2⟩, ⟨hzU, ⟨ws, hP.kept (fun k x hx => hko x.1 ((hP k x hx).lt)), hD, hcov⟩, Rz1.kept (fun a ha => hko a (by have := S4.2; have := S4.1.1; omega)), Rz2.kept (fun a ha => hko a (by have := S4.2; have := S4.1.1; omega)), Rx.kept (hko _ (by have := S4.2; have := S4.1.1; omega)), Rb⟩, fun q hq2 => ?_, ⟨by show s.heap.size ≤ h.1 + 1; omega, by show ss0 ≤ h.2.1 + 6; omega, hc, hs⟩, T.heap.size, ce, rfl, u6, u7, ?_⟩
  · have hq3 : q < s.heap.size := Nat.lt_of_lt_of_le hq2 S4.2
    rw [hko q (Nat.lt_of_lt_of_le hq3 S4.1.1)]
    exact S4.1.2.1 q hq3 (Nat.not_le.mpr hq2)
  · rw [← hal.findClass]
    exact u8
end ZU
end
section
/-! rows as lists of numbers: what the class and the reference both do to them -/
/-- a number that has two parts -/
def p_two (v : Nat) : Bool := v == 2 || v == 3 || v == 4
/-- how many numbers the next k terms take -/
def p_end : Nat → List Nat → Nat
  | _, [] => 0
  | 0, _ :: _ => 0
  | k + 1, v :: l => p_end (if p_two v = true then k + 2 else k) l + 1
/-- the depths that are awaited behind a number at depth d -/
def p_aw (v d : Nat) (S : List Nat) : List Nat := if p_two v = true then d :: (if v = 2 then d else d + 1) :: S else S
/-- the term with k added to the variables that it doesn't bind -/
def p_lift (k : Nat) : List Nat → List Nat → List Nat
  | _, [] => []
  | [], _ :: _ => []
  | d :: S, v :: l => (if 100 + d ≤ v then v + k else v) :: p_lift k (p_aw v d S) l
/-- the body with the term a put for variable 0 -/
def p_put (a : List Nat) : List Nat → List Nat → List Nat
  | _, [] => []
  | [], _ :: _ => []
  | d :: S, v :: l => (if v = 100 + d then p_lift d [0] a else if 100 + d < v then [v - 1] else [v]) ++ p_put a (p_aw v d S) l
/-- the right side with the terms g j put for the n variables -/
def p_res (n : Nat) (g : Nat → List Nat) : List Nat → List Nat → List Nat
  | _, [] => []
  | [], _ :: _ => []
  | d :: S, v :: l => (if 100 + d ≤ v ∧ v < 100 + d + n then p_lift d [0] (g (v - 100 - d)) else [v]) ++ p_res n g (p_aw v d S) l
/-- does the pattern match at a place of the row; where the variables' terms begin -/
def p_match (n : Nat) (x : List Nat) : List Nat → Nat → (Nat → Nat) → Bool × (Nat → Nat)
  | [], _, g => (true, g)
  | v :: q, i, g => if 100 ≤ v ∧ v < 100 + n then p_match n x q (i + p_end 1 (x.drop i)) (va_up g (v - 100) i) else if x[i]? = some v then p_match n x q (i + 1) g else (false, g)
theorem p_end_nil (k : Nat) : p_end k [] = 0 := by cases k <;> rfl
theorem p_end_zero (l : List Nat) : p_end 0 l = 0 := by cases l <;> rfl
theorem p_end_le : ∀ (l : List Nat) (k : Nat), p_end k l ≤ l.length
  | [], k => by rw [p_end_nil]; exact Nat.le_refl _
  | v :: l, 0 => Nat.zero_le _
  | v :: l, k + 1 => by
    show p_end _ l + 1 ≤ l.length + 1
    exact Nat.succ_le_succ (p_end_le l _)
theorem p_lift_nil (k : Nat) (S : List Nat) : p_lift k S [] = [] := by cases S <;> rfl
theorem p_lift_stop (k : Nat) (l : List Nat) : p_lift k [] l = [] := by cases l <;> rfl
theorem p_put_nil (a S : List Nat) : p_put a S [] = [] := by cases S <;> rfl
theorem p_put_stop (a l : List Nat) : p_put a [] l = [] := by cases l <;> rfl
theorem p_res_nil (n : Nat) (g : Nat → List Nat) (S : List Nat) : p_res n g S [] = [] := by cases S <;> rfl
theorem p_res_stop (n : Nat) (g : Nat → List Nat) (l : List Nat) : p_res n g [] l = [] := by cases l <;> rfl
theorem p_aw_len (v d : Nat) (S : List Nat) : (p_aw v d S).length = if p_two v = true then S.length + 2 else S.length := by
  unfold p_aw
  split <;> simp
/-- the lifted term is as long as the term -/
theorem p_lift_len : ∀ (l : List Nat) (k : Nat) (S : List Nat), (p_lift k S l).length = p_end S.length l
  | [], k, S => by rw [p_lift_nil, p_end_nil]; rfl
  | v :: l, k, [] => rfl
  | v :: l, k, d :: S => by
    show (p_lift k (p_aw v d S) l).length + 1 = p_end (if p_two v = true then S.length + 2 else S.length) l + 1
    rw [p_lift_len l k (p_aw v d S), p_aw_len]
/-- the row is made of a term for each awaited depth, its variables are bound or among n -/
def p_wf (n : Nat) : List Nat → List Nat → Prop
  | S, [] => S = []
  | [], _ :: _ => False
  | d :: S, v :: l => (v < 5 ∨ (10 ≤ v ∧ v < 18) ∨ (100 ≤ v ∧ v < 100 + d + n)) ∧ p_wf n (p_aw v d S) l
theorem p_aw_app (v d : Nat) (S S' : List Nat) : p_aw v d (S ++ S') = p_aw v d S ++ S' := by
  unfold p_aw
  split <;> rfl
theorem p_wf_app {n : Nat} : ∀ {l1 S1 l2 S2 : List Nat}, p_wf n S1 l1 → p_wf n S2 l2 → p_wf n (S1 ++ S2) (l1 ++ l2)
  | [], S1, l2, S2, h1, h2 => by
    have h1 : S1 = [] := by cases S1 <;> exact h1
    subst h1
    exact h2
  | v :: l1, [], l2, S2, h1, h2 => h1.elim
  | v :: l1, d :: S1, l2, S2, h1, h2 => by
    refine ⟨h1.1, ?_⟩
    show p_wf n (p_aw v d (S1 ++ S2)) (l1 ++ l2)
    rw [p_aw_app]
    exact p_wf_app h1.2 h2
theorem p_wf_split {n : Nat} : ∀ {l S1 S2 : List Nat}, p_wf n (S1 ++ S2) l → p_wf n S1 (l.take (p_end S1.length l)) ∧ p_wf n S2 (l.drop (p_end S1.length l))
  | [], S1, S2, h => by
    have h : S1 ++ S2 = [] := by
      revert h
      cases S1 ++ S2 <;> exact id
    obtain ⟨rfl, rfl⟩ := List.append_eq_nil_iff.mp h
    exact ⟨rfl, rfl⟩
  | v :: l, [], S2, h => ⟨rfl, h⟩
  | v :: l, d :: S1, S2, h => by
    have h2 : p_wf n (p_aw v d (S1 ++ S2)) l := h.2
    rw [p_aw_app] at h2
    have h3 := p_wf_split h2
    rw [p_aw_len] at h3
    exact ⟨⟨h.1, h3.1⟩, h3.2⟩
theorem p_two_lt {v : Nat} (h : p_two v = true) : v < 5 := by
  simp only [p_two, Bool.or_eq_true, beq_iff_eq] at h
  omega
theorem p_two_ge {v : Nat} (h : 5 ≤ v) : p_two v = false := by
  cases hp : p_two v with
  | false => rfl
  | true => have := p_two_lt hp; omega
theorem p_aw_map (v d k : Nat) (S : List Nat) : p_aw v (d + k) (S.map (· + k)) = (p_aw v d S).map (· + k) := by
  unfold p_aw
  split
  · split <;> simp <;> omega
  · rfl
theorem p_aw_big {v : Nat} (h : 5 ≤ v) (d : Nat) (S : List Nat) : p_aw v d S = S := by
  unfold p_aw
  rw [p_two_ge h]
  rfl
theorem p_wf_lift {n k : Nat} : ∀ {l S : List Nat}, p_wf n S l → p_wf n (S.map (· + k)) (p_lift k S l)
  | [], S, h => by
    have h : S = [] := by cases S <;> exact h
    subst h
    rfl
  | v :: l, [], h => h.elim
  | v :: l, d :: S, h => by
    have ih := p_wf_lift (k := k) h.2
    obtain ⟨h1, -⟩ := h
    by_cases hv : 100 + d ≤ v
    · have e : p_lift k (d :: S) (v :: l) = (v + k) :: p_lift k (p_aw v d S) l := by
        show (if 100 + d ≤ v then v + k else v) :: _ = _
        rw [if_pos hv]
      rw [e, p_aw_big (by omega)]
      rw [p_aw_big (by omega)] at ih
      refine ⟨by show v + k < 5 ∨ (10 ≤ v + k ∧ v + k < 18) ∨ (100 ≤ v + k ∧ v + k < 100 + (d + k) + n); omega, ?_⟩
      show p_wf n (p_aw (v + k) (d + k) (S.map (· + k))) _
      rw [p_aw_big (by omega)]
      exact ih
    · have e : p_lift k (d :: S) (v :: l) = v :: p_lift k (p_aw v d S) l := by
        show (if 100 + d ≤ v then v + k else v) :: _ = _
        rw [if_neg hv]
      rw [e]
      refine ⟨by show v < 5 ∨ (10 ≤ v ∧ v < 18) ∨ (100 ≤ v ∧ v < 100 + (d + k) + n); omega, ?_⟩
      show p_wf n (p_aw v (d + k) (S.map (· + k))) _
      rw [p_aw_map]
      exact ih
theorem p_wf_put {n : Nat} {a : List Nat} (ha : p_wf n [0] a) : ∀ {l S : List Nat}, p_wf (n + 1) S l → p_wf n S (p_put a S l)
  | [], S, h => by
    have h : S = [] := by cases S <;> exact h
    subst h
    rfl
  | v :: l, [], h => h.elim
  | v :: l, d :: S, h => by
    have ih := p_wf_put ha h.2
    obtain ⟨h1, -⟩ := h
    show p_wf n (d :: S) ((if v = 100 + d then p_lift d [0] a else if 100 + d < v then [v - 1] else [v]) ++ p_put a (p_aw v d S) l)
    by_cases hv : v = 100 + d
    · rw [if_pos hv, p_aw_big (by omega)]
      rw [p_aw_big (by omega)] at ih
      have hl := p_wf_lift (k := d) ha
      have e : ([0] : List Nat).map (· + d) = [d] := by simp
      rw [e] at hl
      exact p_wf_app (S1 := [d]) hl ih
    · rw [if_neg hv]
      by_cases hw : 100 + d < v
      · rw [if_pos hw]
        rw [p_aw_big (by omega)] at ih
        rw [p_aw_big (v := v) (by omega)]
        refine ⟨by omega, ?_⟩
        show p_wf n (p_aw (v - 1) d S) _
        rw [p_aw_big (by omega)]
        exact ih
      · rw [if_neg hw]
        exact ⟨by omega, ih⟩
theorem p_wf_res {n m : Nat} {g : Nat → List Nat} (hg : ∀ j, j < m → p_wf n [0] (g j)) : ∀ {l S : List Nat}, p_wf m S l → p_wf n S (p_res m g S l)
  | [], S, h => by
    have h : S = [] := by cases S <;> exact h
    subst h
    rfl
  | v :: l, [], h => h.elim
  | v :: l, d :: S, h => by
    have ih := p_wf_res hg h.2
    obtain ⟨h1, -⟩ := h
    show p_wf n (d :: S) ((if 100 + d ≤ v ∧ v < 100 + d + m then p_lift d [0] (g (v - 100 - d)) else [v]) ++ p_res m g (p_aw v d S) l)
    by_cases hv : 100 + d ≤ v ∧ v < 100 + d + m
    · rw [if_pos hv, p_aw_big (by omega)]
      rw [p_aw_big (by omega)] at ih
      have hl := p_wf_lift (k := d) (hg (v - 100 - d) (by omega))
      have e : ([0] : List Nat).map (· + d) = [d] := by simp
      rw [e] at hl
      exact p_wf_app (S1 := [d]) hl ih
    · rw [if_neg hv]
      exact ⟨by omega, ih⟩
end
section
/-! a row's cells: the object r, its numbers at r + 1 -/
abbrev z_G.ca (G : z_G) (k : Nat) : ClassId := (G.tys.getD k (0, .int)).1
def k_ints (G : z_G) (n : Nat) (f : Nat → Int32) : va_E := .inl (G.ca 0, n, .inl f)
def k_row (r n : Nat) : va_E := .inr (0, [.ref (r + 1), .int (nI n)])
def rowAt (G : z_G) (h : z_H) (r n : Nat) (f : Nat → Int32) : Prop := h.2.2 r = some (k_row r n) ∧ h.2.2 (r + 1) = some (k_ints G 40 f)
def rset (G : z_G) (h : z_H) (r n : Nat) (f : Nat → Int32) : z_H := (h.1, h.2.1, va_up (va_up h.2.2 (r + 1) (some (k_ints G 40 f))) r (some (k_row r n)))
/-- behind an exception -/
def z_exc (h : z_H) : z_H := (h.1 + 1, h.2.1 + 6, h.2.2)
/-- there is room for one -/
def z_rm (G : z_G) (h : z_H) : Prop := h.1 + 1 ≤ G.b0 + G.cc ∧ h.2.1 + 6 ≤ G.ss
theorem z_rm.rset {G : z_G} {h : z_H} (H : z_rm G h) (r n : Nat) (f : Nat → Int32) : z_rm G (rset G h r n f) := H
theorem rset_at (G : z_G) (h : z_H) (r n : Nat) (f : Nat → Int32) : rowAt G (rset G h r n f) r n f := by
  refine ⟨va_up_self _ _ _, ?_⟩
  show va_up (va_up h.2.2 (r + 1) _) r _ (r + 1) = _
  rw [va_up_ne _ _ (by omega), va_up_self]
theorem rset_ne (G : z_G) (h : z_H) {r q : Nat} (n : Nat) (f : Nat → Int32) (h1 : q ≠ r) (h2 : q ≠ r + 1) : (rset G h r n f).2.2 q = h.2.2 q := by
  show va_up (va_up h.2.2 (r + 1) _) r _ q = _
  rw [va_up_ne _ _ h1, va_up_ne _ _ h2]
theorem rset_row {G : z_G} {h : z_H} {r r' n' : Nat} {f' : Nat → Int32} (n : Nat) (f : Nat → Int32) (H : rowAt G h r' n' f') (h1 : r' ≠ r) (h2 : r' ≠ r + 1) (h3 : r' + 1 ≠ r) : rowAt G (rset G h r n f) r' n' f' :=
  ⟨(rset_ne G h n f h1 h2).trans H.1, (rset_ne G h n f h3 (by omega)).trans H.2⟩
theorem rset_rset (G : z_G) (h : z_H) (r n m : Nat) (f g : Nat → Int32) : rset G (rset G h r n f) r m g = rset G h r m g := by
  unfold rset
  refine congrArg (fun z => (h.1, h.2.1, z)) ?_
  funext q
  simp only [va_up]
  split
  · rfl
  · split <;> rfl
theorem rset_self {G : z_G} {h : z_H} {r n : Nat} {f : Nat → Int32} (H : rowAt G h r n f) : rset G h r n f = h := by
  unfold rset
  obtain ⟨a, b, u⟩ := h
  refine congrArg (fun z => (a, b, z)) ?_
  funext q
  simp only [va_up]
  split
  · rename_i e
    rw [e]
    exact H.1.symm
  · split
    · rename_i e
      rw [e]
      exact H.2.symm
    · rfl
theorem rset_len {G : z_G} {h : z_H} {r n : Nat} {f : Nat → Int32} (m : Nat) (H : rowAt G h r n f) : z_set h r (k_row r m) = rset G h r m f := by
  unfold rset z_set
  refine congrArg (fun z => (h.1, h.2.1, z)) ?_
  funext q
  simp only [va_up]
  split
  · rfl
  · split
    · rename_i e
      rw [e]
      exact H.2
    · rfl
theorem l_gl {l1 l2 : List Nat} {i : Nat} (h : i < l1.length) : (l1 ++ l2).getD i 0 = l1.getD i 0 := by
  rw [List.getD_eq_getElem?_getD, List.getD_eq_getElem?_getD, List.getElem?_append_left h]
theorem l_gr {l1 l2 : List Nat} {i : Nat} (h : l1.length ≤ i) : (l1 ++ l2).getD i 0 = l2.getD (i - l1.length) 0 := by
  rw [List.getD_eq_getElem?_getD, List.getD_eq_getElem?_getD, List.getElem?_append_right h]
/-- the numbers of a list, behind the first n -/
def k_app (f : Nat → Int32) (n : Nat) (l : List Nat) : Nat → Int32 := fun j => if n ≤ j ∧ j < n + l.length then nI (l.getD (j - n) 0) else f j
theorem k_app_nil (f : Nat → Int32) (n : Nat) : k_app f n [] = f := by
  funext j
  unfold k_app
  rw [if_neg (by simp only [List.length_nil]; omega)]
theorem k_app_one (f : Nat → Int32) (n v : Nat) : upd f n (nI v) = k_app f n [v] := by
  funext j
  unfold k_app upd
  by_cases h : j = n
  · subst h
    rw [if_pos rfl, if_pos (by simp only [List.length_cons, List.length_nil]; omega), Nat.sub_self]
    rfl
  · rw [if_neg h, if_neg (by simp only [List.length_cons, List.length_nil]; omega)]
theorem k_app_app (f : Nat → Int32) (n : Nat) (l1 l2 : List Nat) : k_app (k_app f n l1) (n + l1.length) l2 = k_app f n (l1 ++ l2) := by
  funext j
  unfold k_app
  simp only [List.length_append]
  by_cases h1 : n + l1.length ≤ j ∧ j < n + l1.length + l2.length
  · rw [if_pos h1, if_pos (by omega), l_gr (by omega), Nat.sub_add_eq]
  · rw [if_neg h1]
    by_cases h2 : n ≤ j ∧ j < n + l1.length
    · rw [if_pos h2, if_pos (by omega), l_gl (by omega)]
    · rw [if_neg h2, if_neg (by omega)]
/-- the row's numbers are the list's -/
def rl (f : Nat → Int32) (l : List Nat) : Prop := l.length ≤ 40 ∧ ∀ i, i < l.length → f i = nI (l.getD i 0) ∧ l.getD i 0 < 1000
theorem rl_app {f : Nat → Int32} {l1 l2 : List Nat} (h : rl f l1) (hl : l1.length + l2.length ≤ 40) (hb : ∀ v ∈ l2, v < 1000) : rl (k_app f l1.length l2) (l1 ++ l2) := by
  refine ⟨by rw [List.length_append]; exact hl, fun i hi => ?_⟩
  rw [List.length_append] at hi
  unfold k_app
  by_cases h1 : i < l1.length
  · rw [if_neg (by omega), l_gl h1]
    exact h.2 i h1
  · rw [if_pos (by omega), l_gr (by omega)]
    refine ⟨rfl, ?_⟩
    have h2 : i - l1.length < l2.length := by omega
    rw [List.getD_eq_getElem?_getD, List.getElem?_eq_getElem h2]
    exact hb _ (List.getElem_mem h2)
end
