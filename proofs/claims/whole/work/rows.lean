section
/-! A walk's picture: the heap's size, the slots made so far, the known cells. A method's row: name, code, locals, answer, handlers. An outcome: an answer, or an exception's class. -/
abbrev z_H : Type := Nat × Nat × (Nat → Option va_E)
abbrev z_M : Type := MethodName × ByteArray × Nat × Option FieldType × List (Nat × Nat × Nat × Nat)
abbrev z_R : Type := Option Value ⊕ String
abbrev z_G : Type := Launch × Nat × va_G × List (ClassId × FieldType) × List Cond × List vw_C × Nat × Nat × (Nat × Nat × (Nat → Int32))
abbrev z_G.l (G : z_G) : Launch := G.1
abbrev z_G.b0 (G : z_G) : Nat := G.2.1
abbrev z_G.D (G : z_G) : va_G := G.2.2.1
abbrev z_G.tys (G : z_G) : List (ClassId × FieldType) := G.2.2.2.1
abbrev z_G.Ts (G : z_G) : List Cond := G.2.2.2.2.1
abbrev z_G.cl (G : z_G) : List vw_C := G.2.2.2.2.2.1
abbrev z_G.cc (G : z_G) : Nat := G.2.2.2.2.2.2.1
abbrev z_G.ss (G : z_G) : Nat := G.2.2.2.2.2.2.2.1
abbrev z_G.x (G : z_G) : Nat × Nat × (Nat → Int32) := G.2.2.2.2.2.2.2.2
/-- the words that hold on in every state with warmer tables -/
def z_mv : Cond → Bool
  | .fieldLinkNest .. => true
  | .methodLinkNest .. => true
  | .castable .. => true
  | .not (.castable ..) => true
  | .declares .. => true
  | .arrayOver (.object _) => true
  | w => goodWord w
theorem z_notCast {C T : String} {a a' : Array Value} {s U : State} (hW : s.WarmedH U.vm) (hb : (Cond.not (.castable C T)).before a s = true) : (Cond.not (.castable C T)).before a' U = true := by
  obtain ⟨c, t, h1, h2, h3⟩ := va_Nc.moved hW.alike (va_Nc.of hb)
  simp [Cond.before, Cond.holds, Cond.value, h1, h2, h3]
theorem z_move {w : Cond} (h : z_mv w = true) {a a' : Array Value} {s U : State} (hW : s.WarmedH U.vm) (hb : w.before a s = true) : w.before a' U = true := by
  unfold z_mv at h
  split at h
  · exact va_Nw.use rfl (va_Nw.warmF hW (va_Nw.of rfl hb))
  · exact va_Nw.use rfl (va_Nw.warmM hW (va_Nw.of rfl hb))
  · exact va_Nw.use rfl (va_Nw.warmC hW (va_Nw.of rfl hb))
  · exact z_notCast hW hb
  · exact va_Nw.use rfl (va_Nw.warmD hW (va_Nw.of rfl hb))
  · exact va_AO.use (va_AO.moved hW.alike (va_AO.of hb))
  · exact word_at hW (good_of_word h) hb
/-- a static of references lies below b, and stays there -/
def z_Zs (C n d : String) (b : Nat) (U : State) (H : Heap) : Prop := ∃ (c : ClassId) (k : Class) (i : Nat) (f : Field) (a : Nat) (cell : Cell) (v : Value), U.vm.findClass C = some c ∧ U.fieldFound? C n d = some (c, k, i, f) ∧ f.isStatic = true ∧ k.statics = some a ∧ H[a]? = some cell ∧ cell.vm.isStatics = true ∧ cell.cls = c ∧
  f.slot < cell.slots.size ∧ k.staticTypes[f.slot]? = some f.type ∧ cell.slots[f.slot]? = some v ∧ v.isRef = true ∧ a < b
theorem z_Zs.moved {C n d : String} {b : Nat} {u U : State} {H : Heap} (hvm : u.vm.Alike U.vm) (h : z_Zs C n d b u H) : z_Zs C n d b U H := by
  obtain ⟨c, k, i, f, a, cell, v, h0, h1, h2, h3, h4, h5, h6, h7, h8, h9⟩ := h
  obtain ⟨k', hi', he⟩ := State.fieldFound?_setVm (s := u) hvm h1
  exact ⟨c, k', i, f, a, cell, v, by rw [hvm.findClass]; exact h0, hi', h2, by rw [he]; exact h3, h4, h5, h6, h7, by rw [he]; exact h8, h9⟩
theorem z_Zs.kept {C n d : String} {b : Nat} {U : State} {H H1 : Heap} (h : z_Zs C n d b U H) (hq : ∀ a : Nat, a < b → H1[a]? = H[a]?) : z_Zs C n d b U H1 := by
  obtain ⟨c, k, i, f, a, cell, v, h0, h1, h2, h3, h4, h5, h6, h7, h8, h9, h10, h11⟩ := h
  exact ⟨c, k, i, f, a, cell, v, h0, h1, h2, h3, by rw [hq a h11]; exact h4, h5, h6, h7, h8, h9, h10, h11⟩
theorem z_Zs.lays {C n d : String} {b : Nat} {U : State} (h : z_Zs C n d b U U.heap) (a : Array Value) : (Cond.laysStatic C n d).before a U = true := by
  obtain ⟨c, k, i, f, q, cell, v, h0, h1, h2, h3, h4, h5, h6, h7, h8, -⟩ := h
  simp [Cond.before, Cond.holds, Cond.value, h0, h1, h2, h3, h4, h5, h6, h7, h8]
theorem z_Zs.isRef {C n d : String} {b : Nat} {U : State} (h : z_Zs C n d b U U.heap) (a : Array Value) : (Cond.isRef (.static C n d)).before a U = true := by
  obtain ⟨c, k, i, f, q, cell, v, h0, h1, h2, h3, h4, h5, h6, h7, h8, h9, h10, -⟩ := h
  cases v with
  | null => simp [Cond.before, Cond.holds, Cond.value, Term.eval, State.fieldNamed?, h1, h2, h3, h4, h5, h9]
  | ref t => simp [Cond.before, Cond.holds, Cond.value, Term.eval, State.fieldNamed?, h1, h2, h3, h4, h5, h9]
  | _ => cases h10
theorem z_Zs.of {args : Array Value} {s : State} {C n d : String} (hl : (Cond.laysStatic C n d).before args s = true) (h : (Cond.isRef (.static C n d)).before args s = true) : z_Zs C n d s.heap.size s s.heap := by
  obtain ⟨c, k, i, f, a, cell, h0, h1, h2, h3, h4, h5, h6, h7, h8⟩ := Cond.laysStatic_spec hl
  cases hv : (Term.static C n d).eval args s none [] s with
  | none => simp [Cond.before, Cond.holds, Cond.value, hv] at h
  | some w =>
    obtain ⟨hst', a', cell', ha', hcell', -, hslot⟩ := Term.static_spec h1 hv
    cases h3.symm.trans ha'
    cases h4.symm.trans hcell'
    refine ⟨c, k, i, f, a, cell, w, h0, h1, h2, h3, h4, h5, h6, h7, h8, hslot, ?_, (Array.getElem?_eq_some_iff.mp h4).1⟩
    simp only [Cond.before, Cond.holds, Cond.value, hv] at h
    cases w <;> first | rfl | (simp at h)
/-- what a method's own walk may lean on -/
def z_Cx (G : z_G) (mt : z_M) (p : Program) (s : State) (m : MethodId) (args : Array Value) (meth : Method) (c : Code) : Prop :=
  (p.tables.exec = Jvm.exec ∧ c.code = mt.2.1 ∧ c.maxLocals = mt.2.2.1 ∧ meth.sig.returnType = mt.2.2.2.1) ∧
  (s.vm.findClass mt.1.cls = some m.cls ∧ meth.locks = false ∧ meth.name = mt.1.name ∧ c.exceptionTable.toList.map (fun h => (h.startPc, h.endPc, h.handlerPc, h.catchType)) = mt.2.2.2.2) ∧
  (va_K G.D G.cl G.tys s ∧ (∀ w ∈ G.Ts, w.before args s = true) ∧ (∀ w ∈ G.Ts, z_mv w = true) ∧ ∀ e : Env, G.l.admits e → e.platform.stackTraces = false)
/-- the heap is as the picture has it; the two statics of Throwable, and the script, lie below -/
def z_Rel (G : z_G) (h : z_H) (s : State) (H : Heap) : Prop :=
  H.size = h.1 ∧ (∃ ws : va_W, va_P G.D G.cl ws H ∧ va_D (fun q => G.b0 ≤ q) ws ∧ ∀ (a : Nat) (e : va_E), h.2.2 a = some e → ∃ k : Nat, ws[k]? = some (a, e)) ∧
  z_Zs "java/lang/Throwable" "UNASSIGNED_STACK" "[Ljava/lang/StackTraceElement;" G.b0 s H ∧ z_Zs "java/lang/Throwable" "SUPPRESSED_SENTINEL" "Ljava/util/List;" G.b0 s H ∧ va_X G.x.1 G.x.2.1 G.x.2.2 s H ∧ G.x.1 < G.b0
/-- since the method began, nothing below has changed -/
def z_Sx (G : z_G) (s : State) (H : Heap) (locs : List Loc) : Prop := va_S (fun q => G.b0 ≤ q) s.heap H locs ∧ G.b0 ≤ s.heap.size
def z_Out (r : z_R) (o : Outcome) (s : State) (H : Heap) : Prop := match r with
  | .inl v => o = .returned v
  | .inr X => ∃ (a : Nat) (ce : Cell), o = .threw a ∧ H[a]? = some ce ∧ ce.vm = .none ∧ s.vm.findClass X = some ce.cls
def z_End (G : z_G) (s : State) (below : List Frame) (ss0 : Nat) (Q : z_R → z_H → Prop) : State → Prop := fun t =>
  ∃ (o : Outcome) (r : z_R) (h' : z_H), Q r h' ∧ t.status = .running ∧ Ended t below o ∧ s.WarmedH t.vm ∧
    (∃ L : List Loc, s.sameButNew ({ t with vm := s.vm } : State) L (h'.1 - s.heap.size) (h'.2.1 - ss0) ∧ ∀ x ∈ L, G.b0 ≤ x.base) ∧
    z_Rel G h' s t.heap ∧ (∀ q : Nat, q < G.b0 → t.heap[q]? = s.heap[q]?) ∧ (s.heap.size ≤ h'.1 ∧ ss0 ≤ h'.2.1 ∧ h'.1 ≤ G.b0 + G.cc ∧ h'.2.1 ≤ G.ss) ∧ z_Out r o s t.heap
def z_St (G : z_G) (mt : z_M) (d : Nat) (p : Program) (s : State) (m : MethodId) (args : Array Value) (meth : Method) (c : Code) (R : Room) (ss0 : Nat) (H : Heap) (locs : List Loc) (h : z_H) : Prop :=
  z_Cx G mt p s m args meth c ∧ (d + 6 ≤ R.frames ∧ 35 * d + 150 ≤ R.locals ∧ G.b0 + G.cc ≤ s.heap.size + R.cells ∧ G.ss ≤ ss0 + R.slots) ∧
  (z_Rel G h s H ∧ z_Sx G s H locs ∧ s.heap.size ≤ h.1 ∧ ss0 ≤ h.2.1 ∧ h.1 ≤ G.b0 + G.cc ∧ h.2.1 ≤ G.ss)
/-- from this place of this method, with this picture, the walk comes to an end that Q allows -/
def z_V (G : z_G) (mt : z_M) (d pc : Nat) (lo : List (Nat × Value)) (st : List Value) (h : z_H) (Q : z_R → z_H → Prop) : Prop :=
  ∀ (p : Program) (e : Env) (s : State) (m : MethodId) (args : Array Value) (below : List Frame) (meth : Method) (c : Code) (R : Room) (ss0 : Nat) (H : Heap) (locs : List Loc) (ls : Array Slot),
    z_St G mt d p s m args meth c R ss0 H locs h → lv_has ls mt.2.2.1 lo →
    W p G.l e R s m args below meth c H locs (h.1 - s.heap.size) (h.2.1 - ss0) (z_End G s below ss0 Q) (F0 m pc ls st)
/-- a method's contract at these arguments and this picture -/
def z_C (G : z_G) (mt : z_M) (d : Nat) (as : List Value) (h : z_H) (Q : z_R → z_H → Prop) : Prop :=
  ∀ (p : Program) (e : Env) (s : State) (m : MethodId) (below : List Frame) (meth : Method) (c : Code) (R : Room),
    z_St G mt d p s m as.toArray meth c R h.2.1 s.heap [] h →
    W p G.l e R s m as.toArray below meth c s.heap [] 0 0 (z_End G s below h.2.1 Q) (entryFrame m as.toArray mt.2.2.1)
theorem z_C.of {G : z_G} {mt : z_M} {d : Nat} {as : List Value} {h : z_H} {Q : z_R → z_H → Prop} (hl : (lg_sl as).length ≤ mt.2.2.1) (k : z_V G mt d 0 (lv_args 0 as) [] h Q) : z_C G mt d as h Q := by
  intro p e s m below meth c R S
  have hz : s.heap.size = h.1 := S.2.2.1.1
  have h1 := k p e s m as.toArray below meth c R h.2.1 s.heap [] _ S (lv_entry as hl)
  rw [hz, Nat.sub_self, Nat.sub_self] at h1
  rw [lg_entry_eq]
  exact h1
theorem z_C.mono {G : z_G} {mt : z_M} {d : Nat} {as : List Value} {h : z_H} {Q Q' : z_R → z_H → Prop} (k : z_C G mt d as h Q) (hq : ∀ r h', Q r h' → Q' r h') : z_C G mt d as h Q' := by
  intro p e s m below meth c R S T hT X
  obtain ⟨t, a, o, r, h', b1, b2⟩ := k p e s m below meth c R S T hT X
  exact ⟨t, a, o, r, h', hq r h' b1, b2⟩
theorem z_C.deep {G : z_G} {mt : z_M} {d d' : Nat} {as : List Value} {h : z_H} {Q : z_R → z_H → Prop} (k : z_C G mt d as h Q) (hd : d ≤ d') : z_C G mt d' as h Q := by
  intro p e s m below meth c R S
  obtain ⟨S1, ⟨S2, S3, S4⟩, S5⟩ := S
  exact k p e s m below meth c R ⟨S1, ⟨by omega, by omega, S4⟩, S5⟩
/-! locals -/
def z_get : List (Nat × Value) → Nat → Option Value
  | [], _ => none
  | (j, w) :: t, i => if j = i then some w else z_get t i
theorem z_get_mem : ∀ {lo : List (Nat × Value)} {i : Nat} {v : Value}, z_get lo i = some v → (i, v) ∈ lo
  | [], i, v, h => by cases h
  | (j, w) :: t, i, v, h => by
    unfold z_get at h
    split at h
    · rename_i hj
      cases h
      rw [hj]
      exact List.mem_cons_self
    · exact List.mem_cons_of_mem _ (z_get_mem h)
def z_in : List (Nat × Value) → List (Nat × Value) → Prop
  | [], _ => True
  | q :: t, lo => z_get lo q.1 = some q.2 ∧ z_in t lo
theorem z_in_all : ∀ {lo' lo : List (Nat × Value)}, z_in lo' lo → ∀ q ∈ lo', q ∈ lo
  | [], _, _, q, hq => by cases hq
  | x :: t, lo, h, q, hq => by
    rcases List.mem_cons.mp hq with rfl | hq
    · exact z_get_mem h.1
    · exact z_in_all h.2 q hq
abbrev z_sto (lo : List (Nat × Value)) (i : Nat) (v : Value) : List (Nat × Value) := (i, v) :: lo.filter (fun q => !(q.1 == i) && !(q.1 + 1 == i && q.2.category == 2))
section ZR
variable {G : z_G} {mt : z_M} {d pc : Nat} {lo : List (Nat × Value)} {st : List Value} {h : z_H} {Q : z_R → z_H → Prop}
theorem z_fg (lo' : List (Nat × Value)) (hs : z_in lo' lo) (k : z_V G mt d pc lo' st h Q) : z_V G mt d pc lo st h Q :=
  fun p e s m args below meth c R ss0 H locs ls S hl => k p e s m args below meth c R ss0 H locs ls S ⟨hl.1, hl.2.1, fun q hq => hl.2.2 q (z_in_all hs q hq)⟩
theorem z_V.mono {Q' : z_R → z_H → Prop} (k : z_V G mt d pc lo st h Q) (hq : ∀ r h', Q r h' → Q' r h') : z_V G mt d pc lo st h Q' := by
  intro p e s m args below meth c R ss0 H locs ls S hl T hT X
  obtain ⟨t, a, o, r, h', b1, b2⟩ := k p e s m args below meth c R ss0 H locs ls S hl T hT X
  exact ⟨t, a, o, r, h', hq r h' b1, b2⟩
theorem z_iconst {n : Int} {v : Int32} (hd : decode mt.2.1 pc = .ok (.iconst n, 1)) (hv : Int32.ofInt n = v) (k : z_V G mt d (pc + 1) lo (.int v :: st) h Q) : z_V G mt d pc lo st h Q :=
  fun p e s m args below meth c R ss0 H locs ls S hl => lv_iconst S.1.1.1 S.1.1.2.1 hd hv (k p e s m args below meth c R ss0 H locs ls S hl)
theorem z_bipush {n : Int} {v : Int32} (hd : decode mt.2.1 pc = .ok (.bipush n, 2)) (hv : (Int8.ofInt n).toInt32 = v) (k : z_V G mt d (pc + 2) lo (.int v :: st) h Q) : z_V G mt d pc lo st h Q :=
  fun p e s m args below meth c R ss0 H locs ls S hl => lv_bipush S.1.1.1 S.1.1.2.1 hd hv (k p e s m args below meth c R ss0 H locs ls S hl)
theorem z_sipush {n : Int} {v : Int32} (hd : decode mt.2.1 pc = .ok (.sipush n, 3)) (hv : (Int16.ofInt n).toInt32 = v) (k : z_V G mt d (pc + 3) lo (.int v :: st) h Q) : z_V G mt d pc lo st h Q :=
  fun p e s m args below meth c R ss0 H locs ls S hl => lv_sipush S.1.1.1 S.1.1.2.1 hd hv (k p e s m args below meth c R ss0 H locs ls S hl)
theorem z_lconst {n : Fin 2} {v : Int64} (hd : decode mt.2.1 pc = .ok (.lconst n, 1)) (hv : Int64.ofNat (n : Nat) = v) (k : z_V G mt d (pc + 1) lo (.long v :: st) h Q) : z_V G mt d pc lo st h Q :=
  fun p e s m args below meth c R ss0 H locs ls S hl => lv_lconst S.1.1.1 S.1.1.2.1 hd hv (k p e s m args below meth c R ss0 H locs ls S hl)
theorem z_iload_n {j : Fin 4} {i : Nat} {x : Int32} (hd : decode mt.2.1 pc = .ok (.iload_n j, 1)) (hi : (j : Nat) = i) (hv : z_get lo i = some (.int x)) (k : z_V G mt d (pc + 1) lo (.int x :: st) h Q) : z_V G mt d pc lo st h Q :=
  fun p e s m args below meth c R ss0 H locs ls S hl => lv_iload_n S.1.1.1 S.1.1.2.1 hd hi (hl.2.2 _ (z_get_mem hv)) (k p e s m args below meth c R ss0 H locs ls S hl)
theorem z_iload {i : Nat} {x : Int32} (hd : decode mt.2.1 pc = .ok (.iload i, 2)) (hv : z_get lo i = some (.int x)) (k : z_V G mt d (pc + 2) lo (.int x :: st) h Q) : z_V G mt d pc lo st h Q :=
  fun p e s m args below meth c R ss0 H locs ls S hl => lv_iload S.1.1.1 S.1.1.2.1 hd (hl.2.2 _ (z_get_mem hv)) (k p e s m args below meth c R ss0 H locs ls S hl)
theorem z_aload_n {j : Fin 4} {i : Nat} {x : Nat} (hd : decode mt.2.1 pc = .ok (.aload_n j, 1)) (hi : (j : Nat) = i) (hv : z_get lo i = some (.ref x)) (k : z_V G mt d (pc + 1) lo (.ref x :: st) h Q) : z_V G mt d pc lo st h Q :=
  fun p e s m args below meth c R ss0 H locs ls S hl => lv_aload_n S.1.1.1 S.1.1.2.1 hd hi (hl.2.2 _ (z_get_mem hv)) (k p e s m args below meth c R ss0 H locs ls S hl)
theorem z_aload {i : Nat} {x : Nat} (hd : decode mt.2.1 pc = .ok (.aload i, 2)) (hv : z_get lo i = some (.ref x)) (k : z_V G mt d (pc + 2) lo (.ref x :: st) h Q) : z_V G mt d pc lo st h Q :=
  fun p e s m args below meth c R ss0 H locs ls S hl => lv_aload S.1.1.1 S.1.1.2.1 hd (hl.2.2 _ (z_get_mem hv)) (k p e s m args below meth c R ss0 H locs ls S hl)
theorem z_istore_n {j : Fin 4} {i : Nat} {x : Int32} (hd : decode mt.2.1 pc = .ok (.istore_n j, 1)) (hi : (j : Nat) = i) (hn : i < mt.2.2.1) (k : z_V G mt d (pc + 1) (z_sto lo i (.int x)) st h Q) : z_V G mt d pc lo (.int x :: st) h Q :=
  fun p e s m args below meth c R ss0 H locs ls S hl => lv_istore_n S.1.1.1 S.1.1.2.1 hd hi hl hn rfl (fun ls' hl' => k p e s m args below meth c R ss0 H locs ls' S hl')
theorem z_istore {i : Nat} {x : Int32} (hd : decode mt.2.1 pc = .ok (.istore i, 2)) (hn : i < mt.2.2.1) (k : z_V G mt d (pc + 2) (z_sto lo i (.int x)) st h Q) : z_V G mt d pc lo (.int x :: st) h Q :=
  fun p e s m args below meth c R ss0 H locs ls S hl => lv_istore S.1.1.1 S.1.1.2.1 hd hl hn rfl (fun ls' hl' => k p e s m args below meth c R ss0 H locs ls' S hl')
theorem z_astore_n {j : Fin 4} {i : Nat} {x : Nat} (hd : decode mt.2.1 pc = .ok (.astore_n j, 1)) (hi : (j : Nat) = i) (hn : i < mt.2.2.1) (k : z_V G mt d (pc + 1) (z_sto lo i (.ref x)) st h Q) : z_V G mt d pc lo (.ref x :: st) h Q :=
  fun p e s m args below meth c R ss0 H locs ls S hl => lv_astore_n S.1.1.1 S.1.1.2.1 hd hi hl hn rfl (fun ls' hl' => k p e s m args below meth c R ss0 H locs ls' S hl')
theorem z_astore {i : Nat} {x : Nat} (hd : decode mt.2.1 pc = .ok (.astore i, 2)) (hn : i < mt.2.2.1) (k : z_V G mt d (pc + 2) (z_sto lo i (.ref x)) st h Q) : z_V G mt d pc lo (.ref x :: st) h Q :=
  fun p e s m args below meth c R ss0 H locs ls S hl => lv_astore S.1.1.1 S.1.1.2.1 hd hl hn rfl (fun ls' hl' => k p e s m args below meth c R ss0 H locs ls' S hl')
theorem z_iinc {i : Nat} {n : Int} {x v : Int32} (hd : decode mt.2.1 pc = .ok (.iinc i n, 3)) (hg : z_get lo i = some (.int x)) (hv : x + Int32.ofInt n = v) (hn : i < mt.2.2.1) (k : z_V G mt d (pc + 3) (z_sto lo i (.int v)) st h Q) : z_V G mt d pc lo st h Q := by
  obtain ⟨j, hj⟩ := List.getElem?_of_mem (z_get_mem hg)
  exact fun p e s m args below meth c R ss0 H locs ls S hl => lv_iinc S.1.1.1 S.1.1.2.1 hd hl hj hv hn rfl (fun ls' hl' => k p e s m args below meth c R ss0 H locs ls' S hl')
theorem z_iadd {x y : Int32} (hd : decode mt.2.1 pc = .ok (.iadd, 1)) (k : z_V G mt d (pc + 1) lo (.int (x + y) :: st) h Q) : z_V G mt d pc lo (.int y :: .int x :: st) h Q :=
  fun p e s m args below meth c R ss0 H locs ls S hl => lv_iadd S.1.1.1 S.1.1.2.1 hd (k p e s m args below meth c R ss0 H locs ls S hl)
theorem z_isub {x y : Int32} (hd : decode mt.2.1 pc = .ok (.isub, 1)) (k : z_V G mt d (pc + 1) lo (.int (x - y) :: st) h Q) : z_V G mt d pc lo (.int y :: .int x :: st) h Q :=
  fun p e s m args below meth c R ss0 H locs ls S hl => lv_isub S.1.1.1 S.1.1.2.1 hd (k p e s m args below meth c R ss0 H locs ls S hl)
theorem z_imul {x y : Int32} (hd : decode mt.2.1 pc = .ok (.imul, 1)) (k : z_V G mt d (pc + 1) lo (.int (x * y) :: st) h Q) : z_V G mt d pc lo (.int y :: .int x :: st) h Q :=
  fun p e s m args below meth c R ss0 H locs ls S hl => lv_imul S.1.1.1 S.1.1.2.1 hd (k p e s m args below meth c R ss0 H locs ls S hl)
theorem z_iand {x y : Int32} (hd : decode mt.2.1 pc = .ok (.iand, 1)) (k : z_V G mt d (pc + 1) lo (.int (x &&& y) :: st) h Q) : z_V G mt d pc lo (.int y :: .int x :: st) h Q :=
  fun p e s m args below meth c R ss0 H locs ls S hl => lv_iand S.1.1.1 S.1.1.2.1 hd (k p e s m args below meth c R ss0 H locs ls S hl)
theorem z_ior {x y : Int32} (hd : decode mt.2.1 pc = .ok (.ior, 1)) (k : z_V G mt d (pc + 1) lo (.int (x ||| y) :: st) h Q) : z_V G mt d pc lo (.int y :: .int x :: st) h Q :=
  fun p e s m args below meth c R ss0 H locs ls S hl => lv_ior S.1.1.1 S.1.1.2.1 hd (k p e s m args below meth c R ss0 H locs ls S hl)
theorem z_dup {x : Value} (hd : decode mt.2.1 pc = .ok (.dup, 1)) (hc : x.category = 1) (k : z_V G mt d (pc + 1) lo (x :: x :: st) h Q) : z_V G mt d pc lo (x :: st) h Q :=
  fun p e s m args below meth c R ss0 H locs ls S hl => lv_dup S.1.1.1 S.1.1.2.1 hd hc (k p e s m args below meth c R ss0 H locs ls S hl)
theorem z_pop {x : Value} (hd : decode mt.2.1 pc = .ok (.pop, 1)) (hc : x.category = 1) (k : z_V G mt d (pc + 1) lo st h Q) : z_V G mt d pc lo (x :: st) h Q :=
  fun p e s m args below meth c R ss0 H locs ls S hl => lv_pop S.1.1.1 S.1.1.2.1 hd hc (k p e s m args below meth c R ss0 H locs ls S hl)
theorem z_goto {off : Int} {tgt : Nat} (hd : decode mt.2.1 pc = .ok (.goto off, 3)) (ht : (pc : Int) + off = (tgt : Int)) (k : z_V G mt d tgt lo st h Q) : z_V G mt d pc lo st h Q :=
  fun p e s m args below meth c R ss0 H locs ls S hl => lv_goto S.1.1.1 S.1.1.2.1 hd ht (k p e s m args below meth c R ss0 H locs ls S hl)
theorem z_if_eq {x : Int32} {off : Int} {tgt : Nat} (hd : decode mt.2.1 pc = .ok (.ifCond .eq off, 3)) (ht : (pc : Int) + off = (tgt : Int)) (kt : x = 0 → z_V G mt d tgt lo st h Q) (kf : ¬ x = 0 → z_V G mt d (pc + 3) lo st h Q) : z_V G mt d pc lo (.int x :: st) h Q :=
  fun p e s m args below meth c R ss0 H locs ls S hl => lv_if_eq S.1.1.1 S.1.1.2.1 hd ht (fun z => kt z p e s m args below meth c R ss0 H locs ls S hl) (fun z => kf z p e s m args below meth c R ss0 H locs ls S hl)
theorem z_icmp_eq {x y : Int32} {off : Int} {tgt : Nat} (hd : decode mt.2.1 pc = .ok (.if_icmp .eq off, 3)) (ht : (pc : Int) + off = (tgt : Int)) (kt : x = y → z_V G mt d tgt lo st h Q) (kf : ¬ x = y → z_V G mt d (pc + 3) lo st h Q) : z_V G mt d pc lo (.int y :: .int x :: st) h Q :=
  fun p e s m args below meth c R ss0 H locs ls S hl => lv_icmp_eq S.1.1.1 S.1.1.2.1 hd ht (fun z => kt z p e s m args below meth c R ss0 H locs ls S hl) (fun z => kf z p e s m args below meth c R ss0 H locs ls S hl)
theorem z_if_ne {x : Int32} {off : Int} {tgt : Nat} (hd : decode mt.2.1 pc = .ok (.ifCond .ne off, 3)) (ht : (pc : Int) + off = (tgt : Int)) (kt : ¬ x = 0 → z_V G mt d tgt lo st h Q) (kf : x = 0 → z_V G mt d (pc + 3) lo st h Q) : z_V G mt d pc lo (.int x :: st) h Q :=
  fun p e s m args below meth c R ss0 H locs ls S hl => lv_if_ne S.1.1.1 S.1.1.2.1 hd ht (fun z => kt z p e s m args below meth c R ss0 H locs ls S hl) (fun z => kf z p e s m args below meth c R ss0 H locs ls S hl)
theorem z_icmp_ne {x y : Int32} {off : Int} {tgt : Nat} (hd : decode mt.2.1 pc = .ok (.if_icmp .ne off, 3)) (ht : (pc : Int) + off = (tgt : Int)) (kt : ¬ x = y → z_V G mt d tgt lo st h Q) (kf : x = y → z_V G mt d (pc + 3) lo st h Q) : z_V G mt d pc lo (.int y :: .int x :: st) h Q :=
  fun p e s m args below meth c R ss0 H locs ls S hl => lv_icmp_ne S.1.1.1 S.1.1.2.1 hd ht (fun z => kt z p e s m args below meth c R ss0 H locs ls S hl) (fun z => kf z p e s m args below meth c R ss0 H locs ls S hl)
theorem z_if_lt {x : Int32} {off : Int} {tgt : Nat} (hd : decode mt.2.1 pc = .ok (.ifCond .lt off, 3)) (ht : (pc : Int) + off = (tgt : Int)) (kt : x < 0 → z_V G mt d tgt lo st h Q) (kf : ¬ x < 0 → z_V G mt d (pc + 3) lo st h Q) : z_V G mt d pc lo (.int x :: st) h Q :=
  fun p e s m args below meth c R ss0 H locs ls S hl => lv_if_lt S.1.1.1 S.1.1.2.1 hd ht (fun z => kt z p e s m args below meth c R ss0 H locs ls S hl) (fun z => kf z p e s m args below meth c R ss0 H locs ls S hl)
theorem z_icmp_lt {x y : Int32} {off : Int} {tgt : Nat} (hd : decode mt.2.1 pc = .ok (.if_icmp .lt off, 3)) (ht : (pc : Int) + off = (tgt : Int)) (kt : x < y → z_V G mt d tgt lo st h Q) (kf : ¬ x < y → z_V G mt d (pc + 3) lo st h Q) : z_V G mt d pc lo (.int y :: .int x :: st) h Q :=
  fun p e s m args below meth c R ss0 H locs ls S hl => lv_icmp_lt S.1.1.1 S.1.1.2.1 hd ht (fun z => kt z p e s m args below meth c R ss0 H locs ls S hl) (fun z => kf z p e s m args below meth c R ss0 H locs ls S hl)
theorem z_if_ge {x : Int32} {off : Int} {tgt : Nat} (hd : decode mt.2.1 pc = .ok (.ifCond .ge off, 3)) (ht : (pc : Int) + off = (tgt : Int)) (kt : 0 ≤ x → z_V G mt d tgt lo st h Q) (kf : ¬ 0 ≤ x → z_V G mt d (pc + 3) lo st h Q) : z_V G mt d pc lo (.int x :: st) h Q :=
  fun p e s m args below meth c R ss0 H locs ls S hl => lv_if_ge S.1.1.1 S.1.1.2.1 hd ht (fun z => kt z p e s m args below meth c R ss0 H locs ls S hl) (fun z => kf z p e s m args below meth c R ss0 H locs ls S hl)
theorem z_icmp_ge {x y : Int32} {off : Int} {tgt : Nat} (hd : decode mt.2.1 pc = .ok (.if_icmp .ge off, 3)) (ht : (pc : Int) + off = (tgt : Int)) (kt : y ≤ x → z_V G mt d tgt lo st h Q) (kf : ¬ y ≤ x → z_V G mt d (pc + 3) lo st h Q) : z_V G mt d pc lo (.int y :: .int x :: st) h Q :=
  fun p e s m args below meth c R ss0 H locs ls S hl => lv_icmp_ge S.1.1.1 S.1.1.2.1 hd ht (fun z => kt z p e s m args below meth c R ss0 H locs ls S hl) (fun z => kf z p e s m args below meth c R ss0 H locs ls S hl)
theorem z_if_gt {x : Int32} {off : Int} {tgt : Nat} (hd : decode mt.2.1 pc = .ok (.ifCond .gt off, 3)) (ht : (pc : Int) + off = (tgt : Int)) (kt : 0 < x → z_V G mt d tgt lo st h Q) (kf : ¬ 0 < x → z_V G mt d (pc + 3) lo st h Q) : z_V G mt d pc lo (.int x :: st) h Q :=
  fun p e s m args below meth c R ss0 H locs ls S hl => lv_if_gt S.1.1.1 S.1.1.2.1 hd ht (fun z => kt z p e s m args below meth c R ss0 H locs ls S hl) (fun z => kf z p e s m args below meth c R ss0 H locs ls S hl)
theorem z_icmp_gt {x y : Int32} {off : Int} {tgt : Nat} (hd : decode mt.2.1 pc = .ok (.if_icmp .gt off, 3)) (ht : (pc : Int) + off = (tgt : Int)) (kt : y < x → z_V G mt d tgt lo st h Q) (kf : ¬ y < x → z_V G mt d (pc + 3) lo st h Q) : z_V G mt d pc lo (.int y :: .int x :: st) h Q :=
  fun p e s m args below meth c R ss0 H locs ls S hl => lv_icmp_gt S.1.1.1 S.1.1.2.1 hd ht (fun z => kt z p e s m args below meth c R ss0 H locs ls S hl) (fun z => kf z p e s m args below meth c R ss0 H locs ls S hl)
theorem z_if_le {x : Int32} {off : Int} {tgt : Nat} (hd : decode mt.2.1 pc = .ok (.ifCond .le off, 3)) (ht : (pc : Int) + off = (tgt : Int)) (kt : x ≤ 0 → z_V G mt d tgt lo st h Q) (kf : ¬ x ≤ 0 → z_V G mt d (pc + 3) lo st h Q) : z_V G mt d pc lo (.int x :: st) h Q :=
  fun p e s m args below meth c R ss0 H locs ls S hl => lv_if_le S.1.1.1 S.1.1.2.1 hd ht (fun z => kt z p e s m args below meth c R ss0 H locs ls S hl) (fun z => kf z p e s m args below meth c R ss0 H locs ls S hl)
theorem z_icmp_le {x y : Int32} {off : Int} {tgt : Nat} (hd : decode mt.2.1 pc = .ok (.if_icmp .le off, 3)) (ht : (pc : Int) + off = (tgt : Int)) (kt : x ≤ y → z_V G mt d tgt lo st h Q) (kf : ¬ x ≤ y → z_V G mt d (pc + 3) lo st h Q) : z_V G mt d pc lo (.int y :: .int x :: st) h Q :=
  fun p e s m args below meth c R ss0 H locs ls S hl => lv_icmp_le S.1.1.1 S.1.1.2.1 hd ht (fun z => kt z p e s m args below meth c R ss0 H locs ls S hl) (fun z => kf z p e s m args below meth c R ss0 H locs ls S hl)
theorem z_ishl {x y : Int32} (hd : decode mt.2.1 pc = .ok (.ishl, 1)) (k : z_V G mt d (pc + 1) lo (.int (x <<< (y &&& 31)) :: st) h Q) : z_V G mt d pc lo (.int y :: .int x :: st) h Q :=
  fun p e s m args below meth c R ss0 H locs ls S hl => lv_ishl S.1.1.1 S.1.1.2.1 hd (k p e s m args below meth c R ss0 H locs ls S hl)
theorem z_ishr {x y : Int32} (hd : decode mt.2.1 pc = .ok (.ishr, 1)) (k : z_V G mt d (pc + 1) lo (.int (x >>> (y &&& 31)) :: st) h Q) : z_V G mt d pc lo (.int y :: .int x :: st) h Q :=
  fun p e s m args below meth c R ss0 H locs ls S hl => lv_ishr S.1.1.1 S.1.1.2.1 hd (k p e s m args below meth c R ss0 H locs ls S hl)
theorem z_dup2 {x y : Value} (hd : decode mt.2.1 pc = .ok (.dup2, 1)) (h1 : x.category = 1) (h2 : y.category = 1) (k : z_V G mt d (pc + 1) lo (x :: y :: x :: y :: st) h Q) : z_V G mt d pc lo (x :: y :: st) h Q :=
  fun p e s m args below meth c R ss0 H locs ls S hl => lv_dup2_11 S.1.1.1 S.1.1.2.1 hd h1 h2 (k p e s m args below meth c R ss0 H locs ls S hl)
theorem z_i2l {x : Int32} {v : Int64} (hd : decode mt.2.1 pc = .ok (.i2l, 1)) (hv : x.toInt64 = v) (k : z_V G mt d (pc + 1) lo (.long v :: st) h Q) : z_V G mt d pc lo (.int x :: st) h Q :=
  fun p e s m args below meth c R ss0 H locs ls S hl => lv_i2l S.1.1.1 S.1.1.2.1 hd hv (k p e s m args below meth c R ss0 H locs ls S hl)
theorem z_lcmp {x y : Int64} (hd : decode mt.2.1 pc = .ok (.lcmp, 1)) (k : z_V G mt d (pc + 1) lo (.int (lg_cmp x y) :: st) h Q) : z_V G mt d pc lo (.long y :: .long x :: st) h Q :=
  fun p e s m args below meth c R ss0 H locs ls S hl => W.lcmp S.1.1.1 S.1.1.2.1 hd (k p e s m args below meth c R ss0 H locs ls S hl)
theorem z_topi {x : Int32} (k : ∀ y : Int32, y = x → z_V G mt d pc lo (.int y :: st) h Q) : z_V G mt d pc lo (.int x :: st) h Q := k x rfl
theorem z_eqi {x y : Int32} (hxy : x = y) (k : z_V G mt d pc lo (.int y :: st) h Q) : z_V G mt d pc lo (.int x :: st) h Q := hxy ▸ k
theorem z_tableIn {dflt lw hi : Int} {offs : Array Int} {len : Nat} {x : Int32} {off : Int} {tgt : Nat} (hd : decode mt.2.1 pc = .ok (.tableswitch dflt lw hi offs, len)) (h1 : ¬ x.toInt < lw) (h2 : ¬ hi < x.toInt) (ho : offs[(x.toInt - lw).toNat]? = some off) (ht : (pc : Int) + off = (tgt : Int)) (k : z_V G mt d tgt lo st h Q) : z_V G mt d pc lo (.int x :: st) h Q :=
  fun p e s m args below meth c R ss0 H locs ls S hl => lv_tableIn S.1.1.1 S.1.1.2.1 hd h1 h2 ho ht (k p e s m args below meth c R ss0 H locs ls S hl)
theorem z_tableOut {dflt lw hi : Int} {offs : Array Int} {len : Nat} {x : Int32} {tgt : Nat} (hd : decode mt.2.1 pc = .ok (.tableswitch dflt lw hi offs, len)) (h1 : x.toInt < lw ∨ hi < x.toInt) (ht : (pc : Int) + dflt = (tgt : Int)) (k : z_V G mt d tgt lo st h Q) : z_V G mt d pc lo (.int x :: st) h Q :=
  fun p e s m args below meth c R ss0 H locs ls S hl => lv_tableOut S.1.1.1 S.1.1.2.1 hd h1 ht (k p e s m args below meth c R ss0 H locs ls S hl)
/-! the ends -/
theorem z_ends {p : Program} {s : State} {m : MethodId} {args : Array Value} {below : List Frame} {meth : Method} {c : Code} {R : Room} {ss0 : Nat} {H : Heap} {locs : List Loc} {T : State} {v : Option Value} {fs : List Frame}
    (S : z_St G mt d p s m args meth c R ss0 H locs h) (hT : T.heap = H) (hq : Q (.inl v) h) (hrun : (T.setFrames fs).status = .running) (hended : Ended (T.setFrames fs) below (.returned v)) (hW : s.WarmedH (T.setFrames fs).vm)
    (hframe : s.sameButNew ({ T.setFrames fs with vm := s.vm } : State) locs (h.1 - s.heap.size) (h.2.1 - ss0)) : z_End G s below ss0 Q (T.setFrames fs) := by
  obtain ⟨-, -, S1, S2, S3⟩ := S
  refine ⟨.returned v, .inl v, h, hq, hrun, hended, hW, ⟨locs, hframe, S2.1.2.2⟩, ?_, ?_, S3, rfl⟩
  · show z_Rel G h s T.heap
    rw [hT]
    exact S1
  · intro q hq
    show T.heap[q]? = s.heap[q]?
    rw [hT]
    exact S2.1.2.1 q (Nat.lt_of_lt_of_le hq S2.2) (Nat.not_le.mpr hq)
theorem z_ireturn {v : Int32} {ty : FieldType} (hd : decode mt.2.1 pc = .ok (.ireturn, 1)) (hr : mt.2.2.2.1 = some ty) (hn : narrow ty (.int v) = .int v) (hq : Q (.inl (some (.int v))) h) : z_V G mt d pc lo [.int v] h Q := by
  intro p e s m args below meth c R ss0 H locs ls S hl T hT X
  have hx : p.tables.exec = Jvm.exec := S.1.1.1
  have hb : c.code = mt.2.1 := S.1.1.2.1
  have hlocks : meth.locks = false := S.1.2.1.2.1
  have hr0 : meth.sig.returnType = some ty := S.1.1.2.2.2.trans hr
  obtain ⟨fs, hret, hrun, hended, hW, hframe⟩ := X.leave (v := some (.int v)) (fun h => by rw [hr0] at h; cases h)
  have hmeth' : T.vm.method? m = some meth := X.method'
  refine ⟨T.setFrames fs, ?_, z_ends S hT hq hrun hended hW hframe⟩
  jvm_step X.here [X.here.top, hx, hb, hd, hmeth', hr0, hn]
  (try refine ⟨rfl, ?_⟩); (try refine ⟨rfl, ?_⟩)
  first | (intro acts; rw [hret _ acts rfl rfl rfl]) | rw [hret _ _ rfl rfl rfl]
  exact Steps.refl _
theorem z_return (hd : decode mt.2.1 pc = .ok (.return_, 1)) (hr : mt.2.2.2.1 = none) (hq : Q (.inl none) h) : z_V G mt d pc lo [] h Q := by
  intro p e s m args below meth c R ss0 H locs ls S hl T hT X
  have hx : p.tables.exec = Jvm.exec := S.1.1.1
  have hb : c.code = mt.2.1 := S.1.1.2.1
  have hlocks : meth.locks = false := S.1.2.1.2.1
  have hr0 : meth.sig.returnType = none := S.1.1.2.2.2.trans hr
  obtain ⟨fs, hret, hrun, hended, hW, hframe⟩ := X.leave (v := none) (fun _ => rfl)
  have hmeth' : T.vm.method? m = some meth := X.method'
  refine ⟨T.setFrames fs, ?_, z_ends S hT hq hrun hended hW hframe⟩
  jvm_step X.here [X.here.top, hx, hb, hd, hmeth', hr0]
  (try refine ⟨rfl, ?_⟩); (try refine ⟨rfl, ?_⟩)
  first | (intro acts; rw [hret _ acts rfl rfl rfl]) | rw [hret _ _ rfl rfl rfl]
  exact Steps.refl _
theorem z_areturn {a : Nat} {n : String} (hd : decode mt.2.1 pc = .ok (.areturn, 1)) (hr : mt.2.2.2.1 = some (.object n)) (hq : Q (.inl (some (.ref a))) h) : z_V G mt d pc lo [.ref a] h Q := by
  intro p e s m args below meth c R ss0 H locs ls S hl T hT X
  have hx : p.tables.exec = Jvm.exec := S.1.1.1
  have hb : c.code = mt.2.1 := S.1.1.2.1
  have hlocks : meth.locks = false := S.1.2.1.2.1
  have hr0 : meth.sig.returnType = some (.object n) := S.1.1.2.2.2.trans hr
  obtain ⟨fs, hret, hrun, hended, hW, hframe⟩ := X.leave (v := some (.ref a)) (fun h => by rw [hr0] at h; cases h)
  have hmeth' : T.vm.method? m = some meth := X.method'
  refine ⟨T.setFrames fs, ?_, z_ends S hT hq hrun hended hW hframe⟩
  jvm_step X.here [X.here.top, hx, hb, hd, hmeth', hr0]
  (try refine ⟨rfl, ?_⟩); (try refine ⟨rfl, ?_⟩)
  first | (intro acts; rw [hret _ acts rfl rfl rfl]) | rw [hret _ _ rfl rfl rfl]
  exact Steps.refl _
end ZR
end
section
/-! the heap's rows -/
abbrev z_set (h : z_H) (a : Nat) (e : va_E) : z_H := (h.1, h.2.1, va_up h.2.2 a (some e))
abbrev z_new (h : z_H) (n : Nat) (e : va_E) : z_H := (h.1 + 1, h.2.1 + n, va_up h.2.2 h.1 (some e))
section ZA
variable {p : Program} {l : Launch} {e : Env} {R : Room} {s : State} {m : MethodId} {args : Array Value} {below : List Frame} {meth : Method} {c : Code} {H H1 : Heap} {locs locs1 : List Loc} {cells slots : Nat} {Q : State → Prop}
theorem z_sz {g : JFrame} (k : H.size ≤ s.heap.size + cells → W p l e R s m args below meth c H locs cells slots Q g) : W p l e R s m args below meth c H locs cells slots Q g :=
  fun T hT X => k (hT ▸ X.heapSize) T hT X
variable {G : z_G} {mt : z_M} {d ss0 : Nat} {h : z_H}
theorem z_rf (S : z_St G mt d p s m args meth c R ss0 H locs h) : va_S (fun q => G.b0 ≤ q) H H locs := ⟨Nat.le_refl _, fun _ _ _ => rfl, S.2.2.2.1.1.2.2⟩
theorem z_Sx.go (S : z_Sx G s H locs) (hS : va_S (fun q => G.b0 ≤ q) H H1 locs1) : z_Sx G s H1 locs1 :=
  ⟨⟨Nat.le_trans S.1.1 hS.1, fun q h1 h2 => (hS.2.1 q (Nat.lt_of_lt_of_le h1 S.1.1) h2).trans (S.1.2.1 q h1 h2), hS.2.2⟩, S.2⟩
theorem z_wr (S : z_St G mt d p s m args meth c R ss0 H locs h) {ws : va_W} (hD : va_D (fun q => G.b0 ≤ q) ws) (hcov : ∀ (a : Nat) (e : va_E), h.2.2 a = some e → ∃ k : Nat, ws[k]? = some (a, e)) {k a : Nat} {e0 e : va_E} (hk : ws[k]? = some (a, e0))
    (hP1 : va_P G.D G.cl (ws.set k (a, e)) H1) (hD1 : va_D (fun q => G.b0 ≤ q) (ws.set k (a, e))) (hS1 : va_S (fun q => G.b0 ≤ q) H H1 locs1) (hz : H1.size ≤ s.heap.size + (h.1 - s.heap.size)) : z_St G mt d p s m args meth c R ss0 H1 locs1 (z_set h a e) := by
  obtain ⟨S1, S2, ⟨Ra, -, Rz1, Rz2, Rx, Rb⟩, S4, S5⟩ := S
  have hz1 := hS1.1
  have hz2 := S5.1
  have hl := (List.getElem?_eq_some_iff.mp hk).1
  refine ⟨S1, S2, ⟨by show H1.size = h.1; omega, ⟨ws.set k (a, e), hP1, hD1, fun b x hb => ?_⟩, Rz1.kept (fun q hq => hS1.2.1 q (by have := S4.2; omega) (Nat.not_le.mpr hq)), Rz2.kept (fun q hq => hS1.2.1 q (by have := S4.2; omega) (Nat.not_le.mpr hq)), Rx.kept (hS1.2.1 _ (by have := S4.2; omega) (Nat.not_le.mpr Rb)), Rb⟩, S4.go hS1, S5⟩
  have hb : va_up h.2.2 a (some e) b = some x := hb
  by_cases hba : b = a
  · subst hba
    rw [va_up_self] at hb
    cases hb
    exact ⟨k, List.getElem?_set_self hl⟩
  · rw [va_up_ne _ _ hba] at hb
    obtain ⟨j, hj⟩ := hcov b x hb
    refine ⟨j, ?_⟩
    have hjk : k ≠ j := fun q => hba (by subst q; rw [hk] at hj; cases hj; rfl)
    rw [List.getElem?_set_ne hjk]
    exact hj
theorem z_nw (S : z_St G mt d p s m args meth c R ss0 H locs h) {n : Nat} {e : va_E} (hc : h.1 + 1 ≤ G.b0 + G.cc) (hn : h.2.1 + n ≤ G.ss) (he : va_at G.D G.cl (h.1, e) H1) (hz : H1.size = h.1 + 1) (ho : ∀ q, q < h.1 → H1[q]? = H[q]?) : z_St G mt d p s m args meth c R ss0 H1 locs (z_new h n e) := by
  obtain ⟨S1, S2, ⟨Ra, ⟨ws, hP, hD, hcov⟩, Rz1, Rz2, Rx, Rb⟩, S4, S5⟩ := S
  have hk : ∀ (k : Nat) (x : Nat × va_E), ws[k]? = some x → H1[x.1]? = H[x.1]? := fun k x hx => ho x.1 (by rw [← Ra]; exact (hP k x hx).lt)
  have hb0 : G.b0 ≤ h.1 := Nat.le_trans S4.2 S5.1
  have hS : va_S (fun q => G.b0 ≤ q) H H1 locs := ⟨by omega, fun q h1 _ => ho q (by omega), S4.1.2.2⟩
  refine ⟨S1, S2, ⟨hz, ⟨ws ++ [(h.1, e)], (hP.kept hk).app (fun k x hx => ?_), hD.push hP Ra.symm hb0, fun b x hb => ?_⟩, Rz1.kept (fun q hq => hS.2.1 q (by omega) (Nat.not_le.mpr hq)), Rz2.kept (fun q hq => hS.2.1 q (by omega) (Nat.not_le.mpr hq)), Rx.kept (hS.2.1 _ (by omega) (Nat.not_le.mpr Rb)), Rb⟩, S4.go hS, ?_⟩
  · have hz : k < 1 := (List.getElem?_eq_some_iff.mp hx).1
    rw [show k = 0 by omega] at hx
    cases hx
    exact he
  · have hb : va_up h.2.2 h.1 (some e) b = some x := hb
    by_cases hba : b = h.1
    · subst hba
      rw [va_up_self] at hb
      cases hb
      exact ⟨ws.length, by simp⟩
    · rw [va_up_ne _ _ hba] at hb
      obtain ⟨j, hj⟩ := hcov b x hb
      exact ⟨j, by rw [List.getElem?_append_left (List.getElem?_eq_some_iff.mp hj).1]; exact hj⟩
  · obtain ⟨t1, t2, t3, t4⟩ := S5
    exact ⟨by show s.heap.size ≤ h.1 + 1; omega, by show ss0 ≤ h.2.1 + n; omega, hc, hn⟩
end ZA
/-- a class of the program: its place, name, fields, types -/
def z_cls (G : z_G) (ci : Nat) (C : String) (T : u_T) (N : Nat) (ty : Nat → FieldType) : Prop :=
  G.cl[ci]? = some (C, T, N) ∧ (∀ w ∈ u_ws C T N, w ∈ G.Ts) ∧ (∀ k, k < N → parseFieldDescriptor (T k).2.2.1 = some (ty k)) ∧ (∀ a, a < N → ∀ b, b < N → a ≠ b → (T a).2.1 ≠ (T b).2.1)
/-- a field that a class's pool names at index -/
def z_lnk (G : z_G) (own : String) (index : Nat) (T : u_T) (k : Nat) : Prop :=
  Cond.fieldLink own index (T k).1 (T k).2.1 (T k).2.2.1 ∈ G.Ts ∨ ∃ host : String, Cond.fieldLinkNest own index (T k).1 (T k).2.1 (T k).2.2.1 host ∈ G.Ts
section ZH
variable {G : z_G} {mt : z_M} {d pc : Nat} {lo : List (Nat × Value)} {st : List Value} {h : z_H} {Q : z_R → z_H → Prop}
theorem z_getf {ci N k idx a : Nat} {C : String} {T : u_T} {ty : Nat → FieldType} {fs : List Value} {v : Value} (K : z_cls G ci C T N ty) (hk : k < N) (L : z_lnk G mt.1.cls idx T k) (hd : decode mt.2.1 pc = .ok (.getfield idx, 3)) (he : h.2.2 a = some (.inr (ci, fs))) (hv : fs[k]? = some v)
    (kk : z_V G mt d (pc + 3) lo (v :: st) h Q) : z_V G mt d pc lo (.ref a :: st) h Q := by
  intro p e s m args below meth c R ss0 H locs ls S hl
  obtain ⟨ws, hP, hD, hcov⟩ := S.2.2.1.2.1
  obtain ⟨q0, hq⟩ := hcov a _ he
  have hts := S.1.2.2.2.1
  rcases L with L | ⟨host, L⟩
  · exact va_get S.1.1.1 S.1.1.2.1 hts K.2.1 S.1.2.1.1 S.1.2.2.1 hP q0 hq K.1 k hk (hts _ L) (fun _ z => z) hv hd (kk p e s m args below meth c R ss0 H locs ls S hl)
  · exact va_getN S.1.1.1 S.1.1.2.1 hts K.2.1 S.1.2.1.1 S.1.2.2.1 hP q0 hq K.1 k hk (hts _ L) (fun _ z => z) hv hd (kk p e s m args below meth c R ss0 H locs ls S hl)
theorem z_putf {ci N k idx a : Nat} {C : String} {T : u_T} {ty : Nat → FieldType} {fs : List Value} {v : Value} (K : z_cls G ci C T N ty) (hk : k < N) (L : z_lnk G mt.1.cls idx T k) (hfin : (T k).2.2.2 = false) (hd : decode mt.2.1 pc = .ok (.putfield idx, 3)) (he : h.2.2 a = some (.inr (ci, fs))) (hn : narrow (ty k) v = v) (hf : fits (ty k) v = true) (hl : k < fs.length)
    (kk : z_V G mt d (pc + 3) lo st (z_set h a (.inr (ci, fs.set k v))) Q) : z_V G mt d pc lo (v :: .ref a :: st) h Q := by
  intro p e s m args below meth c R ss0 H locs ls S hls
  obtain ⟨ws, hP, hD, hcov⟩ := S.2.2.1.2.1
  obtain ⟨q0, hq⟩ := hcov a _ he
  have hts := S.1.2.2.2.1
  rcases L with L | ⟨host, L⟩
  · exact va_put S.1.1.1 S.1.1.2.1 hts K.2.1 ty K.2.2.1 K.2.2.2 S.1.2.1.1 S.1.2.2.1 hP hD (z_rf S) q0 hq K.1 k hk (hts _ L) (fun _ z => z) hfin (K.2.2.1 k hk) hn hf hl hd (fun H1 locs1 hP1 hD1 hS1 => z_sz fun hz => kk p e s m args below meth c R ss0 H1 locs1 ls (z_wr S hD hcov hq hP1 hD1 hS1 hz) hls)
  · exact va_putN S.1.1.1 S.1.1.2.1 hts K.2.1 ty K.2.2.1 K.2.2.2 S.1.2.1.1 S.1.2.2.1 hP hD (z_rf S) q0 hq K.1 k hk (hts _ L) (fun _ z => z) hfin (K.2.2.1 k hk) hn hf hl hd (fun H1 locs1 hP1 hD1 hS1 => z_sz fun hz => kk p e s m args below meth c R ss0 H1 locs1 ls (z_wr S hD hcov hq hP1 hD1 hS1 hz) hls)
theorem z_putF {ci N k idx a : Nat} {C : String} {T : u_T} {ty : Nat → FieldType} {fs : List Value} {v : Value} (K : z_cls G ci C T N ty) (hk : k < N) (L : Cond.fieldLink mt.1.cls idx (T k).1 (T k).2.1 (T k).2.2.1 ∈ G.Ts) (hfin : (T k).2.2.2 = true) (hi : mt.1.name = "<init>") (ho : (T k).1 = mt.1.cls) (hd : decode mt.2.1 pc = .ok (.putfield idx, 3)) (he : h.2.2 a = some (.inr (ci, fs))) (hn : narrow (ty k) v = v) (hf : fits (ty k) v = true) (hl : k < fs.length)
    (kk : z_V G mt d (pc + 3) lo st (z_set h a (.inr (ci, fs.set k v))) Q) : z_V G mt d pc lo (v :: .ref a :: st) h Q := by
  intro p e s m args below meth c R ss0 H locs ls S hls
  obtain ⟨ws, hP, hD, hcov⟩ := S.2.2.1.2.1
  obtain ⟨q0, hq⟩ := hcov a _ he
  have hts := S.1.2.2.2.1
  exact va_putF S.1.1.1 S.1.1.2.1 hts K.2.1 ty K.2.2.1 K.2.2.2 S.1.2.1.1 S.1.2.2.1 hP hD (z_rf S) q0 hq K.1 k hk (hts _ L) (fun _ z => z) hfin (S.1.2.1.2.2.1.trans hi) ho (K.2.2.1 k hk) hn hf hl hd (fun H1 locs1 hP1 hD1 hS1 => z_sz fun hz => kk p e s m args below meth c R ss0 H1 locs1 ls (z_wr S hD hcov hq hP1 hD1 hS1 hz) hls)
theorem z_iald {t0 a n : Nat} {cA : ClassId} {f : Nat → Int32} {i : Int32} (hd : decode mt.2.1 pc = .ok (.iaload, 1)) (ht : G.tys[t0]? = some (cA, .int)) (he : h.2.2 a = some (.inl (cA, n, .inl f))) (hin : vp_in i n)
    (kk : z_V G mt d (pc + 1) lo (.int (f i.toNatClampNeg) :: st) h Q) : z_V G mt d pc lo (.int i :: .ref a :: st) h Q := by
  intro p e s m args below meth c R ss0 H locs ls S hl
  obtain ⟨ws, hP, hD, hcov⟩ := S.2.2.1.2.1
  obtain ⟨q0, hq⟩ := hcov a _ he
  exact va_iald S.1.1.1 S.1.1.2.1 S.1.2.2.1 hP q0 t0 hq ht hin hd (kk p e s m args below meth c R ss0 H locs ls S hl)
theorem z_zald {t0 a n : Nat} {cA : ClassId} {f : Nat → Int32} {i : Int32} (hd : decode mt.2.1 pc = .ok (.baload, 1)) (ht : G.tys[t0]? = some (cA, .boolean)) (he : h.2.2 a = some (.inl (cA, n, .inl f))) (hin : vp_in i n)
    (kk : z_V G mt d (pc + 1) lo (.int (f i.toNatClampNeg) :: st) h Q) : z_V G mt d pc lo (.int i :: .ref a :: st) h Q := by
  intro p e s m args below meth c R ss0 H locs ls S hl
  obtain ⟨ws, hP, hD, hcov⟩ := S.2.2.1.2.1
  obtain ⟨q0, hq⟩ := hcov a _ he
  exact va_zald S.1.1.1 S.1.1.2.1 S.1.2.2.1 hP q0 t0 hq ht hin hd (kk p e s m args below meth c R ss0 H locs ls S hl)
theorem z_lald {t0 a n : Nat} {cA : ClassId} {f : Nat → Int64} {i : Int32} (hd : decode mt.2.1 pc = .ok (.laload, 1)) (ht : G.tys[t0]? = some (cA, .long)) (he : h.2.2 a = some (.inl (cA, n, .inr (.inl f)))) (hin : vp_in i n)
    (kk : z_V G mt d (pc + 1) lo (.long (f i.toNatClampNeg) :: st) h Q) : z_V G mt d pc lo (.int i :: .ref a :: st) h Q := by
  intro p e s m args below meth c R ss0 H locs ls S hl
  obtain ⟨ws, hP, hD, hcov⟩ := S.2.2.1.2.1
  obtain ⟨q0, hq⟩ := hcov a _ he
  exact va_lald S.1.1.1 S.1.1.2.1 S.1.2.2.1 hP q0 t0 hq ht hin hd (kk p e s m args below meth c R ss0 H locs ls S hl)
theorem z_aald {t0 a n x : Nat} {cA : ClassId} {C : String} {f : Nat → Option Nat} {i : Int32} (hd : decode mt.2.1 pc = .ok (.aaload, 1)) (ht : G.tys[t0]? = some (cA, .object C)) (he : h.2.2 a = some (.inl (cA, n, .inr (.inr (.inr (.inr f)))))) (hin : vp_in i n) (hx : f i.toNatClampNeg = some x)
    (kk : z_V G mt d (pc + 1) lo (.ref x :: st) h Q) : z_V G mt d pc lo (.int i :: .ref a :: st) h Q := by
  intro p e s m args below meth c R ss0 H locs ls S hl
  obtain ⟨ws, hP, hD, hcov⟩ := S.2.2.1.2.1
  obtain ⟨q0, hq⟩ := hcov a _ he
  refine va_aldq S.1.1.1 S.1.1.2.1 S.1.2.2.1 hP q0 t0 hq ht hin hd ?_
  rw [hx]
  exact kk p e s m args below meth c R ss0 H locs ls S hl
theorem z_alen {t0 a : Nat} {cA : ClassId} {x : vp_A} {ty : FieldType} {v : Int32} (hd : decode mt.2.1 pc = .ok (.arraylength, 1)) (ht : G.tys[t0]? = some (cA, ty)) (he : h.2.2 a = some (.inl (cA, x))) (hv : Int32.ofNat x.1 = v)
    (kk : z_V G mt d (pc + 1) lo (.int v :: st) h Q) : z_V G mt d pc lo (.ref a :: st) h Q := by
  intro p e s m args below meth c R ss0 H locs ls S hl
  obtain ⟨ws, hP, hD, hcov⟩ := S.2.2.1.2.1
  obtain ⟨q0, hq⟩ := hcov a _ he
  exact va_alen S.1.1.1 S.1.1.2.1 S.1.2.2.1 hP q0 t0 hq ht hv hd (kk p e s m args below meth c R ss0 H locs ls S hl)
theorem z_sld {i : Int32} (hd : decode mt.2.1 pc = .ok (.iaload, 1)) (hin : vp_in i G.x.2.1) (kk : z_V G mt d (pc + 1) lo (.int (G.x.2.2 i.toNatClampNeg) :: st) h Q) : z_V G mt d pc lo (.int i :: .ref G.x.1 :: st) h Q := by
  intro p e s m args below meth c R ss0 H locs ls S hl
  obtain ⟨scr, h1, h2, h3, h4, h5⟩ := S.2.2.1.2.2.2.2.1
  have hlt : i.toNatClampNeg < G.x.2.1 := Nat.not_le.mp fun q => hin (Or.inr q)
  exact W.iald (v := .int (G.x.2.2 i.toNatClampNeg)) S.1.1.1 S.1.1.2.1 h1 h2 h3 (by rw [h4]; exact hin) (h5 _ hlt) rfl rfl hd (kk p e s m args below meth c R ss0 H locs ls S hl)
theorem z_slen (hd : decode mt.2.1 pc = .ok (.arraylength, 1)) (kk : z_V G mt d (pc + 1) lo (.int (Int32.ofNat G.x.2.1) :: st) h Q) : z_V G mt d pc lo (.ref G.x.1 :: st) h Q := by
  intro p e s m args below meth c R ss0 H locs ls S hl
  obtain ⟨scr, h1, h2, h3, h4, h5⟩ := S.2.2.1.2.2.2.2.1
  exact W.alen (n := Int32.ofNat G.x.2.1) S.1.1.1 S.1.1.2.1 h1 h2 (by rw [h4] <;> rfl) rfl rfl hd (kk p e s m args below meth c R ss0 H locs ls S hl)
theorem z_iast {t0 a n : Nat} {cA : ClassId} {f : Nat → Int32} {i x : Int32} (hd : decode mt.2.1 pc = .ok (.iastore, 1)) (ht : G.tys[t0]? = some (cA, .int)) (he : h.2.2 a = some (.inl (cA, n, .inl f))) (hin : vp_in i n)
    (kk : z_V G mt d (pc + 1) lo st (z_set h a (.inl (cA, n, .inl (upd f i.toNatClampNeg x)))) Q) : z_V G mt d pc lo (.int x :: .int i :: .ref a :: st) h Q := by
  intro p e s m args below meth c R ss0 H locs ls S hl
  obtain ⟨ws, hP, hD, hcov⟩ := S.2.2.1.2.1
  obtain ⟨q0, hq⟩ := hcov a _ he
  exact va_iast S.1.1.1 S.1.1.2.1 S.1.2.2.1 hP hD (z_rf S) q0 t0 hq ht hin hd (fun H1 locs1 hP1 hD1 hS1 => z_sz fun hz => kk p e s m args below meth c R ss0 H1 locs1 ls (z_wr S hD hcov hq hP1 hD1 hS1 hz) hl)
theorem z_zast {t0 a n : Nat} {cA : ClassId} {f : Nat → Int32} {i x : Int32} (hd : decode mt.2.1 pc = .ok (.bastore, 1)) (ht : G.tys[t0]? = some (cA, .boolean)) (he : h.2.2 a = some (.inl (cA, n, .inl f))) (hin : vp_in i n)
    (kk : z_V G mt d (pc + 1) lo st (z_set h a (.inl (cA, n, .inl (upd f i.toNatClampNeg (vp_nar .boolean x))))) Q) : z_V G mt d pc lo (.int x :: .int i :: .ref a :: st) h Q := by
  intro p e s m args below meth c R ss0 H locs ls S hl
  obtain ⟨ws, hP, hD, hcov⟩ := S.2.2.1.2.1
  obtain ⟨q0, hq⟩ := hcov a _ he
  exact va_zast S.1.1.1 S.1.1.2.1 S.1.2.2.1 hP hD (z_rf S) q0 t0 hq ht hin hd (fun H1 locs1 hP1 hD1 hS1 => z_sz fun hz => kk p e s m args below meth c R ss0 H1 locs1 ls (z_wr S hD hcov hq hP1 hD1 hS1 hz) hl)
theorem z_last {t0 a n : Nat} {cA : ClassId} {f : Nat → Int64} {i : Int32} {x : Int64} (hd : decode mt.2.1 pc = .ok (.lastore, 1)) (ht : G.tys[t0]? = some (cA, .long)) (he : h.2.2 a = some (.inl (cA, n, .inr (.inl f)))) (hin : vp_in i n)
    (kk : z_V G mt d (pc + 1) lo st (z_set h a (.inl (cA, n, .inr (.inl (vp_updL f i.toNatClampNeg x))))) Q) : z_V G mt d pc lo (.long x :: .int i :: .ref a :: st) h Q := by
  intro p e s m args below meth c R ss0 H locs ls S hl
  obtain ⟨ws, hP, hD, hcov⟩ := S.2.2.1.2.1
  obtain ⟨q0, hq⟩ := hcov a _ he
  exact va_last S.1.1.1 S.1.1.2.1 S.1.2.2.1 hP hD (z_rf S) q0 t0 hq ht hin hd (fun H1 locs1 hP1 hD1 hS1 => z_sz fun hz => kk p e s m args below meth c R ss0 H1 locs1 ls (z_wr S hD hcov hq hP1 hD1 hS1 hz) hl)
theorem z_aast {t0 a n x ci N : Nat} {cA : ClassId} {C : String} {T : u_T} {ty : Nat → FieldType} {fs : List Value} {f : Nat → Option Nat} {i : Int32} (K : z_cls G ci C T N ty) (hd : decode mt.2.1 pc = .ok (.aastore, 1)) (ht : G.tys[t0]? = some (cA, .object C)) (he : h.2.2 a = some (.inl (cA, n, .inr (.inr (.inr (.inr f)))))) (hx : h.2.2 x = some (.inr (ci, fs))) (hin : vp_in i n)
    (kk : z_V G mt d (pc + 1) lo st (z_set h a (.inl (cA, n, .inr (.inr (.inr (.inr (va_up f i.toNatClampNeg (some x)))))))) Q) : z_V G mt d pc lo (.ref x :: .int i :: .ref a :: st) h Q := by
  intro p e s m args below meth c R ss0 H locs ls S hl
  obtain ⟨ws, hP, hD, hcov⟩ := S.2.2.1.2.1
  obtain ⟨q0, hq⟩ := hcov a _ he
  obtain ⟨q1, hq1⟩ := hcov x _ hx
  exact va_astq S.1.1.1 S.1.1.2.1 S.1.2.2.1 hP hD (z_rf S) q0 t0 q1 ci (r := (C, T, N)) hq ht hq1 K.1 hin hd (fun H1 locs1 hP1 hD1 hS1 => z_sz fun hz => kk p e s m args below meth c R ss0 H1 locs1 ls (z_wr S hD hcov hq hP1 hD1 hS1 hz) hl)
theorem z_copy {t0 a0 a n0 n1 idx : Nat} {cA : ClassId} {f g : Nat → Int32} {sp dp n : Int32} (hd : decode mt.2.1 pc = .ok (.invokestatic idx, 3)) (ht : G.tys[t0]? = some (cA, .int)) (w1 : Cond.methodLink mt.1.cls idx arraycopyName ∈ G.Ts) (w2 : Cond.native arraycopyName ∈ G.Ts) (w3 : Cond.static arraycopyName ∈ G.Ts) (w4 : Cond.initialized "java/lang/System" ∈ G.Ts)
    (he0 : h.2.2 a0 = some (.inl (cA, n0, .inl f))) (he : h.2.2 a = some (.inl (cA, n1, .inl g))) (h1 : ¬ sp < 0) (h2 : ¬ dp < 0) (h3 : ¬ n < 0) (h4 : sp.toNatClampNeg + n.toNatClampNeg ≤ n0) (h5 : dp.toNatClampNeg + n.toNatClampNeg ≤ n1)
    (hst : (st.map fun v => v.category).sum + (nativeFrameWords "java/lang/System" "arraycopy" 5 + 11) ≤ 150)
    (kk : z_V G mt d (pc + 3) lo st (z_set h a (.inl (cA, n1, .inl (va_cpy f g sp.toNatClampNeg dp.toNatClampNeg n.toNatClampNeg)))) Q) : z_V G mt d pc lo (.int n :: .int dp :: .ref a :: .int sp :: .ref a0 :: st) h Q := by
  intro p e s m args below meth c R ss0 H locs ls S hl
  obtain ⟨ws, hP, hD, hcov⟩ := S.2.2.1.2.1
  obtain ⟨q0, hq0⟩ := hcov a0 _ he0
  obtain ⟨q1, hq⟩ := hcov a _ he
  have hts := S.1.2.2.2.1
  have hR := S.2.1
  exact va_copyi S.1.1.1 S.1.1.2.1 (S.1.1.2.2.1.trans hl.1.symm) S.1.2.1.1 (hts _ w1) (hts _ w2) (hts _ w3) (hts _ w4) S.1.2.2.1 hP hD (z_rf S) q0 q1 t0 t0 hq0 hq ht ht rfl h1 h2 h3 h4 h5 (fun _ _ => rfl) (by omega) (by omega) hd (fun H1 locs1 hP1 hD1 hS1 => z_sz fun hz => kk p e s m args below meth c R ss0 H1 locs1 ls (z_wr S hD hcov hq hP1 hD1 hS1 hz) hl)
theorem z_newo {ci N idx : Nat} {C : String} {T : u_T} {ty : Nat → FieldType} {fs : List Value} (K : z_cls G ci C T N ty) (hd : decode mt.2.1 pc = .ok (.new idx, 3)) (w1 : Cond.classLink mt.1.cls idx C ∈ G.Ts) (w2 : Cond.instantiable C N ∈ G.Ts) (w3 : Cond.initialized C ∈ G.Ts) (hfs : ∀ j, j < N → defaultValue (ty j) = vp_V fs j) (hc : h.1 + 1 ≤ G.b0 + G.cc) (hs : h.2.1 + N ≤ G.ss)
    (kk : z_V G mt d (pc + 3) lo (.ref h.1 :: st) (z_new h N (.inr (ci, fs))) Q) : z_V G mt d pc lo st h Q := by
  intro p e s m args below meth c R ss0 H locs ls S hl
  have hts := S.1.2.2.2.1
  have hR := S.2.1
  have hZ := S.2.2.2.2
  have hKn := S.1.2.2.1.1 ci _ K.1
  refine W.newcK S.1.1.1 S.1.1.2.1 S.1.2.1.1 (hts _ w1) (hts _ w2) (hts _ w3) rfl hd (by omega) (by omega) hKn.2.1 S.2.2.1.1 fun H1 kC hkC e1 z1 o1 => ?_
  refine W.cs (cells' := h.1 + 1 - s.heap.size) (slots' := h.2.1 + N - ss0) (by omega) (by omega) ?_
  exact kk p e s m args below meth c R ss0 H1 locs ls (z_nw S hc hs ⟨_, K.1, (u_born ty hts K.2.1 hKn hkC e1 K.2.2.1).to hfs⟩ z1 o1) hl
theorem z_newa {t0 N' : Nat} {cA : ClassId} {atype : ArrayType} {ty : FieldType} {n : Int32} {a0 : vp_A} (hd : decode mt.2.1 pc = .ok (.newarray atype, 2)) (hty : newarray.typeOf atype = ty) (w1 : Cond.arrayClass ty ∈ G.Ts) (ht : G.tys[t0]? = some (cA, ty)) (hra : ∀ (U : State) (x : ClassId), va_RA U x ty → U.vm.findClass ("[" ++ ty.toString) = some x) (ha : ∀ x : ClassId, vp_cell x a0 = arrV x N' (fun _ => defaultValue ty)) (hn : ¬ n < 0) (hN : n.toNatClampNeg = N') (hby : N' * componentBytes ty ≤ 536870912) (hc : h.1 + 1 ≤ G.b0 + G.cc) (hs : h.2.1 + N' ≤ G.ss)
    (kk : z_V G mt d (pc + 2) lo (.ref h.1 :: st) (z_new h N' (.inl (cA, a0))) Q) : z_V G mt d pc lo (.int n :: st) h Q := by
  subst hty
  intro p e s m args below meth c R ss0 H locs ls S hl
  have hts := S.1.2.2.2.1
  have hR := S.2.1
  have hZ := S.2.2.2.2
  refine va_newaK S.1.1.1 S.1.1.2.1 (hts _ w1) rfl hd rfl hn hN hby (by omega) (by omega) S.2.2.1.1 fun H1 x e1 z1 o1 hAr hNm => ?_
  have hx : x = cA := Option.some.inj (hNm.symm.trans (hra s cA (S.1.2.2.1.2 t0 _ ht).2))
  subst hx
  refine W.cs (cells' := h.1 + 1 - s.heap.size) (slots' := h.2.1 + N' - ss0) (by omega) (by omega) ?_
  exact kk p e s m args below meth c R ss0 H1 locs ls (z_nw S hc hs (by show H1[h.1]? = some (vp_cell _ _); rw [ha]; exact e1) z1 o1) hl
theorem z_anew {t0 N' idx : Nat} {cA : ClassId} {C : String} {n : Int32} (hd : decode mt.2.1 pc = .ok (.anewarray idx, 3)) (w1 : Cond.classLink mt.1.cls idx C ∈ G.Ts) (w2 : Cond.arrayOver (.object C) ∈ G.Ts) (ht : G.tys[t0]? = some (cA, .object C)) (hn : ¬ n < 0) (hN : n.toNatClampNeg = N') (hby : N' * 4 ≤ 536870912) (hc : h.1 + 1 ≤ G.b0 + G.cc) (hs : h.2.1 + N' ≤ G.ss)
    (kk : z_V G mt d (pc + 3) lo (.ref h.1 :: st) (z_new h N' (.inl (cA, N', .inr (.inr (.inr (.inr (fun _ => none))))))) Q) : z_V G mt d pc lo (.int n :: st) h Q := by
  subst hN
  intro p e s m args below meth c R ss0 H locs ls S hl
  have hts := S.1.2.2.2.1
  have hR := S.2.1
  have hZ := S.2.2.2.2
  have hz0 : H.size = h.1 := S.2.2.1.1
  refine W.anew S.1.1.1 S.1.1.2.1 S.1.2.1.1 (hts _ w1) (hts _ w2) rfl hd rfl hn hby (by omega) (by omega) fun x kA comp f1 f2 f3 f4 => ?_
  obtain ⟨-, -, -, -, -, f5⟩ := (S.1.2.2.1.2 t0 _ ht).2
  have hx : x = cA := Option.some.inj (f1.symm.trans f5)
  subst hx
  generalize hH1 : H.push ({ cls := x, slots := Array.replicate n.toNatClampNeg .null, vm := .none } : Cell) = H1
  have z1 : H1.size = h.1 + 1 := by rw [← hH1, Array.size_push, hz0]
  have e1 : H1[h.1]? = some (arrV x n.toNatClampNeg (fun _ => .null)) := by rw [← hH1, ← hz0, Array.getElem?_push_size, ← arrV_new]
  have o1 : ∀ q : Nat, q < h.1 → H1[q]? = H[q]? := fun q hq => by rw [← hH1, Array.getElem?_push, if_neg (by omega)]
  rw [hz0]
  refine W.cs (cells' := h.1 + 1 - s.heap.size) (slots' := h.2.1 + n.toNatClampNeg - ss0) (by omega) (by omega) ?_
  exact kk p e s m args below meth c R ss0 H1 locs ls (z_nw S hc hs (by show H1[h.1]? = some (vp_cell _ _); rw [vp_cell_q]; exact e1) z1 o1) hl
theorem z_oinit {a idx : Nat} (hd : decode mt.2.1 pc = .ok (.invokespecial idx, 3)) (w1 : Cond.methodLink mt.1.cls idx Lib.objectInit ∈ G.Ts) (w2 : Cond.instanceMethod Lib.objectInit ∈ G.Ts) (w3 : Cond.code Lib.objectInit ⟨#[0xb1]⟩ 1 none ∈ G.Ts) (hst : (st.map fun v => v.category).sum ≤ 8)
    (kk : z_V G mt d (pc + 3) lo st h Q) : z_V G mt d pc lo (.ref a :: st) h Q := by
  intro p e s m args below meth c R ss0 H locs ls S hl
  have hts := S.1.2.2.2.1
  have hR := S.2.1
  exact W.objInit S.1.1.1 S.1.1.2.1 S.1.2.1.1 (hts _ w1) (hts _ w2) (hts _ w3) rfl (hl.1.trans S.1.1.2.2.1.symm) rfl hd (by omega) (by show 2 * 0 + _ + 12 ≤ _; omega) (kk p e s m args below meth c R ss0 H locs ls S hl)
end ZH
end
