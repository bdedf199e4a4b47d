section
/-! A walk's picture: the heap's size, the slots made so far, the known cells. A method's row: name, code, locals, answer, handlers. An outcome: an answer, or an exception's class. -/
abbrev z_H : Type := Nat × Nat × (Nat → Option va_E)
abbrev z_M : Type := MethodName × ByteArray × Nat × Option FieldType × List (Nat × Nat × Nat × Nat)
abbrev z_R : Type := Option Value ⊕ String
abbrev z_G : Type := Launch × Nat × va_G × List (ClassId × FieldType) × List Cond × List vw_C × Nat × Nat × (Nat × Nat × (Nat → Int32))
abbrev z_G.l (G : z_G) : Launch := G.1
abbrev z_G.b0 (G : z_G) : Nat := G.2.1
abbrev z_G.D (G : z_G) : va_G := G.2.2.1
abbrev z_G.tys (G : z_G) : List (ClassId × FieldType) := G.2.2.2.1
abbrev z_G.Ts (G : z_G) : List Cond := G.2.2.2.2.1
abbrev z_G.cl (G : z_G) : List vw_C := G.2.2.2.2.2.1
abbrev z_G.cc (G : z_G) : Nat := G.2.2.2.2.2.2.1
abbrev z_G.ss (G : z_G) : Nat := G.2.2.2.2.2.2.2.1
abbrev z_G.x (G : z_G) : Nat × Nat × (Nat → Int32) := G.2.2.2.2.2.2.2.2
/-- the words that hold on in every state with warmer tables -/
def z_mv : Cond → Bool
  | .fieldLinkNest .. => true
  | .methodLinkNest .. => true
  | .castable .. => true
  | .not (.castable ..) => true
  | .declares .. => true
  | .arrayOver (.object _) => true
  | w => goodWord w
theorem z_notCast {C T : String} {a a' : Array Value} {s U : State} (hW : s.WarmedH U.vm) (hb : (Cond.not (.castable C T)).before a s = true) : (Cond.not (.castable C T)).before a' U = true := by
  obtain ⟨c, t, h1, h2, h3⟩ := va_Nc.moved hW.alike (va_Nc.of hb)
  simp [Cond.before, Cond.holds, Cond.value, h1, h2, h3]
theorem z_move {w : Cond} (h : z_mv w = true) {a a' : Array Value} {s U : State} (hW : s.WarmedH U.vm) (hb : w.before a s = true) : w.before a' U = true := by
  unfold z_mv at h
  split at h
  · exact va_Nw.use rfl (va_Nw.warmF hW (va_Nw.of rfl hb))
  · exact va_Nw.use rfl (va_Nw.warmM hW (va_Nw.of rfl hb))
  · exact va_Nw.use rfl (va_Nw.warmC hW (va_Nw.of rfl hb))
  · exact z_notCast hW hb
  · exact va_Nw.use rfl (va_Nw.warmD hW (va_Nw.of rfl hb))
  · exact va_AO.use (va_AO.moved hW.alike (va_AO.of hb))
  · exact word_at hW (good_of_word h) hb
/-- a static of references lies below b, and stays there -/
def z_Zs (C n d : String) (b : Nat) (U : State) (H : Heap) : Prop := ∃ (c : ClassId) (k : Class) (i : Nat) (f : Field) (a : Nat) (cell : Cell) (v : Value), U.vm.findClass C = some c ∧ U.fieldFound? C n d = some (c, k, i, f) ∧ f.isStatic = true ∧ k.statics = some a ∧ H[a]? = some cell ∧ cell.vm.isStatics = true ∧ cell.cls = c ∧
  f.slot < cell.slots.size ∧ k.staticTypes[f.slot]? = some f.type ∧ cell.slots[f.slot]? = some v ∧ v.isRef = true ∧ a < b
theorem z_Zs.moved {C n d : String} {b : Nat} {u U : State} {H : Heap} (hvm : u.vm.Alike U.vm) (h : z_Zs C n d b u H) : z_Zs C n d b U H := by
  obtain ⟨c, k, i, f, a, cell, v, h0, h1, h2, h3, h4, h5, h6, h7, h8, h9⟩ := h
  obtain ⟨k', hi', he⟩ := State.fieldFound?_setVm (s := u) hvm h1
  exact ⟨c, k', i, f, a, cell, v, by rw [hvm.findClass]; exact h0, hi', h2, by rw [he]; exact h3, h4, h5, h6, h7, by rw [he]; exact h8, h9⟩
theorem z_Zs.kept {C n d : String} {b : Nat} {U : State} {H H1 : Heap} (h : z_Zs C n d b U H) (hq : ∀ a : Nat, a < b → H1[a]? = H[a]?) : z_Zs C n d b U H1 := by
  obtain ⟨c, k, i, f, a, cell, v, h0, h1, h2, h3, h4, h5, h6, h7, h8, h9, h10, h11⟩ := h
  exact ⟨c, k, i, f, a, cell, v, h0, h1, h2, h3, by rw [hq a h11]; exact h4, h5, h6, h7, h8, h9, h10, h11⟩
theorem z_Zs.lays {C n d : String} {b : Nat} {U : State} (h : z_Zs C n d b U U.heap) (a : Array Value) : (Cond.laysStatic C n d).before a U = true := by
  obtain ⟨c, k, i, f, q, cell, v, h0, h1, h2, h3, h4, h5, h6, h7, h8, -⟩ := h
  simp [Cond.before, Cond.holds, Cond.value, h0, h1, h2, h3, h4, h5, h6, h7, h8]
theorem z_Zs.isRef {C n d : String} {b : Nat} {U : State} (h : z_Zs C n d b U U.heap) (a : Array Value) : (Cond.isRef (.static C n d)).before a U = true := by
  obtain ⟨c, k, i, f, q, cell, v, h0, h1, h2, h3, h4, h5, h6, h7, h8, h9, h10, -⟩ := h
  cases v with
  | null => simp [Cond.before, Cond.holds, Cond.value, Term.eval, State.fieldNamed?, h1, h2, h3, h4, h5, h9]
  | ref t => simp [Cond.before, Cond.holds, Cond.value, Term.eval, State.fieldNamed?, h1, h2, h3, h4, h5, h9]
  | _ => cases h10
theorem z_Zs.of {args : Array Value} {s : State} {C n d : String} (hl : (Cond.laysStatic C n d).before args s = true) (h : (Cond.isRef (.static C n d)).before args s = true) : z_Zs C n d s.heap.size s s.heap := by
  obtain ⟨c, k, i, f, a, cell, h0, h1, h2, h3, h4, h5, h6, h7, h8⟩ := Cond.laysStatic_spec hl
  cases hv : (Term.static C n d).eval args s none [] s with
  | none => simp [Cond.before, Cond.holds, Cond.value, hv] at h
  | some w =>
    obtain ⟨hst', a', cell', ha', hcell', -, hslot⟩ := Term.static_spec h1 hv
    cases h3.symm.trans ha'
    cases h4.symm.trans hcell'
    refine ⟨c, k, i, f, a, cell, w, h0, h1, h2, h3, h4, h5, h6, h7, h8, hslot, ?_, (Array.getElem?_eq_some_iff.mp h4).1⟩
    simp only [Cond.before, Cond.holds, Cond.value, hv] at h
    cases w <;> first | rfl | (simp at h)
/-- what a method's own walk may lean on -/
def z_Cx (G : z_G) (mt : z_M) (p : Program) (s : State) (m : MethodId) (args : Array Value) (meth : Method) (c : Code) : Prop :=
  (p.tables.exec = Jvm.exec ∧ c.code = mt.2.1 ∧ c.maxLocals = mt.2.2.1 ∧ meth.sig.returnType = mt.2.2.2.1) ∧
  (s.vm.findClass mt.1.cls = some m.cls ∧ meth.locks = false ∧ meth.name = mt.1.name ∧ c.exceptionTable.toList.map (fun h => (h.startPc, h.endPc, h.handlerPc, h.catchType)) = mt.2.2.2.2) ∧
  (va_K G.D G.cl G.tys s ∧ (∀ w ∈ G.Ts, w.before args s = true) ∧ (∀ w ∈ G.Ts, z_mv w = true) ∧ ∀ e : Env, G.l.admits e → e.platform.stackTraces = false)
/-- the heap is as the picture has it; the two statics of Throwable, and the script, lie below -/
def z_Rel (G : z_G) (h : z_H) (s : State) (H : Heap) : Prop :=
  H.size = h.1 ∧ (∃ ws : va_W, va_P G.D G.cl ws H ∧ va_D (fun q => G.b0 ≤ q) ws ∧ ∀ (a : Nat) (e : va_E), h.2.2 a = some e → ∃ k : Nat, ws[k]? = some (a, e)) ∧
  z_Zs "java/lang/Throwable" "UNASSIGNED_STACK" "[Ljava/lang/StackTraceElement;" G.b0 s H ∧ z_Zs "java/lang/Throwable" "SUPPRESSED_SENTINEL" "Ljava/util/List;" G.b0 s H ∧ va_X G.x.1 G.x.2.1 G.x.2.2 s H ∧ G.x.1 < G.b0
/-- since the method began, nothing below has changed -/
def z_Sx (G : z_G) (s : State) (H : Heap) (locs : List Loc) : Prop := va_S (fun q => G.b0 ≤ q) s.heap H locs ∧ G.b0 ≤ s.heap.size
def z_Out (r : z_R) (o : Outcome) (s : State) (H : Heap) : Prop := match r with
  | .inl v => o = .returned v
  | .inr X => ∃ (a : Nat) (ce : Cell), o = .threw a ∧ H[a]? = some ce ∧ ce.vm = .none ∧ s.vm.findClass X = some ce.cls
def z_End (G : z_G) (s : State) (below : List Frame) (ss0 : Nat) (Q : z_R → z_H → Prop) : State → Prop := fun t =>
  ∃ (o : Outcome) (r : z_R) (h' : z_H), Q r h' ∧ t.status = .running ∧ Ended t below o ∧ s.WarmedH t.vm ∧
    (∃ L : List Loc, s.sameButNew ({ t with vm := s.vm } : State) L (h'.1 - s.heap.size) (h'.2.1 - ss0) ∧ ∀ x ∈ L, G.b0 ≤ x.base) ∧
    z_Rel G h' s t.heap ∧ (∀ q : Nat, q < G.b0 → t.heap[q]? = s.heap[q]?) ∧ (s.heap.size ≤ h'.1 ∧ ss0 ≤ h'.2.1 ∧ h'.1 ≤ G.b0 + G.cc ∧ h'.2.1 ≤ G.ss) ∧ z_Out r o s t.heap
def z_St (G : z_G) (mt : z_M) (d : Nat) (p : Program) (s : State) (m : MethodId) (args : Array Value) (meth : Method) (c : Code) (R : Room) (ss0 : Nat) (H : Heap) (locs : List Loc) (h : z_H) : Prop :=
  z_Cx G mt p s m args meth c ∧ (d + 6 ≤ R.frames ∧ 35 * d + 150 ≤ R.locals ∧ G.b0 + G.cc ≤ s.heap.size + R.cells ∧ G.ss ≤ ss0 + R.slots) ∧
  (z_Rel G h s H ∧ z_Sx G s H locs ∧ s.heap.size ≤ h.1 ∧ ss0 ≤ h.2.1 ∧ h.1 ≤ G.b0 + G.cc ∧ h.2.1 ≤ G.ss)
/-- from this place of this method, with this picture, the walk comes to an end that Q allows -/
def z_V (G : z_G) (mt : z_M) (d pc : Nat) (lo : List (Nat × Value)) (st : List Value) (h : z_H) (Q : z_R → z_H → Prop) : Prop :=
  ∀ (p : Program) (e : Env) (s : State) (m : MethodId) (args : Array Value) (below : List Frame) (meth : Method) (c : Code) (R : Room) (ss0 : Nat) (H : Heap) (locs : List Loc) (ls : Array Slot),
    z_St G mt d p s m args meth c R ss0 H locs h → lv_has ls mt.2.2.1 lo →
    W p G.l e R s m args below meth c H locs (h.1 - s.heap.size) (h.2.1 - ss0) (z_End G s below ss0 Q) (F0 m pc ls st)
/-- a method's contract at these arguments and this picture -/
def z_C (G : z_G) (mt : z_M) (d : Nat) (as : List Value) (h : z_H) (Q : z_R → z_H → Prop) : Prop :=
  ∀ (p : Program) (e : Env) (s : State) (m : MethodId) (below : List Frame) (meth : Method) (c : Code) (R : Room),
    z_St G mt d p s m as.toArray meth c R h.2.1 s.heap [] h →
    W p G.l e R s m as.toArray below meth c s.heap [] 0 0 (z_End G s below h.2.1 Q) (entryFrame m as.toArray mt.2.2.1)
theorem z_C.of {G : z_G} {mt : z_M} {d : Nat} {as : List Value} {h : z_H} {Q : z_R → z_H → Prop} (hl : (lg_sl as).length ≤ mt.2.2.1) (k : z_V G mt d 0 (lv_args 0 as) [] h Q) : z_C G mt d as h Q := by
  intro p e s m below meth c R S
  have hz : s.heap.size = h.1 := S.2.2.1.1
  have h1 := k p e s m as.toArray below meth c R h.2.1 s.heap [] _ S (lv_entry as hl)
  rw [hz, Nat.sub_self, Nat.sub_self] at h1
  rw [lg_entry_eq]
  exact h1
theorem z_C.mono {G : z_G} {mt : z_M} {d : Nat} {as : List Value} {h : z_H} {Q Q' : z_R → z_H → Prop} (k : z_C G mt d as h Q) (hq : ∀ r h', Q r h' → Q' r h') : z_C G mt d as h Q' := by
  intro p e s m below meth c R S T hT X
  obtain ⟨t, a, o, r, h', b1, b2⟩ := k p e s m below meth c R S T hT X
  exact ⟨t, a, o, r, h', hq r h' b1, b2⟩
theorem z_C.deep {G : z_G} {mt : z_M} {d d' : Nat} {as : List Value} {h : z_H} {Q : z_R → z_H → Prop} (k : z_C G mt d as h Q) (hd : d ≤ d') : z_C G mt d' as h Q := by
  intro p e s m below meth c R S
  obtain ⟨S1, ⟨S2, S3, S4⟩, S5⟩ := S
  exact k p e s m below meth c R ⟨S1, ⟨by omega, by omega, S4⟩, S5⟩
/-! locals -/
def z_get : List (Nat × Value) → Nat → Option Value
  | [], _ => none
  | (j, w) :: t, i => if j = i then some w else z_get t i
theorem z_get_mem : ∀ {lo : List (Nat × Value)} {i : Nat} {v : Value}, z_get lo i = some v → (i, v) ∈ lo
  | [], i, v, h => by cases h
  | (j, w) :: t, i, v, h => by
    unfold z_get at h
    split at h
    · rename_i hj
      cases h
      rw [hj]
      exact List.mem_cons_self
    · exact List.mem_cons_of_mem _ (z_get_mem h)
def z_in : List (Nat × Value) → List (Nat × Value) → Prop
  | [], _ => True
  | q :: t, lo => z_get lo q.1 = some q.2 ∧ z_in t lo
theorem z_in_all : ∀ {lo' lo : List (Nat × Value)}, z_in lo' lo → ∀ q ∈ lo', q ∈ lo
  | [], _, _, q, hq => by cases hq
  | x :: t, lo, h, q, hq => by
    rcases List.mem_cons.mp hq with rfl | hq
    · exact z_get_mem h.1
    · exact z_in_all h.2 q hq
abbrev z_sto (lo : List (Nat × Value)) (i : Nat) (v : Value) : List (Nat × Value) := (i, v) :: lo.filter (fun q => !(q.1 == i) && !(q.1 + 1 == i && q.2.category == 2))
section ZR
variable {G : z_G} {mt : z_M} {d pc : Nat} {lo : List (Nat × Value)} {st : List Value} {h : z_H} {Q : z_R → z_H → Prop}
theorem z_fg (lo' : List (Nat × Value)) (hs : z_in lo' lo) (k : z_V G mt d pc lo' st h Q) : z_V G mt d pc lo st h Q :=
  fun p e s m args below meth c R ss0 H locs ls S hl => k p e s m args below meth c R ss0 H locs ls S ⟨hl.1, hl.2.1, fun q hq => hl.2.2 q (z_in_all hs q hq)⟩
theorem z_V.mono {Q' : z_R → z_H → Prop} (k : z_V G mt d pc lo st h Q) (hq : ∀ r h', Q r h' → Q' r h') : z_V G mt d pc lo st h Q' := by
  intro p e s m args below meth c R ss0 H locs ls S hl T hT X
  obtain ⟨t, a, o, r, h', b1, b2⟩ := k p e s m args below meth c R ss0 H locs ls S hl T hT X
  exact ⟨t, a, o, r, h', hq r h' b1, b2⟩
theorem z_iconst {n : Int} {v : Int32} (hd : decode mt.2.1 pc = .ok (.iconst n, 1)) (hv : Int32.ofInt n = v) (k : z_V G mt d (pc + 1) lo (.int v :: st) h Q) : z_V G mt d pc lo st h Q :=
  fun p e s m args below meth c R ss0 H locs ls S hl => lv_iconst S.1.1.1 S.1.1.2.1 hd hv (k p e s m args below meth c R ss0 H locs ls S hl)
theorem z_bipush {n : Int} {v : Int32} (hd : decode mt.2.1 pc = .ok (.bipush n, 2)) (hv : (Int8.ofInt n).toInt32 = v) (k : z_V G mt d (pc + 2) lo (.int v :: st) h Q) : z_V G mt d pc lo st h Q :=
  fun p e s m args below meth c R ss0 H locs ls S hl => lv_bipush S.1.1.1 S.1.1.2.1 hd hv (k p e s m args below meth c R ss0 H locs ls S hl)
theorem z_sipush {n : Int} {v : Int32} (hd : decode mt.2.1 pc = .ok (.sipush n, 3)) (hv : (Int16.ofInt n).toInt32 = v) (k : z_V G mt d (pc + 3) lo (.int v :: st) h Q) : z_V G mt d pc lo st h Q :=
  fun p e s m args below meth c R ss0 H locs ls S hl => lv_sipush S.1.1.1 S.1.1.2.1 hd hv (k p e s m args below meth c R ss0 H locs ls S hl)
theorem z_lconst {n : Fin 2} {v : Int64} (hd : decode mt.2.1 pc = .ok (.lconst n, 1)) (hv : Int64.ofNat (n : Nat) = v) (k : z_V G mt d (pc + 1) lo (.long v :: st) h Q) : z_V G mt d pc lo st h Q :=
  fun p e s m args below meth c R ss0 H locs ls S hl => lv_lconst S.1.1.1 S.1.1.2.1 hd hv (k p e s m args below meth c R ss0 H locs ls S hl)
theorem z_iload_n {j : Fin 4} {i : Nat} {x : Int32} (hd : decode mt.2.1 pc = .ok (.iload_n j, 1)) (hi : (j : Nat) = i) (hv : z_get lo i = some (.int x)) (k : z_V G mt d (pc + 1) lo (.int x :: st) h Q) : z_V G mt d pc lo st h Q :=
  fun p e s m args below meth c R ss0 H locs ls S hl => lv_iload_n S.1.1.1 S.1.1.2.1 hd hi (hl.2.2 _ (z_get_mem hv)) (k p e s m args below meth c R ss0 H locs ls S hl)
theorem z_iload {i : Nat} {x : Int32} (hd : decode mt.2.1 pc = .ok (.iload i, 2)) (hv : z_get lo i = some (.int x)) (k : z_V G mt d (pc + 2) lo (.int x :: st) h Q) : z_V G mt d pc lo st h Q :=
  fun p e s m args below meth c R ss0 H locs ls S hl => lv_iload S.1.1.1 S.1.1.2.1 hd (hl.2.2 _ (z_get_mem hv)) (k p e s m args below meth c R ss0 H locs ls S hl)
theorem z_aload_n {j : Fin 4} {i : Nat} {x : Nat} (hd : decode mt.2.1 pc = .ok (.aload_n j, 1)) (hi : (j : Nat) = i) (hv : z_get lo i = some (.ref x)) (k : z_V G mt d (pc + 1) lo (.ref x :: st) h Q) : z_V G mt d pc lo st h Q :=
  fun p e s m args below meth c R ss0 H locs ls S hl => lv_aload_n S.1.1.1 S.1.1.2.1 hd hi (hl.2.2 _ (z_get_mem hv)) (k p e s m args below meth c R ss0 H locs ls S hl)
theorem z_aload {i : Nat} {x : Nat} (hd : decode mt.2.1 pc = .ok (.aload i, 2)) (hv : z_get lo i = some (.ref x)) (k : z_V G mt d (pc + 2) lo (.ref x :: st) h Q) : z_V G mt d pc lo st h Q :=
  fun p e s m args below meth c R ss0 H locs ls S hl => lv_aload S.1.1.1 S.1.1.2.1 hd (hl.2.2 _ (z_get_mem hv)) (k p e s m args below meth c R ss0 H locs ls S hl)
theorem z_istore_n {j : Fin 4} {i : Nat} {x : Int32} (hd : decode mt.2.1 pc = .ok (.istore_n j, 1)) (hi : (j : Nat) = i) (hn : i < mt.2.2.1) (k : z_V G mt d (pc + 1) (z_sto lo i (.int x)) st h Q) : z_V G mt d pc lo (.int x :: st) h Q :=
  fun p e s m args below meth c R ss0 H locs ls S hl => lv_istore_n S.1.1.1 S.1.1.2.1 hd hi hl hn rfl (fun ls' hl' => k p e s m args below meth c R ss0 H locs ls' S hl')
theorem z_istore {i : Nat} {x : Int32} (hd : decode mt.2.1 pc = .ok (.istore i, 2)) (hn : i < mt.2.2.1) (k : z_V G mt d (pc + 2) (z_sto lo i (.int x)) st h Q) : z_V G mt d pc lo (.int x :: st) h Q :=
  fun p e s m args below meth c R ss0 H locs ls S hl => lv_istore S.1.1.1 S.1.1.2.1 hd hl hn rfl (fun ls' hl' => k p e s m args below meth c R ss0 H locs ls' S hl')
theorem z_astore_n {j : Fin 4} {i : Nat} {x : Nat} (hd : decode mt.2.1 pc = .ok (.astore_n j, 1)) (hi : (j : Nat) = i) (hn : i < mt.2.2.1) (k : z_V G mt d (pc + 1) (z_sto lo i (.ref x)) st h Q) : z_V G mt d pc lo (.ref x :: st) h Q :=
  fun p e s m args below meth c R ss0 H locs ls S hl => lv_astore_n S.1.1.1 S.1.1.2.1 hd hi hl hn rfl (fun ls' hl' => k p e s m args below meth c R ss0 H locs ls' S hl')
theorem z_astore {i : Nat} {x : Nat} (hd : decode mt.2.1 pc = .ok (.astore i, 2)) (hn : i < mt.2.2.1) (k : z_V G mt d (pc + 2) (z_sto lo i (.ref x)) st h Q) : z_V G mt d pc lo (.ref x :: st) h Q :=
  fun p e s m args below meth c R ss0 H locs ls S hl => lv_astore S.1.1.1 S.1.1.2.1 hd hl hn rfl (fun ls' hl' => k p e s m args below meth c R ss0 H locs ls' S hl')
theorem z_iinc {i : Nat} {n : Int} {x v : Int32} (hd : decode mt.2.1 pc = .ok (.iinc i n, 3)) (hg : z_get lo i = some (.int x)) (hv : x + Int32.ofInt n = v) (hn : i < mt.2.2.1) (k : z_V G mt d (pc + 3) (z_sto lo i (.int v)) st h Q) : z_V G mt d pc lo st h Q := by
  obtain ⟨j, hj⟩ := List.getElem?_of_mem (z_get_mem hg)
  exact fun p e s m args below meth c R ss0 H locs ls S hl => lv_iinc S.1.1.1 S.1.1.2.1 hd hl hj hv hn rfl (fun ls' hl' => k p e s m args below meth c R ss0 H locs ls' S hl')
theorem z_iadd {x y : Int32} (hd : decode mt.2.1 pc = .ok (.iadd, 1)) (k : z_V G mt d (pc + 1) lo (.int (x + y) :: st) h Q) : z_V G mt d pc lo (.int y :: .int x :: st) h Q :=
  fun p e s m args below meth c R ss0 H locs ls S hl => lv_iadd S.1.1.1 S.1.1.2.1 hd (k p e s m args below meth c R ss0 H locs ls S hl)
theorem z_isub {x y : Int32} (hd : decode mt.2.1 pc = .ok (.isub, 1)) (k : z_V G mt d (pc + 1) lo (.int (x - y) :: st) h Q) : z_V G mt d pc lo (.int y :: .int x :: st) h Q :=
  fun p e s m args below meth c R ss0 H locs ls S hl => lv_isub S.1.1.1 S.1.1.2.1 hd (k p e s m args below meth c R ss0 H locs ls S hl)
theorem z_imul {x y : Int32} (hd : decode mt.2.1 pc = .ok (.imul, 1)) (k : z_V G mt d (pc + 1) lo (.int (x * y) :: st) h Q) : z_V G mt d pc lo (.int y :: .int x :: st) h Q :=
  fun p e s m args below meth c R ss0 H locs ls S hl => lv_imul S.1.1.1 S.1.1.2.1 hd (k p e s m args below meth c R ss0 H locs ls S hl)
theorem z_iand {x y : Int32} (hd : decode mt.2.1 pc = .ok (.iand, 1)) (k : z_V G mt d (pc + 1) lo (.int (x &&& y) :: st) h Q) : z_V G mt d pc lo (.int y :: .int x :: st) h Q :=
  fun p e s m args below meth c R ss0 H locs ls S hl => lv_iand S.1.1.1 S.1.1.2.1 hd (k p e s m args below meth c R ss0 H locs ls S hl)
theorem z_ior {x y : Int32} (hd : decode mt.2.1 pc = .ok (.ior, 1)) (k : z_V G mt d (pc + 1) lo (.int (x ||| y) :: st) h Q) : z_V G mt d pc lo (.int y :: .int x :: st) h Q :=
  fun p e s m args below meth c R ss0 H locs ls S hl => lv_ior S.1.1.1 S.1.1.2.1 hd (k p e s m args below meth c R ss0 H locs ls S hl)
theorem z_dup {x : Value} (hd : decode mt.2.1 pc = .ok (.dup, 1)) (hc : x.category = 1) (k : z_V G mt d (pc + 1) lo (x :: x :: st) h Q) : z_V G mt d pc lo (x :: st) h Q :=
  fun p e s m args below meth c R ss0 H locs ls S hl => lv_dup S.1.1.1 S.1.1.2.1 hd hc (k p e s m args below meth c R ss0 H locs ls S hl)
theorem z_pop {x : Value} (hd : decode mt.2.1 pc = .ok (.pop, 1)) (hc : x.category = 1) (k : z_V G mt d (pc + 1) lo st h Q) : z_V G mt d pc lo (x :: st) h Q :=
  fun p e s m args below meth c R ss0 H locs ls S hl => lv_pop S.1.1.1 S.1.1.2.1 hd hc (k p e s m args below meth c R ss0 H locs ls S hl)
theorem z_goto {off : Int} {tgt : Nat} (hd : decode mt.2.1 pc = .ok (.goto off, 3)) (ht : (pc : Int) + off = (tgt : Int)) (k : z_V G mt d tgt lo st h Q) : z_V G mt d pc lo st h Q :=
  fun p e s m args below meth c R ss0 H locs ls S hl => lv_goto S.1.1.1 S.1.1.2.1 hd ht (k p e s m args below meth c R ss0 H locs ls S hl)
theorem z_if_eq {x : Int32} {off : Int} {tgt : Nat} (hd : decode mt.2.1 pc = .ok (.ifCond .eq off, 3)) (ht : (pc : Int) + off = (tgt : Int)) (kt : x = 0 → z_V G mt d tgt lo st h Q) (kf : ¬ x = 0 → z_V G mt d (pc + 3) lo st h Q) : z_V G mt d pc lo (.int x :: st) h Q :=
  fun p e s m args below meth c R ss0 H locs ls S hl => lv_if_eq S.1.1.1 S.1.1.2.1 hd ht (fun z => kt z p e s m args below meth c R ss0 H locs ls S hl) (fun z => kf z p e s m args below meth c R ss0 H locs ls S hl)
theorem z_icmp_eq {x y : Int32} {off : Int} {tgt : Nat} (hd : decode mt.2.1 pc = .ok (.if_icmp .eq off, 3)) (ht : (pc : Int) + off = (tgt : Int)) (kt : x = y → z_V G mt d tgt lo st h Q) (kf : ¬ x = y → z_V G mt d (pc + 3) lo st h Q) : z_V G mt d pc lo (.int y :: .int x :: st) h Q :=
  fun p e s m args below meth c R ss0 H locs ls S hl => lv_icmp_eq S.1.1.1 S.1.1.2.1 hd ht (fun z => kt z p e s m args below meth c R ss0 H locs ls S hl) (fun z => kf z p e s m args below meth c R ss0 H locs ls S hl)
theorem z_if_ne {x : Int32} {off : Int} {tgt : Nat} (hd : decode mt.2.1 pc = .ok (.ifCond .ne off, 3)) (ht : (pc : Int) + off = (tgt : Int)) (kt : ¬ x = 0 → z_V G mt d tgt lo st h Q) (kf : x = 0 → z_V G mt d (pc + 3) lo st h Q) : z_V G mt d pc lo (.int x :: st) h Q :=
  fun p e s m args below meth c R ss0 H locs ls S hl => lv_if_ne S.1.1.1 S.1.1.2.1 hd ht (fun z => kt z p e s m args below meth c R ss0 H locs ls S hl) (fun z => kf z p e s m args below meth c R ss0 H locs ls S hl)
theorem z_icmp_ne {x y : Int32} {off : Int} {tgt : Nat} (hd : decode mt.2.1 pc = .ok (.if_icmp .ne off, 3)) (ht : (pc : Int) + off = (tgt : Int)) (kt : ¬ x = y → z_V G mt d tgt lo st h Q) (kf : x = y → z_V G mt d (pc + 3) lo st h Q) : z_V G mt d pc lo (.int y :: .int x :: st) h Q :=
  fun p e s m args below meth c R ss0 H locs ls S hl => lv_icmp_ne S.1.1.1 S.1.1.2.1 hd ht (fun z => kt z p e s m args below meth c R ss0 H locs ls S hl) (fun z => kf z p e s m args below meth c R ss0 H locs ls S hl)
theorem z_if_lt {x : Int32} {off : Int} {tgt : Nat} (hd : decode mt.2.1 pc = .ok (.ifCond .lt off, 3)) (ht : (pc : Int) + off = (tgt : Int)) (kt : x < 0 → z_V G mt d tgt lo st h Q) (kf : ¬ x < 0 → z_V G mt d (pc + 3) lo st h Q) : z_V G mt d pc lo (.int x :: st) h Q :=
  fun p e s m args below meth c R ss0 H locs ls S hl => lv_if_lt S.1.1.1 S.1.1.2.1 hd ht (fun z => kt z p e s m args below meth c R ss0 H locs ls S hl) (fun z => kf z p e s m args below meth c R ss0 H locs ls S hl)
theorem z_icmp_lt {x y : Int32} {off : Int} {tgt : Nat} (hd : decode mt.2.1 pc = .ok (.if_icmp .lt off, 3)) (ht : (pc : Int) + off = (tgt : Int)) (kt : x < y → z_V G mt d tgt lo st h Q) (kf : ¬ x < y → z_V G mt d (pc + 3) lo st h Q) : z_V G mt d pc lo (.int y :: .int x :: st) h Q :=
  fun p e s m args below meth c R ss0 H locs ls S hl => lv_icmp_lt S.1.1.1 S.1.1.2.1 hd ht (fun z => kt z p e s m args below meth c R ss0 H locs ls S hl) (fun z => kf z p e s m args below meth c R ss0 H locs ls S hl)
theorem z_if_ge {x : Int32} {off : Int} {tgt : Nat} (hd : decode mt.2.1 pc = .ok (.ifCond .ge off, 3)) (ht : (pc : Int) + off = (tgt : Int)) (kt : 0 ≤ x → z_V G mt d tgt lo st h Q) (kf : ¬ 0 ≤ x → z_V G mt d (pc + 3) lo st h Q) : z_V G mt d pc lo (.int x :: st) h Q :=
  fun p e s m args below meth c R ss0 H locs ls S hl => lv_if_ge S.1.1.1 S.1.1.2.1 hd ht (fun z => kt z p e s m args below meth c R ss0 H locs ls S hl) (fun z => kf z p e s m args below meth c R ss0 H locs ls S hl)
theorem z_icmp_ge {x y : Int32} {off : Int} {tgt : Nat} (hd : decode mt.2.1 pc = .ok (.if_icmp .ge off, 3)) (ht : (pc : Int) + off = (tgt : Int)) (kt : y ≤ x → z_V G mt d tgt lo st h Q) (kf : ¬ y ≤ x → z_V G mt d (pc + 3) lo st h Q) : z_V G mt d pc lo (.int y :: .int x :: st) h Q :=
  fun p e s m args below meth c R ss0 H locs ls S hl => lv_icmp_ge S.1.1.1 S.1.1.2.1 hd ht (fun z => kt z p e s m args below meth c R ss0 H locs ls S hl) (fun z => kf z p e s m args below meth c R ss0 H locs ls S hl)
theorem z_if_gt {x : Int32} {off : Int} {tgt : Nat} (hd : decode mt.2.1 pc = .ok (.ifCond .gt off, 3)) (ht : (pc : Int) + off = (tgt : Int)) (kt : 0 < x → z_V G mt d tgt lo st h Q) (kf : ¬ 0 < x → z_V G mt d (pc + 3) lo st h Q) : z_V G mt d pc lo (.int x :: st) h Q :=
  fun p e s m args below meth c R ss0 H locs ls S hl => lv_if_gt S.1.1.1 S.1.1.2.1 hd ht (fun z => kt z p e s m args below meth c R ss0 H locs ls S hl) (fun z => kf z p e s m args below meth c R ss0 H locs ls S hl)
theorem z_icmp_gt {x y : Int32} {off : Int} {tgt : Nat} (hd : decode mt.2.1 pc = .ok (.if_icmp .gt off, 3)) (ht : (pc : Int) + off = (tgt : Int)) (kt : y < x → z_V G mt d tgt lo st h Q) (kf : ¬ y < x → z_V G mt d (pc + 3) lo st h Q) : z_V G mt d pc lo (.int y :: .int x :: st) h Q :=
  fun p e s m args below meth c R ss0 H locs ls S hl => lv_icmp_gt S.1.1.1 S.1.1.2.1 hd ht (fun z => kt z p e s m args below meth c R ss0 H locs ls S hl) (fun z => kf z p e s m args below meth c R ss0 H locs ls S hl)
theorem z_if_le {x : Int32} {off : Int} {tgt : Nat} (hd : decode mt.2.1 pc = .ok (.ifCond .le off, 3)) (ht : (pc : Int) + off = (tgt : Int)) (kt : x ≤ 0 → z_V G mt d tgt lo st h Q) (kf : ¬ x ≤ 0 → z_V G mt d (pc + 3) lo st h Q) : z_V G mt d pc lo (.int x :: st) h Q :=
  fun p e s m args below meth c R ss0 H locs ls S hl => lv_if_le S.1.1.1 S.1.1.2.1 hd ht (fun z => kt z p e s m args below meth c R ss0 H locs ls S hl) (fun z => kf z p e s m args below meth c R ss0 H locs ls S hl)
theorem z_icmp_le {x y : Int32} {off : Int} {tgt : Nat} (hd : decode mt.2.1 pc = .ok (.if_icmp .le off, 3)) (ht : (pc : Int) + off = (tgt : Int)) (kt : x ≤ y → z_V G mt d tgt lo st h Q) (kf : ¬ x ≤ y → z_V G mt d (pc + 3) lo st h Q) : z_V G mt d pc lo (.int y :: .int x :: st) h Q :=
  fun p e s m args below meth c R ss0 H locs ls S hl => lv_icmp_le S.1.1.1 S.1.1.2.1 hd ht (fun z => kt z p e s m args below meth c R ss0 H locs ls S hl) (fun z => kf z p e s m args below meth c R ss0 H locs ls S hl)
theorem z_ishl {x y : Int32} (hd : decode mt.2.1 pc = .ok (.ishl, 1)) (k : z_V G mt d (pc + 1) lo (.int (x <<< (y &&& 31)) :: st) h Q) : z_V G mt d pc lo (.int y :: .int x :: st) h Q :=
  fun p e s m args below meth c R ss0 H locs ls S hl => lv_ishl S.1.1.1 S.1.1.2.1 hd (k p e s m args below meth c R ss0 H locs ls S hl)
theorem z_ishr {x y : Int32} (hd : decode mt.2.1 pc = .ok (.ishr, 1)) (k : z_V G mt d (pc + 1) lo (.int (x >>> (y &&& 31)) :: st) h Q) : z_V G mt d pc lo (.int y :: .int x :: st) h Q :=
  fun p e s m args below meth c R ss0 H locs ls S hl => lv_ishr S.1.1.1 S.1.1.2.1 hd (k p e s m args below meth c R ss0 H locs ls S hl)
theorem z_dup2 {x y : Value} (hd : decode mt.2.1 pc = .ok (.dup2, 1)) (h1 : x.category = 1) (h2 : y.category = 1) (k : z_V G mt d (pc + 1) lo (x :: y :: x :: y :: st) h Q) : z_V G mt d pc lo (x :: y :: st) h Q :=
  fun p e s m args below meth c R ss0 H locs ls S hl => lv_dup2_11 S.1.1.1 S.1.1.2.1 hd h1 h2 (k p e s m args below meth c R ss0 H locs ls S hl)
theorem z_i2l {x : Int32} {v : Int64} (hd : decode mt.2.1 pc = .ok (.i2l, 1)) (hv : x.toInt64 = v) (k : z_V G mt d (pc + 1) lo (.long v :: st) h Q) : z_V G mt d pc lo (.int x :: st) h Q :=
  fun p e s m args below meth c R ss0 H locs ls S hl => lv_i2l S.1.1.1 S.1.1.2.1 hd hv (k p e s m args below meth c R ss0 H locs ls S hl)
theorem z_lcmp {x y : Int64} (hd : decode mt.2.1 pc = .ok (.lcmp, 1)) (k : z_V G mt d (pc + 1) lo (.int (lg_cmp x y) :: st) h Q) : z_V G mt d pc lo (.long y :: .long x :: st) h Q :=
  fun p e s m args below meth c R ss0 H locs ls S hl => W.lcmp S.1.1.1 S.1.1.2.1 hd (k p e s m args below meth c R ss0 H locs ls S hl)
theorem z_topi {x : Int32} (k : ∀ y : Int32, y = x → z_V G mt d pc lo (.int y :: st) h Q) : z_V G mt d pc lo (.int x :: st) h Q := k x rfl
theorem z_eqi {x y : Int32} (hxy : x = y) (k : z_V G mt d pc lo (.int y :: st) h Q) : z_V G mt d pc lo (.int x :: st) h Q := hxy ▸ k
theorem z_tableIn {dflt lw hi : Int} {offs : Array Int} {len : Nat} {x : Int32} {off : Int} {tgt : Nat} (hd : decode mt.2.1 pc = .ok (.tableswitch dflt lw hi offs, len)) (h1 : ¬ x.toInt < lw) (h2 : ¬ hi < x.toInt) (ho : offs[(x.toInt - lw).toNat]? = some off) (ht : (pc : Int) + off = (tgt : Int)) (k : z_V G mt d tgt lo st h Q) : z_V G mt d pc lo (.int x :: st) h Q :=
  fun p e s m args below meth c R ss0 H locs ls S hl => lv_tableIn S.1.1.1 S.1.1.2.1 hd h1 h2 ho ht (k p e s m args below meth c R ss0 H locs ls S hl)
theorem z_tableOut {dflt lw hi : Int} {offs : Array Int} {len : Nat} {x : Int32} {tgt : Nat} (hd : decode mt.2.1 pc = .ok (.tableswitch dflt lw hi offs, len)) (h1 : x.toInt < lw ∨ hi < x.toInt) (ht : (pc : Int) + dflt = (tgt : Int)) (k : z_V G mt d tgt lo st h Q) : z_V G mt d pc lo (.int x :: st) h Q :=
  fun p e s m args below meth c R ss0 H locs ls S hl => lv_tableOut S.1.1.1 S.1.1.2.1 hd h1 ht (k p e s m args below meth c R ss0 H locs ls S hl)
/-! the ends -/
theorem z_ends {p : Program} {s : State} {m : MethodId} {args : Array Value} {below : List Frame} {meth : Method} {c : Code} {R : Room} {ss0 : Nat} {H : Heap} {locs : List Loc} {T : State} {v : Option Value} {fs : List Frame}
    (S : z_St G mt d p s m args meth c R ss0 H locs h) (hT : T.heap = H) (hq : Q (.inl v) h) (hrun : (T.setFrames fs).status = .running) (hended : Ended (T.setFrames fs) below (.returned v)) (hW : s.WarmedH (T.setFrames fs).vm)
    (hframe : s.sameButNew ({ T.setFrames fs with vm := s.vm } : State) locs (h.1 - s.heap.size) (h.2.1 - ss0)) : z_End G s below ss0 Q (T.setFrames fs) := by
  obtain ⟨-, -, S1, S2, S3⟩ := S
  refine ⟨.returned v, .inl v, h, hq, hrun, hended, hW, ⟨locs, hframe, S2.1.2.2⟩, ?_, ?_, S3, rfl⟩
  · show z_Rel G h s T.heap
    rw [hT]
    exact S1
  · intro q hq
    show T.heap[q]? = s.heap[q]?
    rw [hT]
    exact S2.1.2.1 q (Nat.lt_of_lt_of_le hq S2.2) (Nat.not_le.mpr hq)
theorem z_ireturn {v : Int32} {ty : FieldType} (hd : decode mt.2.1 pc = .ok (.ireturn, 1)) (hr : mt.2.2.2.1 = some ty) (hn : narrow ty (.int v) = .int v) (hq : Q (.inl (some (.int v))) h) : z_V G mt d pc lo [.int v] h Q := by
  intro p e s m args below meth c R ss0 H locs ls S hl T hT X
  have hx : p.tables.exec = Jvm.exec := S.1.1.1
  have hb : c.code = mt.2.1 := S.1.1.2.1
  have hlocks : meth.locks = false := S.1.2.1.2.1
  have hr0 : meth.sig.returnType = some ty := S.1.1.2.2.2.trans hr
  obtain ⟨fs, hret, hrun, hended, hW, hframe⟩ := X.leave (v := some (.int v)) (fun h => by rw [hr0] at h; cases h)
  have hmeth' : T.vm.method? m = some meth := X.method'
  refine ⟨T.setFrames fs, ?_, z_ends S hT hq hrun hended hW hframe⟩
  jvm_step X.here [X.here.top, hx, hb, hd, hmeth', hr0, hn]
  (try refine ⟨rfl, ?_⟩); (try refine ⟨rfl, ?_⟩)
  first | (intro acts; rw [hret _ acts rfl rfl rfl]) | rw [hret _ _ rfl rfl rfl]
  exact Steps.refl _
theorem z_return (hd : decode mt.2.1 pc = .ok (.return_, 1)) (hr : mt.2.2.2.1 = none) (hq : Q (.inl none) h) : z_V G mt d pc lo [] h Q := by
  intro p e s m args below meth c R ss0 H locs ls S hl T hT X
  have hx : p.tables.exec = Jvm.exec := S.1.1.1
  have hb : c.code = mt.2.1 := S.1.1.2.1
  have hlocks : meth.locks = false := S.1.2.1.2.1
  have hr0 : meth.sig.returnType = none := S.1.1.2.2.2.trans hr
  obtain ⟨fs, hret, hrun, hended, hW, hframe⟩ := X.leave (v := none) (fun _ => rfl)
  have hmeth' : T.vm.method? m = some meth := X.method'
  refine ⟨T.setFrames fs, ?_, z_ends S hT hq hrun hended hW hframe⟩
  jvm_step X.here [X.here.top, hx, hb, hd, hmeth', hr0]
  (try refine ⟨rfl, ?_⟩); (try refine ⟨rfl, ?_⟩)
  first | (intro acts; rw [hret _ acts rfl rfl rfl]) | rw [hret _ _ rfl rfl rfl]
  exact Steps.refl _
theorem z_areturn {a : Nat} {n : String} (hd : decode mt.2.1 pc = .ok (.areturn, 1)) (hr : mt.2.2.2.1 = some (.object n)) (hq : Q (.inl (some (.ref a))) h) : z_V G mt d pc lo [.ref a] h Q := by
  intro p e s m args below meth c R ss0 H locs ls S hl T hT X
  have hx : p.tables.exec = Jvm.exec := S.1.1.1
  have hb : c.code = mt.2.1 := S.1.1.2.1
  have hlocks : meth.locks = false := S.1.2.1.2.1
  have hr0 : meth.sig.returnType = some (.object n) := S.1.1.2.2.2.trans hr
  obtain ⟨fs, hret, hrun, hended, hW, hframe⟩ := X.leave (v := some (.ref a)) (fun h => by rw [hr0] at h; cases h)
  have hmeth' : T.vm.method? m = some meth := X.method'
  refine ⟨T.setFrames fs, ?_, z_ends S hT hq hrun hended hW hframe⟩
  jvm_step X.here [X.here.top, hx, hb, hd, hmeth', hr0]
  (try refine ⟨rfl, ?_⟩); (try refine ⟨rfl, ?_⟩)
  first | (intro acts; rw [hret _ acts rfl rfl rfl]) | rw [hret _ _ rfl rfl rfl]
  exact Steps.refl _
end ZR
end
section
/-! the heap's rows -/
abbrev z_set (h : z_H) (a : Nat) (e : va_E) : z_H := (h.1, h.2.1, va_up h.2.2 a (some e))
abbrev z_new (h : z_H) (n : Nat) (e : va_E) : z_H := (h.1 + 1, h.2.1 + n, va_up h.2.2 h.1 (some e))
section ZA
variable {p : Program} {l : Launch} {e : Env} {R : Room} {s : State} {m : MethodId} {args : Array Value} {below : List Frame} {meth : Method} {c : Code} {H H1 : Heap} {locs locs1 : List Loc} {cells slots : Nat} {Q : State → Prop}
theorem z_sz {g : JFrame} (k : H.size ≤ s.heap.size + cells → W p l e R s m args below meth c H locs cells slots Q g) : W p l e R s m args below meth c H locs cells slots Q g :=
  fun T hT X => k (hT ▸ X.heapSize) T hT X
variable {G : z_G} {mt : z_M} {d ss0 : Nat} {h : z_H}
theorem z_rf (S : z_St G mt d p s m args meth c R ss0 H locs h) : va_S (fun q => G.b0 ≤ q) H H locs := ⟨Nat.le_refl _, fun _ _ _ => rfl, S.2.2.2.1.1.2.2⟩
theorem z_Sx.go (S : z_Sx G s H locs) (hS : va_S (fun q => G.b0 ≤ q) H H1 locs1) : z_Sx G s H1 locs1 :=
  ⟨⟨Nat.le_trans S.1.1 hS.1, fun q h1 h2 => (hS.2.1 q (Nat.lt_of_lt_of_le h1 S.1.1) h2).trans (S.1.2.1 q h1 h2), hS.2.2⟩, S.2⟩
theorem z_wr (S : z_St G mt d p s m args meth c R ss0 H locs h) {ws : va_W} (hD : va_D (fun q => G.b0 ≤ q) ws) (hcov : ∀ (a : Nat) (e : va_E), h.2.2 a = some e → ∃ k : Nat, ws[k]? = some (a, e)) {k a : Nat} {e0 e : va_E} (hk : ws[k]? = some (a, e0))
    (hP1 : va_P G.D G.cl (ws.set k (a, e)) H1) (hD1 : va_D (fun q => G.b0 ≤ q) (ws.set k (a, e))) (hS1 : va_S (fun q => G.b0 ≤ q) H H1 locs1) (hz : H1.size ≤ s.heap.size + (h.1 - s.heap.size)) : z_St G mt d p s m args meth c R ss0 H1 locs1 (z_set h a e) := by
  obtain ⟨S1, S2, ⟨Ra, -, Rz1, Rz2, Rx, Rb⟩, S4, S5⟩ := S
  have hz1 := hS1.1
  have hz2 := S5.1
  have hl := (List.getElem?_eq_some_iff.mp hk).1
  refine ⟨S1, S2, ⟨by show H1.size = h.1; omega, ⟨ws.set k (a, e), hP1, hD1, fun b x hb => ?_⟩, Rz1.kept (fun q hq => hS1.2.1 q (by have := S4.2; omega) (Nat.not_le.mpr hq)), Rz2.kept (fun q hq => hS1.2.1 q (by have := S4.2; omega) (Nat.not_le.mpr hq)), Rx.kept (hS1.2.1 _ (by have := S4.2; omega) (Nat.not_le.mpr Rb)), Rb⟩, S4.go hS1, S5⟩
  have hb : va_up h.2.2 a (some e) b = some x := hb
  by_cases hba : b = a
  · subst hba
    rw [va_up_self] at hb
    cases hb
    exact ⟨k, List.getElem?_set_self hl⟩
  · rw [va_up_ne _ _ hba] at hb
    obtain ⟨j, hj⟩ := hcov b x hb
    refine ⟨j, ?_⟩
    have hjk : k ≠ j := fun q => hba (by subst q; rw [hk] at hj; cases hj; rfl)
    rw [List.getElem?_set_ne hjk]
    exact hj
theorem z_nw (S : z_St G mt d p s m args meth c R ss0 H locs h) {n : Nat} {e : va_E} (hc : h.1 + 1 ≤ G.b0 + G.cc) (hn : h.2.1 + n ≤ G.ss) (he : va_at G.D G.cl (h.1, e) H1) (hz : H1.size = h.1 + 1) (ho : ∀ q, q < h.1 → H1[q]? = H[q]?) : z_St G mt d p s m args meth c R ss0 H1 locs (z_new h n e) := by
  obtain ⟨S1, S2, ⟨Ra, ⟨ws, hP, hD, hcov⟩, Rz1, Rz2, Rx, Rb⟩, S4, S5⟩ := S
  have hk : ∀ (k : Nat) (x : Nat × va_E), ws[k]? = some x → H1[x.1]? = H[x.1]? := fun k x hx => ho x.1 (by rw [← Ra]; exact (hP k x hx).lt)
  have hb0 : G.b0 ≤ h.1 := Nat.le_trans S4.2 S5.1
  have hS : va_S (fun q => G.b0 ≤ q) H H1 locs := ⟨by omega, fun q h1 _ => ho q (by omega), S4.1.2.2⟩
  refine ⟨S1, S2, ⟨hz, ⟨ws ++ [(h.1, e)], (hP.kept hk).app (fun k x hx => ?_), hD.push hP Ra.symm hb0, fun b x hb => ?_⟩, Rz1.kept (fun q hq => hS.2.1 q (by omega) (Nat.not_le.mpr hq)), Rz2.kept (fun q hq => hS.2.1 q (by omega) (Nat.not_le.mpr hq)), Rx.kept (hS.2.1 _ (by omega) (Nat.not_le.mpr Rb)), Rb⟩, S4.go hS, ?_⟩
  · have hz : k < 1 := (List.getElem?_eq_some_iff.mp hx).1
    rw [show k = 0 by omega] at hx
    cases hx
    exact he
  · have hb : va_up h.2.2 h.1 (some e) b = some x := hb
    by_cases hba : b = h.1
    · subst hba
      rw [va_up_self] at hb
      cases hb
      exact ⟨ws.length, by simp⟩
    · rw [va_up_ne _ _ hba] at hb
      obtain ⟨j, hj⟩ := hcov b x hb
      exact ⟨j, by rw [List.getElem?_append_left (List.getElem?_eq_some_iff.mp hj).1]; exact hj⟩
  · obtain ⟨t1, t2, t3, t4⟩ := S5
    exact ⟨by show s.heap.size ≤ h.1 + 1; omega, by show ss0 ≤ h.2.1 + n; omega, hc, hn⟩
end ZA
/-- a class of the program: its place, name, fields, types -/
def z_cls (G : z_G) (ci : Nat) (C : String) (T : u_T) (N : Nat) (ty : Nat → FieldType) : Prop :=
  G.cl[ci]? = some (C, T, N) ∧ (∀ w ∈ u_ws C T N, w ∈ G.Ts) ∧ (∀ k, k < N → parseFieldDescriptor (T k).2.2.1 = some (ty k)) ∧ (∀ a, a < N → ∀ b, b < N → a ≠ b → (T a).2.1 ≠ (T b).2.1)
/-- a field that a class's pool names at index -/
def z_lnk (G : z_G) (own : String) (index : Nat) (T : u_T) (k : Nat) : Prop :=
  Cond.fieldLink own index (T k).1 (T k).2.1 (T k).2.2.1 ∈ G.Ts ∨ ∃ host : String, Cond.fieldLinkNest own index (T k).1 (T k).2.1 (T k).2.2.1 host ∈ G.Ts
section ZH
variable {G : z_G} {mt : z_M} {d pc : Nat} {lo : List (Nat × Value)} {st : List Value} {h : z_H} {Q : z_R → z_H → Prop}
theorem z_getf {ci N k idx a : Nat} {C : String} {T : u_T} {ty : Nat → FieldType} {fs : List Value} {v : Value} (K : z_cls G ci C T N ty) (hk : k < N) (L : z_lnk G mt.1.cls idx T k) (hd : decode mt.2.1 pc = .ok (.getfield idx, 3)) (he : h.2.2 a = some (.inr (ci, fs))) (hv : fs[k]? = some v)
    (kk : z_V G mt d (pc + 3) lo (v :: st) h Q) : z_V G mt d pc lo (.ref a :: st) h Q := by
  intro p e s m args below meth c R ss0 H locs ls S hl
  obtain ⟨ws, hP, hD, hcov⟩ := S.2.2.1.2.1
  obtain ⟨q0, hq⟩ := hcov a _ he
  have hts := S.1.2.2.2.1
  rcases L with L | ⟨host, L⟩
  · exact va_get S.1.1.1 S.1.1.2.1 hts K.2.1 S.1.2.1.1 S.1.2.2.1 hP q0 hq K.1 k hk (hts _ L) (fun _ z => z) hv hd (kk p e s m args below meth c R ss0 H locs ls S hl)
  · exact va_getN S.1.1.1 S.1.1.2.1 hts K.2.1 S.1.2.1.1 S.1.2.2.1 hP q0 hq K.1 k hk (hts _ L) (fun _ z => z) hv hd (kk p e s m args below meth c R ss0 H locs ls S hl)
theorem z_putf {ci N k idx a : Nat} {C : String} {T : u_T} {ty : Nat → FieldType} {fs : List Value} {v : Value} (K : z_cls G ci C T N ty) (hk : k < N) (L : z_lnk G mt.1.cls idx T k) (hfin : (T k).2.2.2 = false) (hd : decode mt.2.1 pc = .ok (.putfield idx, 3)) (he : h.2.2 a = some (.inr (ci, fs))) (hn : narrow (ty k) v = v) (hf : fits (ty k) v = true) (hl : k < fs.length)
    (kk : z_V G mt d (pc + 3) lo st (z_set h a (.inr (ci, fs.set k v))) Q) : z_V G mt d pc lo (v :: .ref a :: st) h Q := by
  intro p e s m args below meth c R ss0 H locs ls S hls
  obtain ⟨ws, hP, hD, hcov⟩ := S.2.2.1.2.1
  obtain ⟨q0, hq⟩ := hcov a _ he
  have hts := S.1.2.2.2.1
  rcases L with L | ⟨host, L⟩
  · exact va_put S.1.1.1 S.1.1.2.1 hts K.2.1 ty K.2.2.1 K.2.2.2 S.1.2.1.1 S.1.2.2.1 hP hD (z_rf S) q0 hq K.1 k hk (hts _ L) (fun _ z => z) hfin (K.2.2.1 k hk) hn hf hl hd (fun H1 locs1 hP1 hD1 hS1 => z_sz fun hz => kk p e s m args below meth c R ss0 H1 locs1 ls (z_wr S hD hcov hq hP1 hD1 hS1 hz) hls)
  · exact va_putN S.1.1.1 S.1.1.2.1 hts K.2.1 ty K.2.2.1 K.2.2.2 S.1.2.1.1 S.1.2.2.1 hP hD (z_rf S) q0 hq K.1 k hk (hts _ L) (fun _ z => z) hfin (K.2.2.1 k hk) hn hf hl hd (fun H1 locs1 hP1 hD1 hS1 => z_sz fun hz => kk p e s m args below meth c R ss0 H1 locs1 ls (z_wr S hD hcov hq hP1 hD1 hS1 hz) hls)
theorem z_putF {ci N k idx a : Nat} {C : String} {T : u_T} {ty : Nat → FieldType} {fs : List Value} {v : Value} (K : z_cls G ci C T N ty) (hk : k < N) (L : Cond.fieldLink mt.1.cls idx (T k).1 (T k).2.1 (T k).2.2.1 ∈ G.Ts) (hfin : (T k).2.2.2 = true) (hi : mt.1.name = "<init>") (ho : (T k).1 = mt.1.cls) (hd : decode mt.2.1 pc = .ok (.putfield idx, 3)) (he : h.2.2 a = some (.inr (ci, fs))) (hn : narrow (ty k) v = v) (hf : fits (ty k) v = true) (hl : k < fs.length)
    (kk : z_V G mt d (pc + 3) lo st (z_set h a (.inr (ci, fs.set k v))) Q) : z_V G mt d pc lo (v :: .ref a :: st) h Q := by
  intro p e s m args below meth c R ss0 H locs ls S hls
  obtain ⟨ws, hP, hD, hcov⟩ := S.2.2.1.2.1
  obtain ⟨q0, hq⟩ := hcov a _ he
  have hts := S.1.2.2.2.1
  exact va_putF S.1.1.1 S.1.1.2.1 hts K.2.1 ty K.2.2.1 K.2.2.2 S.1.2.1.1 S.1.2.2.1 hP hD (z_rf S) q0 hq K.1 k hk (hts _ L) (fun _ z => z) hfin (S.1.2.1.2.2.1.trans hi) ho (K.2.2.1 k hk) hn hf hl hd (fun H1 locs1 hP1 hD1 hS1 => z_sz fun hz => kk p e s m args below meth c R ss0 H1 locs1 ls (z_wr S hD hcov hq hP1 hD1 hS1 hz) hls)
theorem z_iald {t0 a n : Nat} {cA : ClassId} {f : Nat → Int32} {i : Int32} (hd : decode mt.2.1 pc = .ok (.iaload, 1)) (ht : G.tys[t0]? = some (cA, .int)) (he : h.2.2 a = some (.inl (cA, n, .inl f))) (hin : vp_in i n)
    (kk : z_V G mt d (pc + 1) lo (.int (f i.toNatClampNeg) :: st) h Q) : z_V G mt d pc lo (.int i :: .ref a :: st) h Q := by
  intro p e s m args below meth c R ss0 H locs ls S hl
  obtain ⟨ws, hP, hD, hcov⟩ := S.2.2.1.2.1
  obtain ⟨q0, hq⟩ := hcov a _ he
  exact va_iald S.1.1.1 S.1.1.2.1 S.1.2.2.1 hP q0 t0 hq ht hin hd (kk p e s m args below meth c R ss0 H locs ls S hl)
theorem z_zald {t0 a n : Nat} {cA : ClassId} {f : Nat → Int32} {i : Int32} (hd : decode mt.2.1 pc = .ok (.baload, 1)) (ht : G.tys[t0]? = some (cA, .boolean)) (he : h.2.2 a = some (.inl (cA, n, .inl f))) (hin : vp_in i n)
    (kk : z_V G mt d (pc + 1) lo (.int (f i.toNatClampNeg) :: st) h Q) : z_V G mt d pc lo (.int i :: .ref a :: st) h Q := by
  intro p e s m args below meth c R ss0 H locs ls S hl
  obtain ⟨ws, hP, hD, hcov⟩ := S.2.2.1.2.1
  obtain ⟨q0, hq⟩ := hcov a _ he
  exact va_zald S.1.1.1 S.1.1.2.1 S.1.2.2.1 hP q0 t0 hq ht hin hd (kk p e s m args below meth c R ss0 H locs ls S hl)
theorem z_lald {t0 a n : Nat} {cA : ClassId} {f : Nat → Int64} {i : Int32} (hd : decode mt.2.1 pc = .ok (.laload, 1)) (ht : G.tys[t0]? = some (cA, .long)) (he : h.2.2 a = some (.inl (cA, n, .inr (.inl f)))) (hin : vp_in i n)
    (kk : z_V G mt d (pc + 1) lo (.long (f i.toNatClampNeg) :: st) h Q) : z_V G mt d pc lo (.int i :: .ref a :: st) h Q := by
  intro p e s m args below meth c R ss0 H locs ls S hl
  obtain ⟨ws, hP, hD, hcov⟩ := S.2.2.1.2.1
  obtain ⟨q0, hq⟩ := hcov a _ he
  exact va_lald S.1.1.1 S.1.1.2.1 S.1.2.2.1 hP q0 t0 hq ht hin hd (kk p e s m args below meth c R ss0 H locs ls S hl)
theorem z_aald {t0 a n x : Nat} {cA : ClassId} {C : String} {f : Nat → Option Nat} {i : Int32} (hd : decode mt.2.1 pc = .ok (.aaload, 1)) (ht : G.tys[t0]? = some (cA, .object C)) (he : h.2.2 a = some (.inl (cA, n, .inr (.inr (.inr (.inr f)))))) (hin : vp_in i n) (hx : f i.toNatClampNeg = some x)
    (kk : z_V G mt d (pc + 1) lo (.ref x :: st) h Q) : z_V G mt d pc lo (.int i :: .ref a :: st) h Q := by
  intro p e s m args below meth c R ss0 H locs ls S hl
  obtain ⟨ws, hP, hD, hcov⟩ := S.2.2.1.2.1
  obtain ⟨q0, hq⟩ := hcov a _ he
  refine va_aldq S.1.1.1 S.1.1.2.1 S.1.2.2.1 hP q0 t0 hq ht hin hd ?_
  rw [hx]
  exact kk p e s m args below meth c R ss0 H locs ls S hl
theorem z_alen {t0 a : Nat} {cA : ClassId} {x : vp_A} {ty : FieldType} {v : Int32} (hd : decode mt.2.1 pc = .ok (.arraylength, 1)) (ht : G.tys[t0]? = some (cA, ty)) (he : h.2.2 a = some (.inl (cA, x))) (hv : Int32.ofNat x.1 = v)
    (kk : z_V G mt d (pc + 1) lo (.int v :: st) h Q) : z_V G mt d pc lo (.ref a :: st) h Q := by
  intro p e s m args below meth c R ss0 H locs ls S hl
  obtain ⟨ws, hP, hD, hcov⟩ := S.2.2.1.2.1
  obtain ⟨q0, hq⟩ := hcov a _ he
  exact va_alen S.1.1.1 S.1.1.2.1 S.1.2.2.1 hP q0 t0 hq ht hv hd (kk p e s m args below meth c R ss0 H locs ls S hl)
theorem z_sld {i : Int32} (hd : decode mt.2.1 pc = .ok (.iaload, 1)) (hin : vp_in i G.x.2.1) (kk : z_V G mt d (pc + 1) lo (.int (G.x.2.2 i.toNatClampNeg) :: st) h Q) : z_V G mt d pc lo (.int i :: .ref G.x.1 :: st) h Q := by
  intro p e s m args below meth c R ss0 H locs ls S hl
  obtain ⟨scr, h1, h2, h3, h4, h5⟩ := S.2.2.1.2.2.2.2.1
  have hlt : i.toNatClampNeg < G.x.2.1 := Nat.not_le.mp fun q => hin (Or.inr q)
  exact W.iald (v := .int (G.x.2.2 i.toNatClampNeg)) S.1.1.1 S.1.1.2.1 h1 h2 h3 (by rw [h4]; exact hin) (h5 _ hlt) rfl rfl hd (kk p e s m args below meth c R ss0 H locs ls S hl)
theorem z_slen (hd : decode mt.2.1 pc = .ok (.arraylength, 1)) (kk : z_V G mt d (pc + 1) lo (.int (Int32.ofNat G.x.2.1) :: st) h Q) : z_V G mt d pc lo (.ref G.x.1 :: st) h Q := by
  intro p e s m args below meth c R ss0 H locs ls S hl
  obtain ⟨scr, h1, h2, h3, h4, h5⟩ := S.2.2.1.2.2.2.2.1
  exact W.alen (n := Int32.ofNat G.x.2.1) S.1.1.1 S.1.1.2.1 h1 h2 (by rw [h4] <;> rfl) rfl rfl hd (kk p e s m args below meth c R ss0 H locs ls S hl)
theorem z_iast {t0 a n : Nat} {cA : ClassId} {f : Nat → Int32} {i x : Int32} (hd : decode mt.2.1 pc = .ok (.iastore, 1)) (ht : G.tys[t0]? = some (cA, .int)) (he : h.2.2 a = some (.inl (cA, n, .inl f))) (hin : vp_in i n)
    (kk : z_V G mt d (pc + 1) lo st (z_set h a (.inl (cA, n, .inl (upd f i.toNatClampNeg x)))) Q) : z_V G mt d pc lo (.int x :: .int i :: .ref a :: st) h Q := by
  intro p e s m args below meth c R ss0 H locs ls S hl
  obtain ⟨ws, hP, hD, hcov⟩ := S.2.2.1.2.1
  obtain ⟨q0, hq⟩ := hcov a _ he
  exact va_iast S.1.1.1 S.1.1.2.1 S.1.2.2.1 hP hD (z_rf S) q0 t0 hq ht hin hd (fun H1 locs1 hP1 hD1 hS1 => z_sz fun hz => kk p e s m args below meth c R ss0 H1 locs1 ls (z_wr S hD hcov hq hP1 hD1 hS1 hz) hl)
theorem z_zast {t0 a n : Nat} {cA : ClassId} {f : Nat → Int32} {i x : Int32} (hd : decode mt.2.1 pc = .ok (.bastore, 1)) (ht : G.tys[t0]? = some (cA, .boolean)) (he : h.2.2 a = some (.inl (cA, n, .inl f))) (hin : vp_in i n)
    (kk : z_V G mt d (pc + 1) lo st (z_set h a (.inl (cA, n, .inl (upd f i.toNatClampNeg (vp_nar .boolean x))))) Q) : z_V G mt d pc lo (.int x :: .int i :: .ref a :: st) h Q := by
  intro p e s m args below meth c R ss0 H locs ls S hl
  obtain ⟨ws, hP, hD, hcov⟩ := S.2.2.1.2.1
  obtain ⟨q0, hq⟩ := hcov a _ he
  exact va_zast S.1.1.1 S.1.1.2.1 S.1.2.2.1 hP hD (z_rf S) q0 t0 hq ht hin hd (fun H1 locs1 hP1 hD1 hS1 => z_sz fun hz => kk p e s m args below meth c R ss0 H1 locs1 ls (z_wr S hD hcov hq hP1 hD1 hS1 hz) hl)
theorem z_last {t0 a n : Nat} {cA : ClassId} {f : Nat → Int64} {i : Int32} {x : Int64} (hd : decode mt.2.1 pc = .ok (.lastore, 1)) (ht : G.tys[t0]? = some (cA, .long)) (he : h.2.2 a = some (.inl (cA, n, .inr (.inl f)))) (hin : vp_in i n)
    (kk : z_V G mt d (pc + 1) lo st (z_set h a (.inl (cA, n, .inr (.inl (vp_updL f i.toNatClampNeg x))))) Q) : z_V G mt d pc lo (.long x :: .int i :: .ref a :: st) h Q := by
  intro p e s m args below meth c R ss0 H locs ls S hl
  obtain ⟨ws, hP, hD, hcov⟩ := S.2.2.1.2.1
  obtain ⟨q0, hq⟩ := hcov a _ he
  exact va_last S.1.1.1 S.1.1.2.1 S.1.2.2.1 hP hD (z_rf S) q0 t0 hq ht hin hd (fun H1 locs1 hP1 hD1 hS1 => z_sz fun hz => kk p e s m args below meth c R ss0 H1 locs1 ls (z_wr S hD hcov hq hP1 hD1 hS1 hz) hl)
theorem z_aast {t0 a n x ci N : Nat} {cA : ClassId} {C : String} {T : u_T} {ty : Nat → FieldType} {fs : List Value} {f : Nat → Option Nat} {i : Int32} (K : z_cls G ci C T N ty) (hd : decode mt.2.1 pc = .ok (.aastore, 1)) (ht : G.tys[t0]? = some (cA, .object C)) (he : h.2.2 a = some (.inl (cA, n, .inr (.inr (.inr (.inr f)))))) (hx : h.2.2 x = some (.inr (ci, fs))) (hin : vp_in i n)
    (kk : z_V G mt d (pc + 1) lo st (z_set h a (.inl (cA, n, .inr (.inr (.inr (.inr (va_up f i.toNatClampNeg (some x)))))))) Q) : z_V G mt d pc lo (.ref x :: .int i :: .ref a :: st) h Q := by
  intro p e s m args below meth c R ss0 H locs ls S hl
  obtain ⟨ws, hP, hD, hcov⟩ := S.2.2.1.2.1
  obtain ⟨q0, hq⟩ := hcov a _ he
  obtain ⟨q1, hq1⟩ := hcov x _ hx
  exact va_astq S.1.1.1 S.1.1.2.1 S.1.2.2.1 hP hD (z_rf S) q0 t0 q1 ci (r := (C, T, N)) hq ht hq1 K.1 hin hd (fun H1 locs1 hP1 hD1 hS1 => z_sz fun hz => kk p e s m args below meth c R ss0 H1 locs1 ls (z_wr S hD hcov hq hP1 hD1 hS1 hz) hl)
theorem z_copy {t0 a0 a n0 n1 idx : Nat} {cA : ClassId} {f g : Nat → Int32} {sp dp n : Int32} (hd : decode mt.2.1 pc = .ok (.invokestatic idx, 3)) (ht : G.tys[t0]? = some (cA, .int)) (w1 : Cond.methodLink mt.1.cls idx arraycopyName ∈ G.Ts) (w2 : Cond.native arraycopyName ∈ G.Ts) (w3 : Cond.static arraycopyName ∈ G.Ts) (w4 : Cond.initialized "java/lang/System" ∈ G.Ts)
    (he0 : h.2.2 a0 = some (.inl (cA, n0, .inl f))) (he : h.2.2 a = some (.inl (cA, n1, .inl g))) (h1 : ¬ sp < 0) (h2 : ¬ dp < 0) (h3 : ¬ n < 0) (h4 : sp.toNatClampNeg + n.toNatClampNeg ≤ n0) (h5 : dp.toNatClampNeg + n.toNatClampNeg ≤ n1)
    (hst : (st.map fun v => v.category).sum + (nativeFrameWords "java/lang/System" "arraycopy" 5 + 11) ≤ 150)
    (kk : z_V G mt d (pc + 3) lo st (z_set h a (.inl (cA, n1, .inl (va_cpy f g sp.toNatClampNeg dp.toNatClampNeg n.toNatClampNeg)))) Q) : z_V G mt d pc lo (.int n :: .int dp :: .ref a :: .int sp :: .ref a0 :: st) h Q := by
  intro p e s m args below meth c R ss0 H locs ls S hl
  obtain ⟨ws, hP, hD, hcov⟩ := S.2.2.1.2.1
  obtain ⟨q0, hq0⟩ := hcov a0 _ he0
  obtain ⟨q1, hq⟩ := hcov a _ he
  have hts := S.1.2.2.2.1
  have hR := S.2.1
  exact va_copyi S.1.1.1 S.1.1.2.1 (S.1.1.2.2.1.trans hl.1.symm) S.1.2.1.1 (hts _ w1) (hts _ w2) (hts _ w3) (hts _ w4) S.1.2.2.1 hP hD (z_rf S) q0 q1 t0 t0 hq0 hq ht ht rfl h1 h2 h3 h4 h5 (fun _ _ => rfl) (by omega) (by omega) hd (fun H1 locs1 hP1 hD1 hS1 => z_sz fun hz => kk p e s m args below meth c R ss0 H1 locs1 ls (z_wr S hD hcov hq hP1 hD1 hS1 hz) hl)
theorem z_newo {ci N idx : Nat} {C : String} {T : u_T} {ty : Nat → FieldType} {fs : List Value} (K : z_cls G ci C T N ty) (hd : decode mt.2.1 pc = .ok (.new idx, 3)) (w1 : Cond.classLink mt.1.cls idx C ∈ G.Ts) (w2 : Cond.instantiable C N ∈ G.Ts) (w3 : Cond.initialized C ∈ G.Ts) (hfs : ∀ j, j < N → defaultValue (ty j) = vp_V fs j) (hc : h.1 + 1 ≤ G.b0 + G.cc) (hs : h.2.1 + N ≤ G.ss)
    (kk : z_V G mt d (pc + 3) lo (.ref h.1 :: st) (z_new h N (.inr (ci, fs))) Q) : z_V G mt d pc lo st h Q := by
  intro p e s m args below meth c R ss0 H locs ls S hl
  have hts := S.1.2.2.2.1
  have hR := S.2.1
  have hZ := S.2.2.2.2
  have hKn := S.1.2.2.1.1 ci _ K.1
  refine W.newcK S.1.1.1 S.1.1.2.1 S.1.2.1.1 (hts _ w1) (hts _ w2) (hts _ w3) rfl hd (by omega) (by omega) hKn.2.1 S.2.2.1.1 fun H1 kC hkC e1 z1 o1 => ?_
  refine W.cs (cells' := h.1 + 1 - s.heap.size) (slots' := h.2.1 + N - ss0) (by omega) (by omega) ?_
  exact kk p e s m args below meth c R ss0 H1 locs ls (z_nw S hc hs ⟨_, K.1, (u_born ty hts K.2.1 hKn hkC e1 K.2.2.1).to hfs⟩ z1 o1) hl
theorem z_newa {t0 N' : Nat} {cA : ClassId} {atype : ArrayType} {ty : FieldType} {n : Int32} {a0 : vp_A} (hd : decode mt.2.1 pc = .ok (.newarray atype, 2)) (hty : newarray.typeOf atype = ty) (w1 : Cond.arrayClass ty ∈ G.Ts) (ht : G.tys[t0]? = some (cA, ty)) (hra : ∀ (U : State) (x : ClassId), va_RA U x ty → U.vm.findClass ("[" ++ ty.toString) = some x) (ha : ∀ x : ClassId, vp_cell x a0 = arrV x N' (fun _ => defaultValue ty)) (hn : ¬ n < 0) (hN : n.toNatClampNeg = N') (hby : N' * componentBytes ty ≤ 536870912) (hc : h.1 + 1 ≤ G.b0 + G.cc) (hs : h.2.1 + N' ≤ G.ss)
    (kk : z_V G mt d (pc + 2) lo (.ref h.1 :: st) (z_new h N' (.inl (cA, a0))) Q) : z_V G mt d pc lo (.int n :: st) h Q := by
  subst hty
  intro p e s m args below meth c R ss0 H locs ls S hl
  have hts := S.1.2.2.2.1
  have hR := S.2.1
  have hZ := S.2.2.2.2
  refine va_newaK S.1.1.1 S.1.1.2.1 (hts _ w1) rfl hd rfl hn hN hby (by omega) (by omega) S.2.2.1.1 fun H1 x e1 z1 o1 hAr hNm => ?_
  have hx : x = cA := Option.some.inj (hNm.symm.trans (hra s cA (S.1.2.2.1.2 t0 _ ht).2))
  subst hx
  refine W.cs (cells' := h.1 + 1 - s.heap.size) (slots' := h.2.1 + N' - ss0) (by omega) (by omega) ?_
  exact kk p e s m args below meth c R ss0 H1 locs ls (z_nw S hc hs (by show H1[h.1]? = some (vp_cell _ _); rw [ha]; exact e1) z1 o1) hl
theorem z_anew {t0 N' idx : Nat} {cA : ClassId} {C : String} {n : Int32} (hd : decode mt.2.1 pc = .ok (.anewarray idx, 3)) (w1 : Cond.classLink mt.1.cls idx C ∈ G.Ts) (w2 : Cond.arrayOver (.object C) ∈ G.Ts) (ht : G.tys[t0]? = some (cA, .object C)) (hn : ¬ n < 0) (hN : n.toNatClampNeg = N') (hby : N' * 4 ≤ 536870912) (hc : h.1 + 1 ≤ G.b0 + G.cc) (hs : h.2.1 + N' ≤ G.ss)
    (kk : z_V G mt d (pc + 3) lo (.ref h.1 :: st) (z_new h N' (.inl (cA, N', .inr (.inr (.inr (.inr (fun _ => none))))))) Q) : z_V G mt d pc lo (.int n :: st) h Q := by
  subst hN
  intro p e s m args below meth c R ss0 H locs ls S hl
  have hts := S.1.2.2.2.1
  have hR := S.2.1
  have hZ := S.2.2.2.2
  have hz0 : H.size = h.1 := S.2.2.1.1
  refine W.anew S.1.1.1 S.1.1.2.1 S.1.2.1.1 (hts _ w1) (hts _ w2) rfl hd rfl hn hby (by omega) (by omega) fun x kA comp f1 f2 f3 f4 => ?_
  obtain ⟨-, -, -, -, -, f5⟩ := (S.1.2.2.1.2 t0 _ ht).2
  have hx : x = cA := Option.some.inj (f1.symm.trans f5)
  subst hx
  generalize hH1 : H.push ({ cls := x, slots := Array.replicate n.toNatClampNeg .null, vm := .none } : Cell) = H1
  have z1 : H1.size = h.1 + 1 := by rw [← hH1, Array.size_push, hz0]
  have e1 : H1[h.1]? = some (arrV x n.toNatClampNeg (fun _ => .null)) := by rw [← hH1, ← hz0, Array.getElem?_push_size, ← arrV_new]
  have o1 : ∀ q : Nat, q < h.1 → H1[q]? = H[q]? := fun q hq => by rw [← hH1, Array.getElem?_push, if_neg (by omega)]
  rw [hz0]
  refine W.cs (cells' := h.1 + 1 - s.heap.size) (slots' := h.2.1 + n.toNatClampNeg - ss0) (by omega) (by omega) ?_
  exact kk p e s m args below meth c R ss0 H1 locs ls (z_nw S hc hs (by show H1[h.1]? = some (vp_cell _ _); rw [vp_cell_q]; exact e1) z1 o1) hl
theorem z_oinit {a idx : Nat} (hd : decode mt.2.1 pc = .ok (.invokespecial idx, 3)) (w1 : Cond.methodLink mt.1.cls idx Lib.objectInit ∈ G.Ts) (w2 : Cond.instanceMethod Lib.objectInit ∈ G.Ts) (w3 : Cond.code Lib.objectInit ⟨#[0xb1]⟩ 1 none ∈ G.Ts) (hst : (st.map fun v => v.category).sum ≤ 8)
    (kk : z_V G mt d (pc + 3) lo st h Q) : z_V G mt d pc lo (.ref a :: st) h Q := by
  intro p e s m args below meth c R ss0 H locs ls S hl
  have hts := S.1.2.2.2.1
  have hR := S.2.1
  exact W.objInit S.1.1.1 S.1.1.2.1 S.1.2.1.1 (hts _ w1) (hts _ w2) (hts _ w3) rfl (hl.1.trans S.1.1.2.2.1.symm) rfl hd (by omega) (by show 2 * 0 + _ + 12 ≤ _; omega) (kk p e s m args below meth c R ss0 H locs ls S hl)
end ZH
end
section
/-! calls, and exceptions -/
theorem z_under {tb : Tables} {e : Env} {g : JFrame} {below : List Frame} {a b : State} (h : Steps tb e (.java g :: below) a b) : Steps tb e below a b := by
  obtain ⟨n, h1, h2⟩ := h
  refine ⟨n, h1, fun k hk => ?_⟩
  obtain ⟨ab, e1, e2, e3⟩ := h2 k hk
  refine ⟨ab ++ [.java g], by rw [e1]; simp, by simp, fun x q => ?_⟩
  cases ab with
  | nil => exact e2 rfl
  | cons y t => simp at q
/-- the method's own code stands in the tables -/
def z_cd (G : z_G) (mt : z_M) : Prop := (mt.2.2.2.2 = [] ∧ Cond.code mt.1 mt.2.1 mt.2.2.1 mt.2.2.2.1 ∈ G.Ts) ∨ Cond.codeWith mt.1 mt.2.1 mt.2.2.1 mt.2.2.2.1 mt.2.2.2.2 ∈ G.Ts
theorem z_cd.spec {G : z_G} {mt : z_M} (hc : z_cd G mt) {args : Array Value} {s : State} (hts : ∀ w ∈ G.Ts, w.before args s = true) :
    ∃ (mk : MethodId) (meth : Method) (c : Code), s.methodNamed? mt.1 = some mk ∧ s.vm.method? mk = some meth ∧ meth.code = some c ∧ c.code = mt.2.1 ∧ c.maxLocals = mt.2.2.1 ∧ meth.sig.returnType = mt.2.2.2.1 ∧ meth.locks = false ∧
      c.exceptionTable.toList.map (fun h => (h.startPc, h.endPc, h.handlerPc, h.catchType)) = mt.2.2.2.2 ∧ parseMethodDescriptor mt.1.desc = some meth.sig := by
  rcases hc with ⟨h0, hc⟩ | hc
  · have hw := hts _ hc
    obtain ⟨mk, hn⟩ := Cond.code_named hw
    obtain ⟨meth, c, h1, h2, h3, h4, h5, h6, h7, h8⟩ := Cond.code_spec hn hw
    refine ⟨mk, meth, c, hn, h1, h2, h3, h4, h5, h6, ?_, h8⟩
    have h9 : c.exceptionTable.size = 0 := by simpa [Array.isEmpty] using h7
    have h10 : c.exceptionTable.toList = [] := List.eq_nil_of_length_eq_zero (by simpa using h9)
    rw [h10, h0]
    rfl
  · obtain ⟨mk, meth, c, hn, h1, h2, h3, h4, h5, h6, h7, h8⟩ := Cond.codeWith_spec (hts _ hc)
    exact ⟨mk, meth, c, hn, h1, h2, h3, h4, h6, h7, h5, h8⟩
section ZC
variable {p : Program} {e : Env} {R : Room} {s : State} {m : MethodId} {args : Array Value} {below : List Frame} {meth : Method} {c : Code} {T : State} {locs : List Loc} {ss0 : Nat}
variable {G : z_G} {mt mtY : z_M} {d dY : Nat} {h : z_H} {as : List Value} {QY : z_R → z_H → Prop}
theorem z_Out.moved {r : z_R} {o : Outcome} {U : State} {H : Heap} (hvm : s.vm.Alike U.vm) (h : z_Out r o U H) : z_Out r o s H := by
  cases r with
  | inl v => exact h
  | inr X =>
    obtain ⟨a, ce, h1, h2, h3, h4⟩ := h
    exact ⟨a, ce, h1, h2, h3, by rw [← hvm.findClass]; exact h4⟩
theorem z_core (X : Stand p G.l e R s m args below meth c T locs (h.1 - s.heap.size) (h.2.1 - ss0)) (S : z_St G mt d p s m args meth c R ss0 T.heap locs h)
    (hM : z_C G mtY dY as h QY) (hdp : dY + 1 ≤ d) (hmx : mtY.2.2.1 ≤ 16) (hcd : z_cd G mtY) (hpl : plainName mtY.1.cls = true)
    {g : JFrame} (hg : g.method = m) (hsize : g.locals.size = c.maxLocals) {ig : Instr} {len : Nat} (hdg : decode c.code g.pc = .ok (ig, len)) (hw : 2 * g.monitorRoom + (g.stack.map fun v => v.category).sum ≤ 8)
    {mk : MethodId} (hmk : s.methodNamed? mtY.1 = some mk) :
    ∃ (o : Outcome) (r : z_R) (h' : z_H) (T' : State) (locs' : List Loc), QY r h' ∧ z_Out r o s T'.heap ∧ Stand p G.l e R s m args below meth c T' locs' (h'.1 - s.heap.size) (h'.2.1 - ss0) ∧ z_St G mt d p s m args meth c R ss0 T'.heap locs' h' ∧
      ∀ acts, Steps p.tables e below (doInvoke e (T.setTop g) acts mk as.toArray).1 (match o with | .returned v => T'.setTop { g with pc := g.pc + len, stack := v.toList ++ g.stack } | .threw a => (T'.setTop g).pushFrame (.throwing a)) := by
  obtain ⟨S1, ⟨r1, r2, r3, r4⟩, ⟨Ra, ⟨ws, hP, hD, hcov⟩, Rz1, Rz2, Rx, Rb⟩, S4, S5⟩ := id S
  obtain ⟨s5a, s5b, s5c, s5d⟩ := S5
  have hts : ∀ w ∈ G.Ts, w.before args s = true := S1.2.2.2.1
  have hmv : ∀ w ∈ G.Ts, z_mv w = true := S1.2.2.2.2.1
  have htsT : ∀ w ∈ G.Ts, w.before as.toArray T = true := fun w hw => z_move (hmv w hw) X.warmed (hts w hw)
  obtain ⟨mk', methY, cY, hnY, hmY, hcY, hbY, hlY, hrY, hkY, htY, -⟩ := hcd.spec htsT
  have hnS : T.methodNamed? mtY.1 = some mk := X.named hmk
  cases hnY.symm.trans hnS
  have hplain : T.plainMethod mk := State.plainMethod.of_named (plainFor_of_name hpl) hnS hmY
  obtain ⟨Y, hin⟩ := X.into hg hsize hdg as.toArray (R' := { frames := R.frames - 1, cells := G.b0 + G.cc - h.1, slots := G.ss - h.2.1, locals := R.locals - 35 }) hmY hcY hkY hplain (by show R.frames - 1 + 1 ≤ R.frames; omega) (by show _ + (R.locals - 35) ≤ R.locals; rw [hlY]; omega) (by show _ + (G.b0 + G.cc - h.1) ≤ R.cells; omega) (by show _ + (G.ss - h.2.1) ≤ R.slots; omega)
  have hal : s.vm.Alike T.vm := X.warmed.alike
  have S' : z_St G mtY dY p (T.calling g mk as.toArray) mk as.toArray methY cY { frames := R.frames - 1, cells := G.b0 + G.cc - h.1, slots := G.ss - h.2.1, locals := R.locals - 35 } h.2.1 (T.calling g mk as.toArray).heap [] h := by
    refine ⟨⟨⟨S1.1.1, hbY, hlY, hrY⟩, ⟨findClass_of_methodNamed hnS, hkY, (name_of_methodNamed hnS hmY).1, htY⟩, va_K.moved (u := s) (U := T.calling g mk as.toArray) hal S1.2.2.1, fun w hw => ?_, hmv, S1.2.2.2.2.2⟩, ⟨by show dY + 6 ≤ R.frames - 1; omega, by show 35 * dY + 150 ≤ R.locals - 35; omega, ?_, ?_⟩, ⟨Ra, ⟨ws, hP, hD, hcov⟩, Rz1.moved hal, Rz2.moved hal, Rx.moved hal, Rb⟩, ⟨va_S.rf, ?_⟩, ?_, Nat.le_refl _, s5c, s5d⟩
    · exact z_move (U := T.calling g mk as.toArray) (hmv w hw) X.warmed (hts w hw)
    · show G.b0 + G.cc ≤ T.heap.size + (G.b0 + G.cc - h.1)
      omega
    · show G.ss ≤ h.2.1 + (G.ss - h.2.1)
      omega
    · show G.b0 ≤ T.heap.size
      have := S4.2
      omega
    · show T.heap.size ≤ h.1
      omega
  obtain ⟨t, hst, o, r, h', hq, hrun, hended, hW, ⟨L, hsame, hL⟩, hRel, hlow, ⟨u1, u2, u3, u4⟩, hout⟩ := hM p e (T.calling g mk as.toArray) mk (.java g :: below) methY cY _ S' ((T.setTop g).pushFrame (.java (entryFrame mk as.toArray cY.maxLocals))) rfl Y
  have hzT : (T.calling g mk as.toArray).heap.size = h.1 := Ra
  have hst2 : ∀ acts, Steps p.tables e below (doInvoke e (T.setTop g) acts mk as.toArray).1 t := fun acts => by
    rw [hin acts]
    rw [← hlY] at hst
    exact z_under hst
  have hcl : h.1 - s.heap.size + (h'.1 - (T.calling g mk as.toArray).heap.size) = h'.1 - s.heap.size := by rw [hzT] at u1 ⊢; omega
  have hsl : h.2.1 - ss0 + (h'.2.1 - h.2.1) = h'.2.1 - ss0 := by omega
  have hSt : ∀ T' : State, T'.heap = t.heap → z_St G mt d p s m args meth c R ss0 T'.heap (locs ++ L) h' := by
    intro T' hT'
    rw [hT']
    obtain ⟨q1, q2, q3, q4, q5, q6⟩ := hRel
    refine ⟨S1, ⟨r1, r2, r3, r4⟩, ⟨q1, q2, q3.moved (u := T.calling g mk as.toArray) (U := s) hal.symm, q4.moved (u := T.calling g mk as.toArray) (U := s) hal.symm, q5.moved (u := T.calling g mk as.toArray) (U := s) hal.symm, q6⟩, ⟨⟨?_, fun q g1 g2 => ?_, fun x hx => ?_⟩, S4.2⟩, ?_, by omega, u3, u4⟩
    · rw [hzT] at u1; omega
    · have hq' : q < G.b0 := Nat.not_le.mp g2
      exact (hlow q hq').trans (S4.1.2.1 q g1 g2)
    · rcases List.mem_append.mp hx with hx | hx
      · exact S4.1.2.2 x hx
      · exact hL x hx
    · rw [hzT] at u1; omega
  cases o with
  | returned v =>
    obtain ⟨T', X', -, -, rfl⟩ := X.outOf hg hdg hended hW hsame
    rw [hcl, hsl] at X'
    exact ⟨.returned v, r, h', T', locs ++ L, hq, z_Out.moved (U := T.calling g mk as.toArray) hal hout, X', hSt T' rfl, hst2⟩
  | threw a =>
    obtain ⟨T', X', -, -, rfl⟩ := X.outOfThrown hg hended hW hsame
    rw [hcl, hsl] at X'
    exact ⟨.threw a, r, h', T', locs ++ L, hq, z_Out.moved (U := T.calling g mk as.toArray) hal hout, X', hSt T' rfl, hst2⟩
end ZC
section ZK
variable {G : z_G} {mt mtY : z_M} {d dY pc : Nat} {lo : List (Nat × Value)} {st : List Value} {h : z_H} {Q QY : z_R → z_H → Prop} {as : List Value}
theorem z_noh {c : Code} (hh : c.exceptionTable.toList.map (fun h => (h.startPc, h.endPc, h.handlerPc, h.catchType)) = []) (pc : Nat) : ∀ x ∈ c.exceptionTable.toList, covers x pc = false := by
  have h1 : c.exceptionTable.toList = [] := List.map_eq_nil_iff.mp hh
  intro x hx
  rw [h1] at hx
  cases hx
theorem z_after {p : Program} {e : Env} {R : Room} {s : State} {m : MethodId} {args : Array Value} {below : List Frame} {meth : Method} {c : Code} {T : State} {vm₁ : Vm} {locs : List Loc} {ss0 : Nat} {ls : Array Slot} {st0 : List Value} {ig : Instr} {mk : MethodId}
    (hd : decode mt.2.1 pc = .ok (ig, 3)) (hh : mt.2.2.2.2 = []) (hdp : dY + 1 ≤ d) (hmx : mtY.2.2.1 ≤ 16) (hcd : z_cd G mtY) (hpl : plainName mtY.1.cls = true) (hst : (st.map fun v => v.category).sum ≤ 8) (hM : z_C G mtY dY as h QY)
    (kr : ∀ v h', QY (.inl v) h' → z_V G mt d (pc + 3) lo (v.toList ++ st) h' Q) (kx : ∀ X h', QY (.inr X) h' → Q (.inr X) h')
    (S : z_St G mt d p s m args meth c R ss0 T.heap locs h) (hl : lv_has ls mt.2.2.1 lo) (X : Stand p G.l e R s m args below meth c (T.setVm vm₁) locs (h.1 - s.heap.size) (h.2.1 - ss0)) (hmk : s.methodNamed? mtY.1 = some mk)
    (hstep : ∀ target, (∀ acts, Steps p.tables e below (doInvoke e ((T.setVm vm₁).setTop (F0 m pc ls st)) acts mk as.toArray).1 target) → Steps p.tables e below (T.setTop (F0 m pc ls st0)) target) :
    ∃ t, Steps p.tables e below (T.setTop (F0 m pc ls st0)) t ∧ z_End G s below ss0 Q t := by
  obtain ⟨o, r, h', T', locs', hq, hout, X', S', hs⟩ := z_core (T := T.setVm vm₁) X S hM hdp hmx hcd hpl (g := F0 m pc ls st) rfl (hl.1.trans S.1.1.2.2.1.symm) (by rw [S.1.1.2.1]; exact hd) (by show 2 * 0 + (st.map fun v => v.category).sum ≤ 8; omega) hmk
  cases r with
  | inl v =>
    obtain rfl : o = .returned v := hout
    obtain ⟨t, a, b⟩ := kr v h' hq p e s m args below meth c R ss0 T'.heap locs' ls S' hl T' rfl X'
    exact ⟨t, hstep t (fun acts => (hs acts).trans a), b⟩
  | inr Xc =>
    obtain ⟨a, ce, rfl, hce, hcv, hcc⟩ := hout
    have hlocks : meth.locks = false := S.1.2.1.2.1
    obtain ⟨hwalk, hrun, hended, hW, hsame⟩ := X'.leaveThrown a (g := F0 m pc ls st) rfl rfl rfl (z_noh (S.1.2.1.2.2.2.trans hh) _)
    refine ⟨T'.setFrames (.throwing a :: below), hstep _ (fun acts => (hs acts).trans hwalk), .threw a, .inr Xc, h', kx Xc h' hq, hrun, hended, hW, ⟨locs', hsame, S'.2.2.2.1.1.2.2⟩, S'.2.2.1, fun q hq2 => ?_, S'.2.2.2.2, a, ce, rfl, hce, hcv, hcc⟩
    exact S'.2.2.2.1.1.2.1 q (Nat.lt_of_lt_of_le hq2 S'.2.2.2.1.2) (Nat.not_le.mpr hq2)
/-- what the tables say of a method that a class's pool names at index -/
def z_Yb (G : z_G) (own : String) (idx : Nat) (mtY : z_M) (n : Nat) : Prop := z_cd G mtY ∧ plainName mtY.1.cls = true ∧ mtY.2.2.1 ≤ 16 ∧ ((mtY.1.cls ≠ "java/lang/invoke/MethodHandle" ∧ mtY.1.cls ≠ "java/lang/invoke/VarHandle") ∧ (parseMethodDescriptor mtY.1.desc).map (fun d => d.parameters.length) = some n) ∧
  (Cond.methodLink own idx mtY.1 ∈ G.Ts ∨ ∃ host : String, Cond.methodLinkNest own idx mtY.1 host ∈ G.Ts)
def z_Yv (G : z_G) (own : String) (idx : Nat) (mtY : z_M) (n : Nat) : Prop := z_Yb G own idx mtY n ∧ Cond.instanceMethod mtY.1 ∈ G.Ts ∧ Cond.selects mtY.1.cls mtY.1 mtY.1 ∈ G.Ts
def z_Ys (G : z_G) (own : String) (idx : Nat) (mtY : z_M) (n : Nat) : Prop := z_Yb G own idx mtY n ∧ Cond.static mtY.1 ∈ G.Ts ∧ Cond.initialized mtY.1.cls ∈ G.Ts
def z_Yi (G : z_G) (own : String) (idx : Nat) (mtY : z_M) : Prop := z_Yb G own idx mtY 0 ∧ mtY.1.name = "<init>" ∧ mtY.2.2.2.1 = none ∧ mtY.2.2.2.2 = [] ∧ Cond.code mtY.1 mtY.2.1 mtY.2.2.1 none ∈ G.Ts ∧ Cond.instanceMethod mtY.1 ∈ G.Ts
theorem z_callV {b ci N idx n : Nat} {T : u_T} {fs : List Value} (hd : decode mt.2.1 pc = .ok (.invokevirtual idx, 3)) (hh : mt.2.2.2.2 = []) (hdp : dY + 1 ≤ d) (Y : z_Yv G mt.1.cls idx mtY n) (hn : as.length = n) (hb : h.2.2 b = some (.inr (ci, fs))) (hcl : G.cl[ci]? = some (mtY.1.cls, T, N)) (hst : (st.map fun v => v.category).sum ≤ 8) (hM : z_C G mtY dY (.ref b :: as) h QY)
    (kr : ∀ v h', QY (.inl v) h' → z_V G mt d (pc + 3) lo (v.toList ++ st) h' Q) (kx : ∀ X h', QY (.inr X) h' → Q (.inr X) h') : z_V G mt d pc lo (as.reverse ++ .ref b :: st) h Q := by
  intro p e s m args below meth c R ss0 H locs ls S hl T0 hT X
  subst hT
  obtain ⟨⟨hcd, hpl, hmx, ⟨hy, hpd⟩, hL⟩, hw1, hw2⟩ := Y
  have hts : ∀ w ∈ G.Ts, w.before args s = true := S.1.2.2.2.1
  obtain ⟨mk, methM, hnamed, hmethM, hstM, habM⟩ := Cond.instanceMethod_spec (hts _ hw1)
  obtain ⟨mk', methY, cY, hnY, hmY, -, -, -, -, -, -, hsig⟩ := hcd.spec hts
  cases hnamed.symm.trans hnY
  cases hmethM.symm.trans hmY
  have hlen : as.length = methM.sig.parameters.length := by
    rw [hsig] at hpd
    exact hn.trans (Option.some.inj hpd).symm
  obtain ⟨c2, r2, m2, q1, q2, q3, q4, kP, hkP, hkPi⟩ := Cond.selects_spec (hts _ hw2)
  obtain ⟨ws, hP, hD, hcov⟩ := S.2.2.1.2.1
  obtain ⟨q0, hq⟩ := hcov b _ hb
  obtain ⟨cellB, hcB, hoB, hclB⟩ := va_recv S.1.2.2.1 hP hcl hq
  cases hclB.symm.trans q1
  cases (State.methodFound?_of_named hnamed hy).symm.trans q2
  cases hnamed.symm.trans q3
  have hselP : selectMethod e.platform s.vm cellB.cls mk = .method mk := by rw [Launch.admits_selectMethod X.admits]; exact q4
  have hdc : decode c.code (F0 m pc ls (as.reverse ++ .ref b :: st)).pc = .ok (.invokevirtual idx, 3) := by rw [S.1.1.2.1]; exact hd
  rcases hL with hL | ⟨host, hL⟩
  · obtain ⟨vm₁, X₁, hstep⟩ := X.invokevirtual S.1.1.1 S.1.2.1.1 (hts _ hL) hnamed hmethM hstM hkP hkPi hy (a := b) (cell := cellB) hcB (fun z hz => by rw [hz] at hoB; cases hoB) hselP hmethM habM hkP hkPi (g := F0 m pc ls (as.reverse ++ .ref b :: st)) rfl (argsL := as) (rest := st) hlen rfl hdc
    exact z_after (as := .ref b :: as) hd hh hdp hmx hcd hpl hst hM kr kx S hl X₁ hnamed hstep
  · obtain ⟨vm₁, X₁, hstep⟩ := X.invokevirtualNest S.1.1.1 S.1.2.1.1 (hts _ hL) hnamed hmethM hstM hkP hkPi hy (a := b) (cell := cellB) hcB (fun z hz => by rw [hz] at hoB; cases hoB) hselP hmethM habM hkP hkPi (g := F0 m pc ls (as.reverse ++ .ref b :: st)) rfl (argsL := as) (rest := st) hlen rfl hdc
    exact z_after (as := .ref b :: as) hd hh hdp hmx hcd hpl hst hM kr kx S hl X₁ hnamed hstep
theorem z_callS {idx n : Nat} (hd : decode mt.2.1 pc = .ok (.invokestatic idx, 3)) (hh : mt.2.2.2.2 = []) (hdp : dY + 1 ≤ d) (Y : z_Ys G mt.1.cls idx mtY n) (hn : as.length = n) (hst : (st.map fun v => v.category).sum ≤ 8) (hM : z_C G mtY dY as h QY)
    (kr : ∀ v h', QY (.inl v) h' → z_V G mt d (pc + 3) lo (v.toList ++ st) h' Q) (kx : ∀ X h', QY (.inr X) h' → Q (.inr X) h') : z_V G mt d pc lo (as.reverse ++ st) h Q := by
  intro p e s m args below meth c R ss0 H locs ls S hl T0 hT X
  subst hT
  obtain ⟨⟨hcd, hpl, hmx, ⟨hy, hpd⟩, hL⟩, hw1, hw2⟩ := Y
  have hts : ∀ w ∈ G.Ts, w.before args s = true := S.1.2.2.2.1
  obtain ⟨mk, methM, cM, hnamed, hmethM, -, -, -, -, -, -, hsig⟩ := hcd.spec hts
  have hstatic : methM.isStatic = true := Cond.static_spec hnamed hmethM (hts _ hw1)
  obtain ⟨kP, hkP, -⟩ := className_of_methodNamed hnamed
  have hinitP : kP.init = .initialized := Cond.initialized_spec (findClass_of_methodNamed hnamed) hkP (hts _ hw2)
  have hlen : as.length = methM.sig.parameters.length := by
    rw [hsig] at hpd
    exact hn.trans (Option.some.inj hpd).symm
  have hdc : decode c.code (F0 m pc ls (as.reverse ++ st)).pc = .ok (.invokestatic idx, 3) := by rw [S.1.1.2.1]; exact hd
  rcases hL with hL | ⟨host, hL⟩
  · obtain ⟨vm₁, X₁, hstep⟩ := X.invokestatic S.1.1.1 S.1.2.1.1 (hts _ hL) hnamed hmethM hstatic hkP hinitP hy (g := F0 m pc ls (as.reverse ++ st)) rfl (argsL := as) (rest := st) hlen rfl hdc
    exact z_after hd hh hdp hmx hcd hpl hst hM kr kx S hl X₁ hnamed hstep
  · obtain ⟨vm₁, X₁, hstep⟩ := X.invokestaticNest S.1.1.1 S.1.2.1.1 (hts _ hL) hnamed hmethM hstatic hkP hinitP hy (g := F0 m pc ls (as.reverse ++ st)) rfl (argsL := as) (rest := st) hlen rfl hdc
    exact z_after hd hh hdp hmx hcd hpl hst hM kr kx S hl X₁ hnamed hstep
theorem z_callI {b idx : Nat} (hd : decode mt.2.1 pc = .ok (.invokespecial idx, 3)) (hh : mt.2.2.2.2 = []) (hdp : dY + 1 ≤ d) (Y : z_Yi G mt.1.cls idx mtY) (hst : (st.map fun v => v.category).sum ≤ 8) (hM : z_C G mtY dY [.ref b] h QY)
    (kr : ∀ v h', QY (.inl v) h' → z_V G mt d (pc + 3) lo (v.toList ++ st) h' Q) (kx : ∀ X h', QY (.inr X) h' → Q (.inr X) h') : z_V G mt d pc lo (.ref b :: st) h Q := by
  intro p e s m args below meth c R ss0 H locs ls S hl T0 hT X
  subst hT
  obtain ⟨⟨hcd, hpl, hmx, ⟨hy, hpd⟩, hL⟩, hy1, hret, hnh, hcode, hinst⟩ := Y
  have hts : ∀ w ∈ G.Ts, w.before args s = true := S.1.2.2.2.1
  have hpm : e.platform.magicAccessors = ({} : Platform).magicAccessors := by rw [X.admits.platform]
  have hlen : ∀ sig, parseMethodDescriptor mtY.1.desc = some sig → ([] : List Value).length = sig.parameters.length := fun sig hs => by
    rw [hs] at hpd
    exact (Option.some.inj hpd).symm
  have hdc : decode c.code (F0 m pc ls (.ref b :: st)).pc = .ok (.invokespecial idx, 3) := by rw [S.1.1.2.1]; exact hd
  rcases hL with hL | ⟨host, hL⟩
  · obtain ⟨mk, methM, cM, kP, vm₁, hnamed, -, -, -, -, -, -, -, hW₁, hstep⟩ := Steps.initColdArgs (e := e) X.here S.1.1.1 X.warmed hpm S.1.2.1.1 hy1 hy (hts _ hL) (hts _ hinst) (hts _ hcode) (f := F0 m pc ls (.ref b :: st)) rfl (a := b) (argsL := []) (rest := st) hlen rfl hdc
    exact z_after (as := [.ref b]) hd hh hdp hmx hcd hpl hst hM kr kx S hl (X.noted hW₁) hnamed hstep
  · obtain ⟨mk, methM, cM, kP, vm₁, hnamed, -, -, -, -, -, -, -, hW₁, hstep⟩ := Steps.initColdArgsNest (e := e) X.here S.1.1.1 X.warmed hpm S.1.2.1.1 hy1 hy (hts _ hL) (hts _ hinst) (hts _ hcode) (f := F0 m pc ls (.ref b :: st)) rfl (a := b) (argsL := []) (rest := st) hlen rfl hdc
    exact z_after (as := [.ref b]) hd hh hdp hmx hcd hpl hst hM kr kx S hl (X.noted hW₁) hnamed hstep
theorem z_callV0 {b ci N idx : Nat} {T : u_T} {fs : List Value} (hd : decode mt.2.1 pc = .ok (.invokevirtual idx, 3)) (hh : mt.2.2.2.2 = []) (hdp : dY + 1 ≤ d) (Y : z_Yv G mt.1.cls idx mtY 0) (hb : h.2.2 b = some (.inr (ci, fs))) (hcl : G.cl[ci]? = some (mtY.1.cls, T, N)) (hst : (st.map fun v => v.category).sum ≤ 8) (hM : z_C G mtY dY [.ref b] h QY)
    (kr : ∀ v h', QY (.inl v) h' → z_V G mt d (pc + 3) lo (v.toList ++ st) h' Q) (kx : ∀ X h', QY (.inr X) h' → Q (.inr X) h') : z_V G mt d pc lo (.ref b :: st) h Q :=
  z_callV (as := []) hd hh hdp Y rfl hb hcl hst hM kr kx
theorem z_callV1 {x1 : Value} {b ci N idx : Nat} {T : u_T} {fs : List Value} (hd : decode mt.2.1 pc = .ok (.invokevirtual idx, 3)) (hh : mt.2.2.2.2 = []) (hdp : dY + 1 ≤ d) (Y : z_Yv G mt.1.cls idx mtY 1) (hb : h.2.2 b = some (.inr (ci, fs))) (hcl : G.cl[ci]? = some (mtY.1.cls, T, N)) (hst : (st.map fun v => v.category).sum ≤ 8) (hM : z_C G mtY dY [.ref b, x1] h QY)
    (kr : ∀ v h', QY (.inl v) h' → z_V G mt d (pc + 3) lo (v.toList ++ st) h' Q) (kx : ∀ X h', QY (.inr X) h' → Q (.inr X) h') : z_V G mt d pc lo (x1 :: .ref b :: st) h Q :=
  z_callV (as := [x1]) hd hh hdp Y rfl hb hcl hst hM kr kx
theorem z_callV2 {x1 x2 : Value} {b ci N idx : Nat} {T : u_T} {fs : List Value} (hd : decode mt.2.1 pc = .ok (.invokevirtual idx, 3)) (hh : mt.2.2.2.2 = []) (hdp : dY + 1 ≤ d) (Y : z_Yv G mt.1.cls idx mtY 2) (hb : h.2.2 b = some (.inr (ci, fs))) (hcl : G.cl[ci]? = some (mtY.1.cls, T, N)) (hst : (st.map fun v => v.category).sum ≤ 8) (hM : z_C G mtY dY [.ref b, x1, x2] h QY)
    (kr : ∀ v h', QY (.inl v) h' → z_V G mt d (pc + 3) lo (v.toList ++ st) h' Q) (kx : ∀ X h', QY (.inr X) h' → Q (.inr X) h') : z_V G mt d pc lo (x2 :: x1 :: .ref b :: st) h Q :=
  z_callV (as := [x1, x2]) hd hh hdp Y rfl hb hcl hst hM kr kx
theorem z_callV3 {x1 x2 x3 : Value} {b ci N idx : Nat} {T : u_T} {fs : List Value} (hd : decode mt.2.1 pc = .ok (.invokevirtual idx, 3)) (hh : mt.2.2.2.2 = []) (hdp : dY + 1 ≤ d) (Y : z_Yv G mt.1.cls idx mtY 3) (hb : h.2.2 b = some (.inr (ci, fs))) (hcl : G.cl[ci]? = some (mtY.1.cls, T, N)) (hst : (st.map fun v => v.category).sum ≤ 8) (hM : z_C G mtY dY [.ref b, x1, x2, x3] h QY)
    (kr : ∀ v h', QY (.inl v) h' → z_V G mt d (pc + 3) lo (v.toList ++ st) h' Q) (kx : ∀ X h', QY (.inr X) h' → Q (.inr X) h') : z_V G mt d pc lo (x3 :: x2 :: x1 :: .ref b :: st) h Q :=
  z_callV (as := [x1, x2, x3]) hd hh hdp Y rfl hb hcl hst hM kr kx
theorem z_callV4 {x1 x2 x3 x4 : Value} {b ci N idx : Nat} {T : u_T} {fs : List Value} (hd : decode mt.2.1 pc = .ok (.invokevirtual idx, 3)) (hh : mt.2.2.2.2 = []) (hdp : dY + 1 ≤ d) (Y : z_Yv G mt.1.cls idx mtY 4) (hb : h.2.2 b = some (.inr (ci, fs))) (hcl : G.cl[ci]? = some (mtY.1.cls, T, N)) (hst : (st.map fun v => v.category).sum ≤ 8) (hM : z_C G mtY dY [.ref b, x1, x2, x3, x4] h QY)
    (kr : ∀ v h', QY (.inl v) h' → z_V G mt d (pc + 3) lo (v.toList ++ st) h' Q) (kx : ∀ X h', QY (.inr X) h' → Q (.inr X) h') : z_V G mt d pc lo (x4 :: x3 :: x2 :: x1 :: .ref b :: st) h Q :=
  z_callV (as := [x1, x2, x3, x4]) hd hh hdp Y rfl hb hcl hst hM kr kx
theorem z_callV5 {x1 x2 x3 x4 x5 : Value} {b ci N idx : Nat} {T : u_T} {fs : List Value} (hd : decode mt.2.1 pc = .ok (.invokevirtual idx, 3)) (hh : mt.2.2.2.2 = []) (hdp : dY + 1 ≤ d) (Y : z_Yv G mt.1.cls idx mtY 5) (hb : h.2.2 b = some (.inr (ci, fs))) (hcl : G.cl[ci]? = some (mtY.1.cls, T, N)) (hst : (st.map fun v => v.category).sum ≤ 8) (hM : z_C G mtY dY [.ref b, x1, x2, x3, x4, x5] h QY)
    (kr : ∀ v h', QY (.inl v) h' → z_V G mt d (pc + 3) lo (v.toList ++ st) h' Q) (kx : ∀ X h', QY (.inr X) h' → Q (.inr X) h') : z_V G mt d pc lo (x5 :: x4 :: x3 :: x2 :: x1 :: .ref b :: st) h Q :=
  z_callV (as := [x1, x2, x3, x4, x5]) hd hh hdp Y rfl hb hcl hst hM kr kx
theorem z_callS1 {x1 : Value} {idx : Nat} (hd : decode mt.2.1 pc = .ok (.invokestatic idx, 3)) (hh : mt.2.2.2.2 = []) (hdp : dY + 1 ≤ d) (Y : z_Ys G mt.1.cls idx mtY 1) (hst : (st.map fun v => v.category).sum ≤ 8) (hM : z_C G mtY dY [x1] h QY)
    (kr : ∀ v h', QY (.inl v) h' → z_V G mt d (pc + 3) lo (v.toList ++ st) h' Q) (kx : ∀ X h', QY (.inr X) h' → Q (.inr X) h') : z_V G mt d pc lo (x1 :: st) h Q :=
  z_callS (as := [x1]) hd hh hdp Y rfl hst hM kr kx
theorem z_callS2 {x1 x2 : Value} {idx : Nat} (hd : decode mt.2.1 pc = .ok (.invokestatic idx, 3)) (hh : mt.2.2.2.2 = []) (hdp : dY + 1 ≤ d) (Y : z_Ys G mt.1.cls idx mtY 2) (hst : (st.map fun v => v.category).sum ≤ 8) (hM : z_C G mtY dY [x1, x2] h QY)
    (kr : ∀ v h', QY (.inl v) h' → z_V G mt d (pc + 3) lo (v.toList ++ st) h' Q) (kx : ∀ X h', QY (.inr X) h' → Q (.inr X) h') : z_V G mt d pc lo (x2 :: x1 :: st) h Q :=
  z_callS (as := [x1, x2]) hd hh hdp Y rfl hst hM kr kx
theorem z_callS3 {x1 x2 x3 : Value} {idx : Nat} (hd : decode mt.2.1 pc = .ok (.invokestatic idx, 3)) (hh : mt.2.2.2.2 = []) (hdp : dY + 1 ≤ d) (Y : z_Ys G mt.1.cls idx mtY 3) (hst : (st.map fun v => v.category).sum ≤ 8) (hM : z_C G mtY dY [x1, x2, x3] h QY)
    (kr : ∀ v h', QY (.inl v) h' → z_V G mt d (pc + 3) lo (v.toList ++ st) h' Q) (kx : ∀ X h', QY (.inr X) h' → Q (.inr X) h') : z_V G mt d pc lo (x3 :: x2 :: x1 :: st) h Q :=
  z_callS (as := [x1, x2, x3]) hd hh hdp Y rfl hst hM kr kx
theorem z_callS4 {x1 x2 x3 x4 : Value} {idx : Nat} (hd : decode mt.2.1 pc = .ok (.invokestatic idx, 3)) (hh : mt.2.2.2.2 = []) (hdp : dY + 1 ≤ d) (Y : z_Ys G mt.1.cls idx mtY 4) (hst : (st.map fun v => v.category).sum ≤ 8) (hM : z_C G mtY dY [x1, x2, x3, x4] h QY)
    (kr : ∀ v h', QY (.inl v) h' → z_V G mt d (pc + 3) lo (v.toList ++ st) h' Q) (kx : ∀ X h', QY (.inr X) h' → Q (.inr X) h') : z_V G mt d pc lo (x4 :: x3 :: x2 :: x1 :: st) h Q :=
  z_callS (as := [x1, x2, x3, x4]) hd hh hdp Y rfl hst hM kr kx
/-- it answers v and leaves the picture h1; it throws X and leaves a picture that P allows -/
def z_rq (v : Option Value) (h1 : z_H) : z_R → z_H → Prop := fun r h' => r = .inl v ∧ h' = h1
def z_xq (X : String) (P : z_H → Prop) : z_R → z_H → Prop := fun r h' => r = .inr X ∧ P h'
theorem z_callV0v {b ci N idx : Nat} {T : u_T} {fs : List Value} (hd : decode mt.2.1 pc = .ok (.invokevirtual idx, 3)) (hh : mt.2.2.2.2 = []) (hdp : dY + 1 ≤ d) (Y : z_Yv G mt.1.cls idx mtY 0) (hb : h.2.2 b = some (.inr (ci, fs))) (hcl : G.cl[ci]? = some (mtY.1.cls, T, N)) (hst : (st.map fun v => v.category).sum ≤ 8) {h1 : z_H} (hM : z_C G mtY dY [.ref b] h (z_rq none h1)) (kk : z_V G mt d (pc + 3) lo st h1 Q) : z_V G mt d pc lo (.ref b :: st) h Q :=
  z_callV (as := []) hd hh hdp Y rfl hb hcl hst hM (fun v h' q => by obtain ⟨q1, rfl⟩ := q; cases q1; exact kk) (fun X h' q => by obtain ⟨q1, -⟩ := q; cases q1)
theorem z_callV0r {b ci N idx : Nat} {T : u_T} {fs : List Value} (hd : decode mt.2.1 pc = .ok (.invokevirtual idx, 3)) (hh : mt.2.2.2.2 = []) (hdp : dY + 1 ≤ d) (Y : z_Yv G mt.1.cls idx mtY 0) (hb : h.2.2 b = some (.inr (ci, fs))) (hcl : G.cl[ci]? = some (mtY.1.cls, T, N)) (hst : (st.map fun v => v.category).sum ≤ 8) {x : Value} {h1 : z_H} (hM : z_C G mtY dY [.ref b] h (z_rq (some x) h1)) (kk : z_V G mt d (pc + 3) lo (x :: st) h1 Q) : z_V G mt d pc lo (.ref b :: st) h Q :=
  z_callV (as := []) hd hh hdp Y rfl hb hcl hst hM (fun v h' q => by obtain ⟨q1, rfl⟩ := q; cases q1; exact kk) (fun X h' q => by obtain ⟨q1, -⟩ := q; cases q1)
theorem z_callV0x {b ci N idx : Nat} {T : u_T} {fs : List Value} (hd : decode mt.2.1 pc = .ok (.invokevirtual idx, 3)) (hh : mt.2.2.2.2 = []) (hdp : dY + 1 ≤ d) (Y : z_Yv G mt.1.cls idx mtY 0) (hb : h.2.2 b = some (.inr (ci, fs))) (hcl : G.cl[ci]? = some (mtY.1.cls, T, N)) (hst : (st.map fun v => v.category).sum ≤ 8) {Xn : String} {P : z_H → Prop} (hM : z_C G mtY dY [.ref b] h (z_xq Xn P)) (kk : ∀ h', P h' → Q (.inr Xn) h') : z_V G mt d pc lo (.ref b :: st) h Q :=
  z_callV (as := []) hd hh hdp Y rfl hb hcl hst hM (fun v h' q => by obtain ⟨q1, -⟩ := q; cases q1) (fun X h' q => by obtain ⟨q1, q2⟩ := q; cases q1; exact kk h' q2)
theorem z_callV1v {x1 : Value} {b ci N idx : Nat} {T : u_T} {fs : List Value} (hd : decode mt.2.1 pc = .ok (.invokevirtual idx, 3)) (hh : mt.2.2.2.2 = []) (hdp : dY + 1 ≤ d) (Y : z_Yv G mt.1.cls idx mtY 1) (hb : h.2.2 b = some (.inr (ci, fs))) (hcl : G.cl[ci]? = some (mtY.1.cls, T, N)) (hst : (st.map fun v => v.category).sum ≤ 8) {h1 : z_H} (hM : z_C G mtY dY [.ref b, x1] h (z_rq none h1)) (kk : z_V G mt d (pc + 3) lo st h1 Q) : z_V G mt d pc lo (x1 :: .ref b :: st) h Q :=
  z_callV (as := [x1]) hd hh hdp Y rfl hb hcl hst hM (fun v h' q => by obtain ⟨q1, rfl⟩ := q; cases q1; exact kk) (fun X h' q => by obtain ⟨q1, -⟩ := q; cases q1)
theorem z_callV1r {x1 : Value} {b ci N idx : Nat} {T : u_T} {fs : List Value} (hd : decode mt.2.1 pc = .ok (.invokevirtual idx, 3)) (hh : mt.2.2.2.2 = []) (hdp : dY + 1 ≤ d) (Y : z_Yv G mt.1.cls idx mtY 1) (hb : h.2.2 b = some (.inr (ci, fs))) (hcl : G.cl[ci]? = some (mtY.1.cls, T, N)) (hst : (st.map fun v => v.category).sum ≤ 8) {x : Value} {h1 : z_H} (hM : z_C G mtY dY [.ref b, x1] h (z_rq (some x) h1)) (kk : z_V G mt d (pc + 3) lo (x :: st) h1 Q) : z_V G mt d pc lo (x1 :: .ref b :: st) h Q :=
  z_callV (as := [x1]) hd hh hdp Y rfl hb hcl hst hM (fun v h' q => by obtain ⟨q1, rfl⟩ := q; cases q1; exact kk) (fun X h' q => by obtain ⟨q1, -⟩ := q; cases q1)
theorem z_callV1x {x1 : Value} {b ci N idx : Nat} {T : u_T} {fs : List Value} (hd : decode mt.2.1 pc = .ok (.invokevirtual idx, 3)) (hh : mt.2.2.2.2 = []) (hdp : dY + 1 ≤ d) (Y : z_Yv G mt.1.cls idx mtY 1) (hb : h.2.2 b = some (.inr (ci, fs))) (hcl : G.cl[ci]? = some (mtY.1.cls, T, N)) (hst : (st.map fun v => v.category).sum ≤ 8) {Xn : String} {P : z_H → Prop} (hM : z_C G mtY dY [.ref b, x1] h (z_xq Xn P)) (kk : ∀ h', P h' → Q (.inr Xn) h') : z_V G mt d pc lo (x1 :: .ref b :: st) h Q :=
  z_callV (as := [x1]) hd hh hdp Y rfl hb hcl hst hM (fun v h' q => by obtain ⟨q1, -⟩ := q; cases q1) (fun X h' q => by obtain ⟨q1, q2⟩ := q; cases q1; exact kk h' q2)
theorem z_callV2v {x1 x2 : Value} {b ci N idx : Nat} {T : u_T} {fs : List Value} (hd : decode mt.2.1 pc = .ok (.invokevirtual idx, 3)) (hh : mt.2.2.2.2 = []) (hdp : dY + 1 ≤ d) (Y : z_Yv G mt.1.cls idx mtY 2) (hb : h.2.2 b = some (.inr (ci, fs))) (hcl : G.cl[ci]? = some (mtY.1.cls, T, N)) (hst : (st.map fun v => v.category).sum ≤ 8) {h1 : z_H} (hM : z_C G mtY dY [.ref b, x1, x2] h (z_rq none h1)) (kk : z_V G mt d (pc + 3) lo st h1 Q) : z_V G mt d pc lo (x2 :: x1 :: .ref b :: st) h Q :=
  z_callV (as := [x1, x2]) hd hh hdp Y rfl hb hcl hst hM (fun v h' q => by obtain ⟨q1, rfl⟩ := q; cases q1; exact kk) (fun X h' q => by obtain ⟨q1, -⟩ := q; cases q1)
theorem z_callV2r {x1 x2 : Value} {b ci N idx : Nat} {T : u_T} {fs : List Value} (hd : decode mt.2.1 pc = .ok (.invokevirtual idx, 3)) (hh : mt.2.2.2.2 = []) (hdp : dY + 1 ≤ d) (Y : z_Yv G mt.1.cls idx mtY 2) (hb : h.2.2 b = some (.inr (ci, fs))) (hcl : G.cl[ci]? = some (mtY.1.cls, T, N)) (hst : (st.map fun v => v.category).sum ≤ 8) {x : Value} {h1 : z_H} (hM : z_C G mtY dY [.ref b, x1, x2] h (z_rq (some x) h1)) (kk : z_V G mt d (pc + 3) lo (x :: st) h1 Q) : z_V G mt d pc lo (x2 :: x1 :: .ref b :: st) h Q :=
  z_callV (as := [x1, x2]) hd hh hdp Y rfl hb hcl hst hM (fun v h' q => by obtain ⟨q1, rfl⟩ := q; cases q1; exact kk) (fun X h' q => by obtain ⟨q1, -⟩ := q; cases q1)
theorem z_callV2x {x1 x2 : Value} {b ci N idx : Nat} {T : u_T} {fs : List Value} (hd : decode mt.2.1 pc = .ok (.invokevirtual idx, 3)) (hh : mt.2.2.2.2 = []) (hdp : dY + 1 ≤ d) (Y : z_Yv G mt.1.cls idx mtY 2) (hb : h.2.2 b = some (.inr (ci, fs))) (hcl : G.cl[ci]? = some (mtY.1.cls, T, N)) (hst : (st.map fun v => v.category).sum ≤ 8) {Xn : String} {P : z_H → Prop} (hM : z_C G mtY dY [.ref b, x1, x2] h (z_xq Xn P)) (kk : ∀ h', P h' → Q (.inr Xn) h') : z_V G mt d pc lo (x2 :: x1 :: .ref b :: st) h Q :=
  z_callV (as := [x1, x2]) hd hh hdp Y rfl hb hcl hst hM (fun v h' q => by obtain ⟨q1, -⟩ := q; cases q1) (fun X h' q => by obtain ⟨q1, q2⟩ := q; cases q1; exact kk h' q2)
theorem z_callV3v {x1 x2 x3 : Value} {b ci N idx : Nat} {T : u_T} {fs : List Value} (hd : decode mt.2.1 pc = .ok (.invokevirtual idx, 3)) (hh : mt.2.2.2.2 = []) (hdp : dY + 1 ≤ d) (Y : z_Yv G mt.1.cls idx mtY 3) (hb : h.2.2 b = some (.inr (ci, fs))) (hcl : G.cl[ci]? = some (mtY.1.cls, T, N)) (hst : (st.map fun v => v.category).sum ≤ 8) {h1 : z_H} (hM : z_C G mtY dY [.ref b, x1, x2, x3] h (z_rq none h1)) (kk : z_V G mt d (pc + 3) lo st h1 Q) : z_V G mt d pc lo (x3 :: x2 :: x1 :: .ref b :: st) h Q :=
  z_callV (as := [x1, x2, x3]) hd hh hdp Y rfl hb hcl hst hM (fun v h' q => by obtain ⟨q1, rfl⟩ := q; cases q1; exact kk) (fun X h' q => by obtain ⟨q1, -⟩ := q; cases q1)
theorem z_callV3r {x1 x2 x3 : Value} {b ci N idx : Nat} {T : u_T} {fs : List Value} (hd : decode mt.2.1 pc = .ok (.invokevirtual idx, 3)) (hh : mt.2.2.2.2 = []) (hdp : dY + 1 ≤ d) (Y : z_Yv G mt.1.cls idx mtY 3) (hb : h.2.2 b = some (.inr (ci, fs))) (hcl : G.cl[ci]? = some (mtY.1.cls, T, N)) (hst : (st.map fun v => v.category).sum ≤ 8) {x : Value} {h1 : z_H} (hM : z_C G mtY dY [.ref b, x1, x2, x3] h (z_rq (some x) h1)) (kk : z_V G mt d (pc + 3) lo (x :: st) h1 Q) : z_V G mt d pc lo (x3 :: x2 :: x1 :: .ref b :: st) h Q :=
  z_callV (as := [x1, x2, x3]) hd hh hdp Y rfl hb hcl hst hM (fun v h' q => by obtain ⟨q1, rfl⟩ := q; cases q1; exact kk) (fun X h' q => by obtain ⟨q1, -⟩ := q; cases q1)
theorem z_callV3x {x1 x2 x3 : Value} {b ci N idx : Nat} {T : u_T} {fs : List Value} (hd : decode mt.2.1 pc = .ok (.invokevirtual idx, 3)) (hh : mt.2.2.2.2 = []) (hdp : dY + 1 ≤ d) (Y : z_Yv G mt.1.cls idx mtY 3) (hb : h.2.2 b = some (.inr (ci, fs))) (hcl : G.cl[ci]? = some (mtY.1.cls, T, N)) (hst : (st.map fun v => v.category).sum ≤ 8) {Xn : String} {P : z_H → Prop} (hM : z_C G mtY dY [.ref b, x1, x2, x3] h (z_xq Xn P)) (kk : ∀ h', P h' → Q (.inr Xn) h') : z_V G mt d pc lo (x3 :: x2 :: x1 :: .ref b :: st) h Q :=
  z_callV (as := [x1, x2, x3]) hd hh hdp Y rfl hb hcl hst hM (fun v h' q => by obtain ⟨q1, -⟩ := q; cases q1) (fun X h' q => by obtain ⟨q1, q2⟩ := q; cases q1; exact kk h' q2)
theorem z_callV4v {x1 x2 x3 x4 : Value} {b ci N idx : Nat} {T : u_T} {fs : List Value} (hd : decode mt.2.1 pc = .ok (.invokevirtual idx, 3)) (hh : mt.2.2.2.2 = []) (hdp : dY + 1 ≤ d) (Y : z_Yv G mt.1.cls idx mtY 4) (hb : h.2.2 b = some (.inr (ci, fs))) (hcl : G.cl[ci]? = some (mtY.1.cls, T, N)) (hst : (st.map fun v => v.category).sum ≤ 8) {h1 : z_H} (hM : z_C G mtY dY [.ref b, x1, x2, x3, x4] h (z_rq none h1)) (kk : z_V G mt d (pc + 3) lo st h1 Q) : z_V G mt d pc lo (x4 :: x3 :: x2 :: x1 :: .ref b :: st) h Q :=
  z_callV (as := [x1, x2, x3, x4]) hd hh hdp Y rfl hb hcl hst hM (fun v h' q => by obtain ⟨q1, rfl⟩ := q; cases q1; exact kk) (fun X h' q => by obtain ⟨q1, -⟩ := q; cases q1)
theorem z_callV4r {x1 x2 x3 x4 : Value} {b ci N idx : Nat} {T : u_T} {fs : List Value} (hd : decode mt.2.1 pc = .ok (.invokevirtual idx, 3)) (hh : mt.2.2.2.2 = []) (hdp : dY + 1 ≤ d) (Y : z_Yv G mt.1.cls idx mtY 4) (hb : h.2.2 b = some (.inr (ci, fs))) (hcl : G.cl[ci]? = some (mtY.1.cls, T, N)) (hst : (st.map fun v => v.category).sum ≤ 8) {x : Value} {h1 : z_H} (hM : z_C G mtY dY [.ref b, x1, x2, x3, x4] h (z_rq (some x) h1)) (kk : z_V G mt d (pc + 3) lo (x :: st) h1 Q) : z_V G mt d pc lo (x4 :: x3 :: x2 :: x1 :: .ref b :: st) h Q :=
  z_callV (as := [x1, x2, x3, x4]) hd hh hdp Y rfl hb hcl hst hM (fun v h' q => by obtain ⟨q1, rfl⟩ := q; cases q1; exact kk) (fun X h' q => by obtain ⟨q1, -⟩ := q; cases q1)
theorem z_callV4x {x1 x2 x3 x4 : Value} {b ci N idx : Nat} {T : u_T} {fs : List Value} (hd : decode mt.2.1 pc = .ok (.invokevirtual idx, 3)) (hh : mt.2.2.2.2 = []) (hdp : dY + 1 ≤ d) (Y : z_Yv G mt.1.cls idx mtY 4) (hb : h.2.2 b = some (.inr (ci, fs))) (hcl : G.cl[ci]? = some (mtY.1.cls, T, N)) (hst : (st.map fun v => v.category).sum ≤ 8) {Xn : String} {P : z_H → Prop} (hM : z_C G mtY dY [.ref b, x1, x2, x3, x4] h (z_xq Xn P)) (kk : ∀ h', P h' → Q (.inr Xn) h') : z_V G mt d pc lo (x4 :: x3 :: x2 :: x1 :: .ref b :: st) h Q :=
  z_callV (as := [x1, x2, x3, x4]) hd hh hdp Y rfl hb hcl hst hM (fun v h' q => by obtain ⟨q1, -⟩ := q; cases q1) (fun X h' q => by obtain ⟨q1, q2⟩ := q; cases q1; exact kk h' q2)
theorem z_callV5v {x1 x2 x3 x4 x5 : Value} {b ci N idx : Nat} {T : u_T} {fs : List Value} (hd : decode mt.2.1 pc = .ok (.invokevirtual idx, 3)) (hh : mt.2.2.2.2 = []) (hdp : dY + 1 ≤ d) (Y : z_Yv G mt.1.cls idx mtY 5) (hb : h.2.2 b = some (.inr (ci, fs))) (hcl : G.cl[ci]? = some (mtY.1.cls, T, N)) (hst : (st.map fun v => v.category).sum ≤ 8) {h1 : z_H} (hM : z_C G mtY dY [.ref b, x1, x2, x3, x4, x5] h (z_rq none h1)) (kk : z_V G mt d (pc + 3) lo st h1 Q) : z_V G mt d pc lo (x5 :: x4 :: x3 :: x2 :: x1 :: .ref b :: st) h Q :=
  z_callV (as := [x1, x2, x3, x4, x5]) hd hh hdp Y rfl hb hcl hst hM (fun v h' q => by obtain ⟨q1, rfl⟩ := q; cases q1; exact kk) (fun X h' q => by obtain ⟨q1, -⟩ := q; cases q1)
theorem z_callV5r {x1 x2 x3 x4 x5 : Value} {b ci N idx : Nat} {T : u_T} {fs : List Value} (hd : decode mt.2.1 pc = .ok (.invokevirtual idx, 3)) (hh : mt.2.2.2.2 = []) (hdp : dY + 1 ≤ d) (Y : z_Yv G mt.1.cls idx mtY 5) (hb : h.2.2 b = some (.inr (ci, fs))) (hcl : G.cl[ci]? = some (mtY.1.cls, T, N)) (hst : (st.map fun v => v.category).sum ≤ 8) {x : Value} {h1 : z_H} (hM : z_C G mtY dY [.ref b, x1, x2, x3, x4, x5] h (z_rq (some x) h1)) (kk : z_V G mt d (pc + 3) lo (x :: st) h1 Q) : z_V G mt d pc lo (x5 :: x4 :: x3 :: x2 :: x1 :: .ref b :: st) h Q :=
  z_callV (as := [x1, x2, x3, x4, x5]) hd hh hdp Y rfl hb hcl hst hM (fun v h' q => by obtain ⟨q1, rfl⟩ := q; cases q1; exact kk) (fun X h' q => by obtain ⟨q1, -⟩ := q; cases q1)
theorem z_callV5x {x1 x2 x3 x4 x5 : Value} {b ci N idx : Nat} {T : u_T} {fs : List Value} (hd : decode mt.2.1 pc = .ok (.invokevirtual idx, 3)) (hh : mt.2.2.2.2 = []) (hdp : dY + 1 ≤ d) (Y : z_Yv G mt.1.cls idx mtY 5) (hb : h.2.2 b = some (.inr (ci, fs))) (hcl : G.cl[ci]? = some (mtY.1.cls, T, N)) (hst : (st.map fun v => v.category).sum ≤ 8) {Xn : String} {P : z_H → Prop} (hM : z_C G mtY dY [.ref b, x1, x2, x3, x4, x5] h (z_xq Xn P)) (kk : ∀ h', P h' → Q (.inr Xn) h') : z_V G mt d pc lo (x5 :: x4 :: x3 :: x2 :: x1 :: .ref b :: st) h Q :=
  z_callV (as := [x1, x2, x3, x4, x5]) hd hh hdp Y rfl hb hcl hst hM (fun v h' q => by obtain ⟨q1, -⟩ := q; cases q1) (fun X h' q => by obtain ⟨q1, q2⟩ := q; cases q1; exact kk h' q2)
theorem z_callS1v {x1 : Value} {idx : Nat} (hd : decode mt.2.1 pc = .ok (.invokestatic idx, 3)) (hh : mt.2.2.2.2 = []) (hdp : dY + 1 ≤ d) (Y : z_Ys G mt.1.cls idx mtY 1) (hst : (st.map fun v => v.category).sum ≤ 8) {h1 : z_H} (hM : z_C G mtY dY [x1] h (z_rq none h1)) (kk : z_V G mt d (pc + 3) lo st h1 Q) : z_V G mt d pc lo (x1 :: st) h Q :=
  z_callS (as := [x1]) hd hh hdp Y rfl hst hM (fun v h' q => by obtain ⟨q1, rfl⟩ := q; cases q1; exact kk) (fun X h' q => by obtain ⟨q1, -⟩ := q; cases q1)
theorem z_callS1r {x1 : Value} {idx : Nat} (hd : decode mt.2.1 pc = .ok (.invokestatic idx, 3)) (hh : mt.2.2.2.2 = []) (hdp : dY + 1 ≤ d) (Y : z_Ys G mt.1.cls idx mtY 1) (hst : (st.map fun v => v.category).sum ≤ 8) {x : Value} {h1 : z_H} (hM : z_C G mtY dY [x1] h (z_rq (some x) h1)) (kk : z_V G mt d (pc + 3) lo (x :: st) h1 Q) : z_V G mt d pc lo (x1 :: st) h Q :=
  z_callS (as := [x1]) hd hh hdp Y rfl hst hM (fun v h' q => by obtain ⟨q1, rfl⟩ := q; cases q1; exact kk) (fun X h' q => by obtain ⟨q1, -⟩ := q; cases q1)
theorem z_callS1x {x1 : Value} {idx : Nat} (hd : decode mt.2.1 pc = .ok (.invokestatic idx, 3)) (hh : mt.2.2.2.2 = []) (hdp : dY + 1 ≤ d) (Y : z_Ys G mt.1.cls idx mtY 1) (hst : (st.map fun v => v.category).sum ≤ 8) {Xn : String} {P : z_H → Prop} (hM : z_C G mtY dY [x1] h (z_xq Xn P)) (kk : ∀ h', P h' → Q (.inr Xn) h') : z_V G mt d pc lo (x1 :: st) h Q :=
  z_callS (as := [x1]) hd hh hdp Y rfl hst hM (fun v h' q => by obtain ⟨q1, -⟩ := q; cases q1) (fun X h' q => by obtain ⟨q1, q2⟩ := q; cases q1; exact kk h' q2)
theorem z_callS2v {x1 x2 : Value} {idx : Nat} (hd : decode mt.2.1 pc = .ok (.invokestatic idx, 3)) (hh : mt.2.2.2.2 = []) (hdp : dY + 1 ≤ d) (Y : z_Ys G mt.1.cls idx mtY 2) (hst : (st.map fun v => v.category).sum ≤ 8) {h1 : z_H} (hM : z_C G mtY dY [x1, x2] h (z_rq none h1)) (kk : z_V G mt d (pc + 3) lo st h1 Q) : z_V G mt d pc lo (x2 :: x1 :: st) h Q :=
  z_callS (as := [x1, x2]) hd hh hdp Y rfl hst hM (fun v h' q => by obtain ⟨q1, rfl⟩ := q; cases q1; exact kk) (fun X h' q => by obtain ⟨q1, -⟩ := q; cases q1)
theorem z_callS2r {x1 x2 : Value} {idx : Nat} (hd : decode mt.2.1 pc = .ok (.invokestatic idx, 3)) (hh : mt.2.2.2.2 = []) (hdp : dY + 1 ≤ d) (Y : z_Ys G mt.1.cls idx mtY 2) (hst : (st.map fun v => v.category).sum ≤ 8) {x : Value} {h1 : z_H} (hM : z_C G mtY dY [x1, x2] h (z_rq (some x) h1)) (kk : z_V G mt d (pc + 3) lo (x :: st) h1 Q) : z_V G mt d pc lo (x2 :: x1 :: st) h Q :=
  z_callS (as := [x1, x2]) hd hh hdp Y rfl hst hM (fun v h' q => by obtain ⟨q1, rfl⟩ := q; cases q1; exact kk) (fun X h' q => by obtain ⟨q1, -⟩ := q; cases q1)
theorem z_callS2x {x1 x2 : Value} {idx : Nat} (hd : decode mt.2.1 pc = .ok (.invokestatic idx, 3)) (hh : mt.2.2.2.2 = []) (hdp : dY + 1 ≤ d) (Y : z_Ys G mt.1.cls idx mtY 2) (hst : (st.map fun v => v.category).sum ≤ 8) {Xn : String} {P : z_H → Prop} (hM : z_C G mtY dY [x1, x2] h (z_xq Xn P)) (kk : ∀ h', P h' → Q (.inr Xn) h') : z_V G mt d pc lo (x2 :: x1 :: st) h Q :=
  z_callS (as := [x1, x2]) hd hh hdp Y rfl hst hM (fun v h' q => by obtain ⟨q1, -⟩ := q; cases q1) (fun X h' q => by obtain ⟨q1, q2⟩ := q; cases q1; exact kk h' q2)
theorem z_callS3v {x1 x2 x3 : Value} {idx : Nat} (hd : decode mt.2.1 pc = .ok (.invokestatic idx, 3)) (hh : mt.2.2.2.2 = []) (hdp : dY + 1 ≤ d) (Y : z_Ys G mt.1.cls idx mtY 3) (hst : (st.map fun v => v.category).sum ≤ 8) {h1 : z_H} (hM : z_C G mtY dY [x1, x2, x3] h (z_rq none h1)) (kk : z_V G mt d (pc + 3) lo st h1 Q) : z_V G mt d pc lo (x3 :: x2 :: x1 :: st) h Q :=
  z_callS (as := [x1, x2, x3]) hd hh hdp Y rfl hst hM (fun v h' q => by obtain ⟨q1, rfl⟩ := q; cases q1; exact kk) (fun X h' q => by obtain ⟨q1, -⟩ := q; cases q1)
theorem z_callS3r {x1 x2 x3 : Value} {idx : Nat} (hd : decode mt.2.1 pc = .ok (.invokestatic idx, 3)) (hh : mt.2.2.2.2 = []) (hdp : dY + 1 ≤ d) (Y : z_Ys G mt.1.cls idx mtY 3) (hst : (st.map fun v => v.category).sum ≤ 8) {x : Value} {h1 : z_H} (hM : z_C G mtY dY [x1, x2, x3] h (z_rq (some x) h1)) (kk : z_V G mt d (pc + 3) lo (x :: st) h1 Q) : z_V G mt d pc lo (x3 :: x2 :: x1 :: st) h Q :=
  z_callS (as := [x1, x2, x3]) hd hh hdp Y rfl hst hM (fun v h' q => by obtain ⟨q1, rfl⟩ := q; cases q1; exact kk) (fun X h' q => by obtain ⟨q1, -⟩ := q; cases q1)
theorem z_callS3x {x1 x2 x3 : Value} {idx : Nat} (hd : decode mt.2.1 pc = .ok (.invokestatic idx, 3)) (hh : mt.2.2.2.2 = []) (hdp : dY + 1 ≤ d) (Y : z_Ys G mt.1.cls idx mtY 3) (hst : (st.map fun v => v.category).sum ≤ 8) {Xn : String} {P : z_H → Prop} (hM : z_C G mtY dY [x1, x2, x3] h (z_xq Xn P)) (kk : ∀ h', P h' → Q (.inr Xn) h') : z_V G mt d pc lo (x3 :: x2 :: x1 :: st) h Q :=
  z_callS (as := [x1, x2, x3]) hd hh hdp Y rfl hst hM (fun v h' q => by obtain ⟨q1, -⟩ := q; cases q1) (fun X h' q => by obtain ⟨q1, q2⟩ := q; cases q1; exact kk h' q2)
theorem z_callS4v {x1 x2 x3 x4 : Value} {idx : Nat} (hd : decode mt.2.1 pc = .ok (.invokestatic idx, 3)) (hh : mt.2.2.2.2 = []) (hdp : dY + 1 ≤ d) (Y : z_Ys G mt.1.cls idx mtY 4) (hst : (st.map fun v => v.category).sum ≤ 8) {h1 : z_H} (hM : z_C G mtY dY [x1, x2, x3, x4] h (z_rq none h1)) (kk : z_V G mt d (pc + 3) lo st h1 Q) : z_V G mt d pc lo (x4 :: x3 :: x2 :: x1 :: st) h Q :=
  z_callS (as := [x1, x2, x3, x4]) hd hh hdp Y rfl hst hM (fun v h' q => by obtain ⟨q1, rfl⟩ := q; cases q1; exact kk) (fun X h' q => by obtain ⟨q1, -⟩ := q; cases q1)
theorem z_callS4r {x1 x2 x3 x4 : Value} {idx : Nat} (hd : decode mt.2.1 pc = .ok (.invokestatic idx, 3)) (hh : mt.2.2.2.2 = []) (hdp : dY + 1 ≤ d) (Y : z_Ys G mt.1.cls idx mtY 4) (hst : (st.map fun v => v.category).sum ≤ 8) {x : Value} {h1 : z_H} (hM : z_C G mtY dY [x1, x2, x3, x4] h (z_rq (some x) h1)) (kk : z_V G mt d (pc + 3) lo (x :: st) h1 Q) : z_V G mt d pc lo (x4 :: x3 :: x2 :: x1 :: st) h Q :=
  z_callS (as := [x1, x2, x3, x4]) hd hh hdp Y rfl hst hM (fun v h' q => by obtain ⟨q1, rfl⟩ := q; cases q1; exact kk) (fun X h' q => by obtain ⟨q1, -⟩ := q; cases q1)
theorem z_callS4x {x1 x2 x3 x4 : Value} {idx : Nat} (hd : decode mt.2.1 pc = .ok (.invokestatic idx, 3)) (hh : mt.2.2.2.2 = []) (hdp : dY + 1 ≤ d) (Y : z_Ys G mt.1.cls idx mtY 4) (hst : (st.map fun v => v.category).sum ≤ 8) {Xn : String} {P : z_H → Prop} (hM : z_C G mtY dY [x1, x2, x3, x4] h (z_xq Xn P)) (kk : ∀ h', P h' → Q (.inr Xn) h') : z_V G mt d pc lo (x4 :: x3 :: x2 :: x1 :: st) h Q :=
  z_callS (as := [x1, x2, x3, x4]) hd hh hdp Y rfl hst hM (fun v h' q => by obtain ⟨q1, -⟩ := q; cases q1) (fun X h' q => by obtain ⟨q1, q2⟩ := q; cases q1; exact kk h' q2)
theorem z_callIv {b idx : Nat} (hd : decode mt.2.1 pc = .ok (.invokespecial idx, 3)) (hh : mt.2.2.2.2 = []) (hdp : dY + 1 ≤ d) (Y : z_Yi G mt.1.cls idx mtY) (hst : (st.map fun v => v.category).sum ≤ 8) {h1 : z_H} (hM : z_C G mtY dY [.ref b] h (z_rq none h1)) (kk : z_V G mt d (pc + 3) lo st h1 Q) : z_V G mt d pc lo (.ref b :: st) h Q :=
  z_callI hd hh hdp Y hst hM (fun v h' q => by obtain ⟨q1, rfl⟩ := q; cases q1; exact kk) (fun X h' q => by obtain ⟨q1, -⟩ := q; cases q1)
end ZK
end
section
/-! a new exception is thrown out of the method -/
section ZT
variable {p : Program} {l : Launch} {e : Env} {R : Room} {s : State} {m : MethodId} {args : Array Value} {below : List Frame} {meth : Method} {c : Code} {T : State} {locs : List Loc} {cells slots : Nat}
/-- the walk as if it began here -/
theorem z_rebase (X : Stand p l e R s m args below meth c T locs cells slots) {kc ks : Nat} (hc : cells + kc ≤ R.cells) (hs : slots + ks ≤ R.slots) :
    Stand p l e { frames := R.frames, cells := kc, slots := ks, locals := R.locals } (T.setFrames (.invoking m args :: below)) m args below meth c T [] 0 0 := by
  obtain ⟨g₀, hfr⟩ := X.frames_eq
  have hcur : T.cur < T.threads.size := State.cur_lt_of_frames hfr
  have hF : (T.setFrames (.invoking m args :: below)).frames = .invoking m args :: below := State.frames_setFrames _ hcur
  have hme : ∀ k, T.vm.method? k = s.vm.method? k := fun k => by rw [X.warmed.alike.method?]
  refine ⟨X.admits, X.cas, X.clock, hF, ?_, ?_, X.method', X.code, X.here, X.tail, State.WarmedH.refl (T.setFrames (.invoking m args :: below)), (State.stackLimits_setFrames _ _ _).symm, (State.stackBytes_setFrames _ _).symm, ?_⟩
  · have h0 := X.room
    have h1 := X.heapSize
    have h2 := X.used
    have h3 := X.book
    simp only [State.hasRoom, Bool.and_eq_true, decide_eq_true_eq] at h0 ⊢
    rw [State.localsInUse_invoking X.frames X.method X.code, X.frames] at h0
    rw [State.localsInUse_invoking hF X.method' X.code, hF, State.stackLimits_setFrames, State.stackBytes_setFrames, X.limits, X.bytes]
    obtain ⟨⟨⟨⟨a1, a2⟩, a3⟩, a4⟩, a5⟩ := h0
    refine ⟨⟨⟨⟨a1, a2⟩, ?_⟩, ?_⟩, h3⟩
    · show T.heap.size + kc ≤ _
      omega
    · show T.slotsUsed + ks ≤ _
      omega
  · have h0 := X.hears
    rcases below with _ | ⟨y, r⟩
    · simpa [State.hears, hme] using h0
    · cases y <;> first | rfl | (simpa [State.hears, State.code?_eq, hme] using h0)
  · obtain ⟨th, hth, -⟩ := State.frames_cons hF
    have h1 := (State.sameButNew.refl (T.setFrames (.invoking m args :: below)) hth).setFrames T.frames (State.cur_lt_of_frames hF)
    obtain ⟨th', hth', -⟩ := State.frames_cons hfr
    rw [State.setFrames_setFrames, State.setFrames_self hth'] at h1
    exact h1
theorem z_kept {s' t : State} {k n : Nat} (h : s'.sameButNew t [] k n) {a : Nat} {cell : Cell} (hc : s'.heap[a]? = some cell) : t.heap[a]? = some cell := by
  obtain ⟨c', h1, h2, h3, h4⟩ := h.2.2.2.2.2 a cell hc
  have h5 : c'.slots = cell.slots := by
    apply Array.ext_getElem?
    intro i
    exact h4 i (by simp)
  rw [h5] at h2
  rw [h1, h2]
end ZT
/-- a word that doesn't speak of the heap -/
def z_hp : Cond → Bool
  | .isRef _ => false
  | .laysStatic .. => false
  | _ => true
/-- the words of a new exception with no message, but those of the heap -/
def z_thr (own : String) (ix ic : Nat) (X : String) : List Cond :=
  [.classLink own ix X, .initialized X] ++ (Bundle.ownAtoms0 own ic X ["java/lang/RuntimeException", "java/lang/Exception"]).filter z_hp
section ZU
variable {G : z_G} {mt : z_M} {d pc : Nat} {lo : List (Nat × Value)} {st : List Value} {h : z_H} {Q : z_R → z_H → Prop}
set_option maxHeartbeats 1000000 in
theorem z_throw {ix ic : Nat} {Xn : String} (hd0 : decode mt.2.1 pc = .ok (.new ix, 3)) (hd3 : decode mt.2.1 (pc + 3) = .ok (.dup, 1)) (hd4 : decode mt.2.1 (pc + 4) = .ok (.invokespecial ic, 3)) (hd7 : decode mt.2.1 (pc + 7) = .ok (.athrow, 1)) (hh : mt.2.2.2.2 = [])
    (hfit : Bundle.fit Xn = true) (hws : ∀ w ∈ z_thr mt.1.cls ix ic Xn, w ∈ G.Ts) (hc : h.1 + 1 ≤ G.b0 + G.cc) (hs : h.2.1 + 6 ≤ G.ss) (hst : (st.map fun v => v.category).sum ≤ 8) (hq : Q (.inr Xn) (h.1 + 1, h.2.1 + 6, h.2.2)) : z_V G mt d pc lo st h Q := by
  intro p e s m args below meth c R ss0 H locs ls S hl T hT X
  subst hT
  have hlocks : meth.locks = false := S.1.2.1.2.1
  have hts : ∀ w ∈ G.Ts, w.before args s = true := S.1.2.2.2.1
  have hmv : ∀ w ∈ G.Ts, z_mv w = true := S.1.2.2.2.2.1
  obtain ⟨S1, ⟨r1, r2, r3, r4⟩, ⟨Ra, ⟨ws, hP, hD, hcov⟩, Rz1, Rz2, Rx, Rb⟩, S4, s5a, s5b, s5c, s5d⟩ := id S
  have X' := z_rebase X (kc := 1) (ks := 6) (by omega) (by omega)
  have hal : s.vm.Alike T.vm := X.warmed.alike
  have hW0 : s.WarmedH (T.setFrames (.invoking m args :: below)).vm := X.warmed
  have hw : ∀ w ∈ z_thr mt.1.cls ix ic Xn, w.before args (T.setFrames (.invoking m args :: below)) = true := fun w hm => z_move (hmv w (hws w hm)) hW0 (hts w (hws w hm))
  have hat : ∀ w ∈ Bundle.ownAtoms0 mt.1.cls ic Xn ["java/lang/RuntimeException", "java/lang/Exception"], w.before args (T.setFrames (.invoking m args :: below)) = true := by
    intro w hm
    by_cases hr : z_hp w = true
    · exact hw w (List.mem_append_right _ (List.mem_filter.mpr ⟨hm, hr⟩))
    · have z1 := (Rz1.moved (U := T.setFrames (.invoking m args :: below)) hal)
      have z2 := (Rz2.moved (U := T.setFrames (.invoking m args :: below)) hal)
      simp only [Bundle.ownAtoms0, Bundle.throwableAtoms, Bundle.chain0Atoms, Bundle.passAtoms, List.mem_append, List.mem_cons, List.not_mem_nil, or_false] at hm
      rcases hm with (hm | hm) | hm
      · rcases hm with rfl | rfl | rfl | rfl | rfl | rfl | rfl | rfl | rfl | rfl | rfl | rfl | rfl | rfl | rfl | rfl | rfl | rfl | rfl | rfl | rfl | rfl | rfl | rfl
        all_goals first | exact absurd rfl hr | exact z1.lays args | exact z2.lays args
      · rcases hm with (rfl | rfl | rfl | rfl | rfl) | (rfl | rfl | rfl | rfl | rfl) | (rfl | rfl | rfl | rfl | rfl) <;> exact absurd rfl hr
      · rcases hm with rfl | rfl | rfl | rfl | rfl | rfl | rfl | rfl | rfl | rfl | rfl | rfl | rfl | rfl
        all_goals first | exact absurd rfl hr | exact z1.isRef args | exact z2.isRef args
  have hown : (T.setFrames (.invoking m args :: below)).vm.findClass mt.1.cls = some m.cls := by
    show T.vm.findClass mt.1.cls = some m.cls
    rw [hal.findClass]
    exact S1.2.1.1
  have hins : (Cond.instantiable Xn 6).before args (T.setFrames (.invoking m args :: below)) = true := hat _ (by simp [Bundle.ownAtoms0])
  have hx : p.tables.exec = Jvm.exec := S1.1.1
  have hb : c.code = mt.2.1 := S1.1.2.1
  have htr : e.platform.stackTraces = false := S1.2.2.2.2.2 e X.admits
  have hW : W p G.l e { frames := R.frames, cells := 1, slots := 6, locals := R.locals } (T.setFrames (.invoking m args :: below)) m args below meth c T.heap [] 0 0
      (fun U => U.status = .running ∧ Ended U below (.threw T.heap.size) ∧ (T.setFrames (.invoking m args :: below)).WarmedH U.vm ∧ (T.setFrames (.invoking m args :: below)).sameButNew ({ U with vm := (T.setFrames (.invoking m args :: below)).vm } : State) [] 1 6 ∧
        ∃ ce, U.heap[T.heap.size]? = some ce ∧ ce.vm = .none ∧ (T.setFrames (.invoking m args :: below)).vm.findClass Xn = some ce.cls) (F0 m pc ls st) := by
    refine W.newc hx hb hown (hw _ (by simp [z_thr])) hins (hw _ (by simp [z_thr])) rfl hd0 (Nat.le_refl _) (Nat.le_refl _) fun cC kC h1 h2 h3 h4 => ?_
    refine lv_dup (pc := pc + 3) hx hb hd3 rfl ?_
    intro T2 hT2 X2
    obtain ⟨U, u1, u2, u3, u4, u5, ce, u6, u7⟩ := X2.ctorThrow0 hx htr (own := mt.1.cls) (cls := Xn) (names := ["java/lang/RuntimeException", "java/lang/Exception"]) (ic := ic) hown hfit (by decide) hat (fun x hx => by cases hx)
      (a := T.heap.size) h1 h2 (by rw [hT2]; simp [freshCell]) (Nat.le_refl _) (g := F0 m (pc + 3 + 1) ls (.ref T.heap.size :: .ref T.heap.size :: st)) rfl (hl.1.trans S1.1.2.2.1.symm) rfl rfl (rest := st) rfl (by rw [hb]; exact hd4) (by rw [hb]; exact hd7) (z_noh (S1.2.1.2.2.2.trans hh) _) (by show 2 + 3 < R.frames; omega) (by show 2 * 0 + (1 + (st.map fun v => v.category).sum) + (13 * (2 + 1) + 41) ≤ R.locals; omega)
    exact ⟨U, u1, u2, u3, u4, u5, ce, u6, u7.vm, u7.cls⟩
  obtain ⟨U, a1, u2, u3, u4, u5, ce, u6, u7, u8⟩ := hW T rfl X'
  have hT1 : T.sameButNew ({ U with vm := T.vm } : State) [] 1 6 := by
    obtain ⟨e2, q⟩ := u5
    refine ⟨?_, q⟩
    rw [State.setFrames_setFrames] at e2
    exact e2
  have hkeep : ∀ (a : Nat) (cell : Cell), T.heap[a]? = some cell → U.heap[a]? = some cell := fun a cell hcell => z_kept (t := ({ U with vm := T.vm } : State)) hT1 hcell
  have hzU : U.heap.size = h.1 + 1 := by
    have q1 : U.heap.size ≤ T.heap.size + 1 := hT1.2.2.1
    have q2 := (Array.getElem?_eq_some_iff.mp u6).1
    omega
  have hsm : s.sameButNew ({ U with vm := s.vm } : State) locs (h.1 + 1 - s.heap.size) (h.2.1 + 6 - ss0) := by
    have h1 := X.same.trans (hT1.setVm s.vm)
    rw [List.append_nil, show h.1 - s.heap.size + 1 = h.1 + 1 - s.heap.size by omega, show h.2.1 - ss0 + 6 = h.2.1 + 6 - ss0 by omega] at h1
    exact h1
  have hko : ∀ q : Nat, q < T.heap.size → U.heap[q]? = T.heap[q]? := fun q hq => by
    have e1 : T.heap[q]? = some T.heap[q] := Array.getElem?_eq_getElem hq
    rw [e1]
    exact hkeep q _ e1
  refine ⟨U, a1, .threw T.heap.size, .inr Xn, (h.1 + 1, h.2.1 + 6, h.2.2), hq, u2, u3, State.WarmedH.trans X.warmed u4, ⟨locs, hsm, S4.1.2.2⟩, ⟨hzU, ⟨ws, hP.kept (fun k x hx => hko x.1 ((hP k x hx).lt)), hD, hcov⟩, Rz1.kept (fun a ha => hko a (by have := S4.2; have := S4.1.1; omega)), Rz2.kept (fun a ha => hko a (by have := S4.2; have := S4.1.1; omega)), Rx.kept (hko _ (by have := S4.2; have := S4.1.1; omega)), Rb⟩, fun q hq2 => ?_, ⟨by show s.heap.size ≤ h.1 + 1; omega, by show ss0 ≤ h.2.1 + 6; omega, hc, hs⟩, T.heap.size, ce, rfl, u6, u7, ?_⟩
  · have hq3 : q < s.heap.size := Nat.lt_of_lt_of_le hq2 S4.2
    rw [hko q (Nat.lt_of_lt_of_le hq3 S4.1.1)]
    exact S4.1.2.1 q hq3 (Nat.not_le.mpr hq2)
  · rw [← hal.findClass]
    exact u8
end ZU
end
section
/-! rows as lists of numbers: what the class and the reference both do to them -/
/-- a number that has two parts -/
def p_two (v : Nat) : Bool := v == 2 || v == 3 || v == 4
/-- how many numbers the next k terms take -/
def p_end : Nat → List Nat → Nat
  | _, [] => 0
  | 0, _ :: _ => 0
  | k + 1, v :: l => p_end (if p_two v = true then k + 2 else k) l + 1
/-- the depths that are awaited behind a number at depth d -/
def p_aw (v d : Nat) (S : List Nat) : List Nat := if p_two v = true then d :: (if v = 2 then d else d + 1) :: S else S
/-- the term with k added to the variables that it doesn't bind -/
def p_lift (k : Nat) : List Nat → List Nat → List Nat
  | _, [] => []
  | [], _ :: _ => []
  | d :: S, v :: l => (if 100 + d ≤ v then v + k else v) :: p_lift k (p_aw v d S) l
/-- the body with the term a put for variable 0 -/
def p_put (a : List Nat) : List Nat → List Nat → List Nat
  | _, [] => []
  | [], _ :: _ => []
  | d :: S, v :: l => (if v = 100 + d then p_lift d [0] a else if 100 + d < v then [v - 1] else [v]) ++ p_put a (p_aw v d S) l
/-- the right side with the terms g j put for the n variables -/
def p_res (n : Nat) (g : Nat → List Nat) : List Nat → List Nat → List Nat
  | _, [] => []
  | [], _ :: _ => []
  | d :: S, v :: l => (if 100 + d ≤ v ∧ v < 100 + d + n then p_lift d [0] (g (v - 100 - d)) else [v]) ++ p_res n g (p_aw v d S) l
/-- does the pattern match at a place of the row; where the variables' terms begin -/
def p_match (n : Nat) (x : List Nat) : List Nat → Nat → (Nat → Nat) → Bool × (Nat → Nat)
  | [], _, g => (true, g)
  | v :: q, i, g => if 100 ≤ v ∧ v < 100 + n then p_match n x q (i + p_end 1 (x.drop i)) (va_up g (v - 100) i) else if x[i]? = some v then p_match n x q (i + 1) g else (false, g)
theorem p_end_nil (k : Nat) : p_end k [] = 0 := by cases k <;> rfl
theorem p_end_zero (l : List Nat) : p_end 0 l = 0 := by cases l <;> rfl
theorem p_end_le : ∀ (l : List Nat) (k : Nat), p_end k l ≤ l.length
  | [], k => by rw [p_end_nil]; exact Nat.le_refl _
  | v :: l, 0 => Nat.zero_le _
  | v :: l, k + 1 => by
    show p_end _ l + 1 ≤ l.length + 1
    exact Nat.succ_le_succ (p_end_le l _)
theorem p_lift_nil (k : Nat) (S : List Nat) : p_lift k S [] = [] := by cases S <;> rfl
theorem p_lift_stop (k : Nat) (l : List Nat) : p_lift k [] l = [] := by cases l <;> rfl
theorem p_put_nil (a S : List Nat) : p_put a S [] = [] := by cases S <;> rfl
theorem p_put_stop (a l : List Nat) : p_put a [] l = [] := by cases l <;> rfl
theorem p_res_nil (n : Nat) (g : Nat → List Nat) (S : List Nat) : p_res n g S [] = [] := by cases S <;> rfl
theorem p_res_stop (n : Nat) (g : Nat → List Nat) (l : List Nat) : p_res n g [] l = [] := by cases l <;> rfl
theorem p_aw_len (v d : Nat) (S : List Nat) : (p_aw v d S).length = if p_two v = true then S.length + 2 else S.length := by
  unfold p_aw
  split <;> simp
/-- the lifted term is as long as the term -/
theorem p_lift_len : ∀ (l : List Nat) (k : Nat) (S : List Nat), (p_lift k S l).length = p_end S.length l
  | [], k, S => by rw [p_lift_nil, p_end_nil]; rfl
  | v :: l, k, [] => rfl
  | v :: l, k, d :: S => by
    show (p_lift k (p_aw v d S) l).length + 1 = p_end (if p_two v = true then S.length + 2 else S.length) l + 1
    rw [p_lift_len l k (p_aw v d S), p_aw_len]
/-- the row is made of a term for each awaited depth, its variables are bound or among n -/
def p_wf (n : Nat) : List Nat → List Nat → Prop
  | S, [] => S = []
  | [], _ :: _ => False
  | d :: S, v :: l => (v < 5 ∨ (10 ≤ v ∧ v < 18) ∨ (100 ≤ v ∧ v < 100 + d + n)) ∧ p_wf n (p_aw v d S) l
theorem p_aw_app (v d : Nat) (S S' : List Nat) : p_aw v d (S ++ S') = p_aw v d S ++ S' := by
  unfold p_aw
  split <;> rfl
theorem p_wf_app {n : Nat} : ∀ {l1 S1 l2 S2 : List Nat}, p_wf n S1 l1 → p_wf n S2 l2 → p_wf n (S1 ++ S2) (l1 ++ l2)
  | [], S1, l2, S2, h1, h2 => by
    have h1 : S1 = [] := by cases S1 <;> exact h1
    subst h1
    exact h2
  | v :: l1, [], l2, S2, h1, h2 => h1.elim
  | v :: l1, d :: S1, l2, S2, h1, h2 => by
    refine ⟨h1.1, ?_⟩
    show p_wf n (p_aw v d (S1 ++ S2)) (l1 ++ l2)
    rw [p_aw_app]
    exact p_wf_app h1.2 h2
theorem p_wf_split {n : Nat} : ∀ {l S1 S2 : List Nat}, p_wf n (S1 ++ S2) l → p_wf n S1 (l.take (p_end S1.length l)) ∧ p_wf n S2 (l.drop (p_end S1.length l))
  | [], S1, S2, h => by
    have h : S1 ++ S2 = [] := by
      revert h
      cases S1 ++ S2 <;> exact id
    obtain ⟨rfl, rfl⟩ := List.append_eq_nil_iff.mp h
    exact ⟨rfl, rfl⟩
  | v :: l, [], S2, h => ⟨rfl, h⟩
  | v :: l, d :: S1, S2, h => by
    have h2 : p_wf n (p_aw v d (S1 ++ S2)) l := h.2
    rw [p_aw_app] at h2
    have h3 := p_wf_split h2
    rw [p_aw_len] at h3
    exact ⟨⟨h.1, h3.1⟩, h3.2⟩
theorem p_two_lt {v : Nat} (h : p_two v = true) : v < 5 := by
  simp only [p_two, Bool.or_eq_true, beq_iff_eq] at h
  omega
theorem p_two_ge {v : Nat} (h : 5 ≤ v) : p_two v = false := by
  cases hp : p_two v with
  | false => rfl
  | true => have := p_two_lt hp; omega
theorem p_aw_map (v d k : Nat) (S : List Nat) : p_aw v (d + k) (S.map (· + k)) = (p_aw v d S).map (· + k) := by
  unfold p_aw
  split
  · split <;> simp <;> omega
  · rfl
theorem p_aw_big {v : Nat} (h : 5 ≤ v) (d : Nat) (S : List Nat) : p_aw v d S = S := by
  unfold p_aw
  rw [p_two_ge h]
  rfl
theorem p_wf_lift {n k : Nat} : ∀ {l S : List Nat}, p_wf n S l → p_wf n (S.map (· + k)) (p_lift k S l)
  | [], S, h => by
    have h : S = [] := by cases S <;> exact h
    subst h
    rfl
  | v :: l, [], h => h.elim
  | v :: l, d :: S, h => by
    have ih := p_wf_lift (k := k) h.2
    obtain ⟨h1, -⟩ := h
    by_cases hv : 100 + d ≤ v
    · have e : p_lift k (d :: S) (v :: l) = (v + k) :: p_lift k (p_aw v d S) l := by
        show (if 100 + d ≤ v then v + k else v) :: _ = _
        rw [if_pos hv]
      rw [e, p_aw_big (by omega)]
      rw [p_aw_big (by omega)] at ih
      refine ⟨by show v + k < 5 ∨ (10 ≤ v + k ∧ v + k < 18) ∨ (100 ≤ v + k ∧ v + k < 100 + (d + k) + n); omega, ?_⟩
      show p_wf n (p_aw (v + k) (d + k) (S.map (· + k))) _
      rw [p_aw_big (by omega)]
      exact ih
    · have e : p_lift k (d :: S) (v :: l) = v :: p_lift k (p_aw v d S) l := by
        show (if 100 + d ≤ v then v + k else v) :: _ = _
        rw [if_neg hv]
      rw [e]
      refine ⟨by show v < 5 ∨ (10 ≤ v ∧ v < 18) ∨ (100 ≤ v ∧ v < 100 + (d + k) + n); omega, ?_⟩
      show p_wf n (p_aw v (d + k) (S.map (· + k))) _
      rw [p_aw_map]
      exact ih
theorem p_wf_put {n : Nat} {a : List Nat} (ha : p_wf n [0] a) : ∀ {l S : List Nat}, p_wf (n + 1) S l → p_wf n S (p_put a S l)
  | [], S, h => by
    have h : S = [] := by cases S <;> exact h
    subst h
    rfl
  | v :: l, [], h => h.elim
  | v :: l, d :: S, h => by
    have ih := p_wf_put ha h.2
    obtain ⟨h1, -⟩ := h
    show p_wf n (d :: S) ((if v = 100 + d then p_lift d [0] a else if 100 + d < v then [v - 1] else [v]) ++ p_put a (p_aw v d S) l)
    by_cases hv : v = 100 + d
    · rw [if_pos hv, p_aw_big (by omega)]
      rw [p_aw_big (by omega)] at ih
      have hl := p_wf_lift (k := d) ha
      have e : ([0] : List Nat).map (· + d) = [d] := by simp
      rw [e] at hl
      exact p_wf_app (S1 := [d]) hl ih
    · rw [if_neg hv]
      by_cases hw : 100 + d < v
      · rw [if_pos hw]
        rw [p_aw_big (by omega)] at ih
        rw [p_aw_big (v := v) (by omega)]
        refine ⟨by omega, ?_⟩
        show p_wf n (p_aw (v - 1) d S) _
        rw [p_aw_big (by omega)]
        exact ih
      · rw [if_neg hw]
        exact ⟨by omega, ih⟩
theorem p_wf_res {n m : Nat} {g : Nat → List Nat} (hg : ∀ j, j < m → p_wf n [0] (g j)) : ∀ {l S : List Nat}, p_wf m S l → p_wf n S (p_res m g S l)
  | [], S, h => by
    have h : S = [] := by cases S <;> exact h
    subst h
    rfl
  | v :: l, [], h => h.elim
  | v :: l, d :: S, h => by
    have ih := p_wf_res hg h.2
    obtain ⟨h1, -⟩ := h
    show p_wf n (d :: S) ((if 100 + d ≤ v ∧ v < 100 + d + m then p_lift d [0] (g (v - 100 - d)) else [v]) ++ p_res m g (p_aw v d S) l)
    by_cases hv : 100 + d ≤ v ∧ v < 100 + d + m
    · rw [if_pos hv, p_aw_big (by omega)]
      rw [p_aw_big (by omega)] at ih
      have hl := p_wf_lift (k := d) (hg (v - 100 - d) (by omega))
      have e : ([0] : List Nat).map (· + d) = [d] := by simp
      rw [e] at hl
      exact p_wf_app (S1 := [d]) hl ih
    · rw [if_neg hv]
      exact ⟨by omega, ih⟩
end
section
/-! a row's cells: the object r, its numbers at r + 1 -/
abbrev z_G.ca (G : z_G) (k : Nat) : ClassId := (G.tys.getD k (0, .int)).1
def k_ints (G : z_G) (n : Nat) (f : Nat → Int32) : va_E := .inl (G.ca 0, n, .inl f)
def k_row (r n : Nat) : va_E := .inr (0, [.ref (r + 1), .int (nI n)])
def rowAt (G : z_G) (h : z_H) (r n : Nat) (f : Nat → Int32) : Prop := h.2.2 r = some (k_row r n) ∧ h.2.2 (r + 1) = some (k_ints G 40 f)
def rset (G : z_G) (h : z_H) (r n : Nat) (f : Nat → Int32) : z_H := (h.1, h.2.1, va_up (va_up h.2.2 (r + 1) (some (k_ints G 40 f))) r (some (k_row r n)))
/-- behind an exception -/
def z_exc (h : z_H) : z_H := (h.1 + 1, h.2.1 + 6, h.2.2)
/-- there is room for one -/
def z_rm (G : z_G) (h : z_H) : Prop := h.1 + 1 ≤ G.b0 + G.cc ∧ h.2.1 + 6 ≤ G.ss
theorem z_rm.rset {G : z_G} {h : z_H} (H : z_rm G h) (r n : Nat) (f : Nat → Int32) : z_rm G (rset G h r n f) := H
theorem rset_at (G : z_G) (h : z_H) (r n : Nat) (f : Nat → Int32) : rowAt G (rset G h r n f) r n f := by
  refine ⟨va_up_self _ _ _, ?_⟩
  show va_up (va_up h.2.2 (r + 1) _) r _ (r + 1) = _
  rw [va_up_ne _ _ (by omega), va_up_self]
theorem rset_ne (G : z_G) (h : z_H) {r q : Nat} (n : Nat) (f : Nat → Int32) (h1 : q ≠ r) (h2 : q ≠ r + 1) : (rset G h r n f).2.2 q = h.2.2 q := by
  show va_up (va_up h.2.2 (r + 1) _) r _ q = _
  rw [va_up_ne _ _ h1, va_up_ne _ _ h2]
theorem rset_row {G : z_G} {h : z_H} {r r' n' : Nat} {f' : Nat → Int32} (n : Nat) (f : Nat → Int32) (H : rowAt G h r' n' f') (h1 : r' ≠ r) (h2 : r' ≠ r + 1) (h3 : r' + 1 ≠ r) : rowAt G (rset G h r n f) r' n' f' :=
  ⟨(rset_ne G h n f h1 h2).trans H.1, (rset_ne G h n f h3 (by omega)).trans H.2⟩
theorem rset_rset (G : z_G) (h : z_H) (r n m : Nat) (f g : Nat → Int32) : rset G (rset G h r n f) r m g = rset G h r m g := by
  unfold rset
  refine congrArg (fun z => (h.1, h.2.1, z)) ?_
  funext q
  simp only [va_up]
  split
  · rfl
  · split <;> rfl
theorem rset_self {G : z_G} {h : z_H} {r n : Nat} {f : Nat → Int32} (H : rowAt G h r n f) : rset G h r n f = h := by
  unfold rset
  obtain ⟨a, b, u⟩ := h
  refine congrArg (fun z => (a, b, z)) ?_
  funext q
  simp only [va_up]
  split
  · rename_i e
    rw [e]
    exact H.1.symm
  · split
    · rename_i e
      rw [e]
      exact H.2.symm
    · rfl
theorem rset_len {G : z_G} {h : z_H} {r n : Nat} {f : Nat → Int32} (m : Nat) (H : rowAt G h r n f) : z_set h r (k_row r m) = rset G h r m f := by
  unfold rset z_set
  refine congrArg (fun z => (h.1, h.2.1, z)) ?_
  funext q
  simp only [va_up]
  split
  · rfl
  · split
    · rename_i e
      rw [e]
      exact H.2
    · rfl
theorem l_gl {l1 l2 : List Nat} {i : Nat} (h : i < l1.length) : (l1 ++ l2).getD i 0 = l1.getD i 0 := by
  rw [List.getD_eq_getElem?_getD, List.getD_eq_getElem?_getD, List.getElem?_append_left h]
theorem l_gr {l1 l2 : List Nat} {i : Nat} (h : l1.length ≤ i) : (l1 ++ l2).getD i 0 = l2.getD (i - l1.length) 0 := by
  rw [List.getD_eq_getElem?_getD, List.getD_eq_getElem?_getD, List.getElem?_append_right h]
/-- the numbers of a list, behind the first n -/
def k_app (f : Nat → Int32) (n : Nat) (l : List Nat) : Nat → Int32 := fun j => if n ≤ j ∧ j < n + l.length then nI (l.getD (j - n) 0) else f j
theorem k_app_nil (f : Nat → Int32) (n : Nat) : k_app f n [] = f := by
  funext j
  unfold k_app
  rw [if_neg (by simp only [List.length_nil]; omega)]
theorem k_app_one (f : Nat → Int32) (n v : Nat) : upd f n (nI v) = k_app f n [v] := by
  funext j
  unfold k_app upd
  by_cases h : j = n
  · subst h
    rw [if_pos rfl, if_pos (by simp only [List.length_cons, List.length_nil]; omega), Nat.sub_self]
    rfl
  · rw [if_neg h, if_neg (by simp only [List.length_cons, List.length_nil]; omega)]
theorem k_app_app (f : Nat → Int32) (n : Nat) (l1 l2 : List Nat) : k_app (k_app f n l1) (n + l1.length) l2 = k_app f n (l1 ++ l2) := by
  funext j
  unfold k_app
  simp only [List.length_append]
  by_cases h1 : n + l1.length ≤ j ∧ j < n + l1.length + l2.length
  · rw [if_pos h1, if_pos (by omega), l_gr (by omega), Nat.sub_add_eq]
  · rw [if_neg h1]
    by_cases h2 : n ≤ j ∧ j < n + l1.length
    · rw [if_pos h2, if_pos (by omega), l_gl (by omega)]
    · rw [if_neg h2, if_neg (by omega)]
/-- the row's numbers are the list's -/
def rl (f : Nat → Int32) (l : List Nat) : Prop := l.length ≤ 40 ∧ ∀ i, i < l.length → f i = nI (l.getD i 0) ∧ l.getD i 0 < 1000
theorem rl_app {f : Nat → Int32} {l1 l2 : List Nat} (h : rl f l1) (hl : l1.length + l2.length ≤ 40) (hb : ∀ v ∈ l2, v < 1000) : rl (k_app f l1.length l2) (l1 ++ l2) := by
  refine ⟨by rw [List.length_append]; exact hl, fun i hi => ?_⟩
  rw [List.length_append] at hi
  unfold k_app
  by_cases h1 : i < l1.length
  · rw [if_neg (by omega), l_gl h1]
    exact h.2 i h1
  · rw [if_pos (by omega), l_gr (by omega)]
    refine ⟨rfl, ?_⟩
    have h2 : i - l1.length < l2.length := by omega
    rw [List.getD_eq_getElem?_getD, List.getElem?_eq_getElem h2]
    exact hb _ (List.getElem_mem h2)
end
section
-- ===== PART A: goes FIRST, ahead of the names: the tables' words, and 'selects' of the private methods out of them =====
/-- a private method of a class that the tables say can be made, by its rows of tables_1 -/
def lw_okq (q : MethodName × Nat) : Prop := (q.1.cls ≠ "java/lang/invoke/MethodHandle" ∧ q.1.cls ≠ "java/lang/invoke/VarHandle") ∧ Cond.instantiable q.1.cls q.2 ∈ tables_1 ∧ Cond.privateMethod q.1 ∈ tables_1 ∧ Cond.instanceMethod q.1 ∈ tables_1
theorem lw_p0 : lw_okq (⟨"TypeKernel", "presentCount", "()I"⟩, 12) := ⟨⟨by decide +kernel, by decide +kernel⟩, List.mem_of_getElem? (i := 18) (by decide +kernel), List.mem_of_getElem? (i := 181) (by decide +kernel), List.mem_of_getElem? (i := 182) (by decide +kernel)⟩
theorem lw_p1 : lw_okq (⟨"TypeKernel", "isJudgement", "(I)Z"⟩, 12) := ⟨⟨by decide +kernel, by decide +kernel⟩, List.mem_of_getElem? (i := 18) (by decide +kernel), List.mem_of_getElem? (i := 193) (by decide +kernel), List.mem_of_getElem? (i := 194) (by decide +kernel)⟩
theorem lw_p2 : lw_okq (⟨"TypeKernel", "judgementAt", "(I)LTypeKernel$Judgement;"⟩, 12) := ⟨⟨by decide +kernel, by decide +kernel⟩, List.mem_of_getElem? (i := 18) (by decide +kernel), List.mem_of_getElem? (i := 197) (by decide +kernel), List.mem_of_getElem? (i := 198) (by decide +kernel)⟩
theorem lw_p3 : lw_okq (⟨"TypeKernel", "isEntry", "(I)Z"⟩, 12) := ⟨⟨by decide +kernel, by decide +kernel⟩, List.mem_of_getElem? (i := 18) (by decide +kernel), List.mem_of_getElem? (i := 213) (by decide +kernel), List.mem_of_getElem? (i := 214) (by decide +kernel)⟩
theorem lw_p4 : lw_okq (⟨"TypeKernel", "entryAt", "(I)LTypeKernel$Row;"⟩, 12) := ⟨⟨by decide +kernel, by decide +kernel⟩, List.mem_of_getElem? (i := 18) (by decide +kernel), List.mem_of_getElem? (i := 217) (by decide +kernel), List.mem_of_getElem? (i := 218) (by decide +kernel)⟩
theorem lw_p5 : lw_okq (⟨"TypeKernel", "isConstant", "(I)Z"⟩, 12) := ⟨⟨by decide +kernel, by decide +kernel⟩, List.mem_of_getElem? (i := 18) (by decide +kernel), List.mem_of_getElem? (i := 225) (by decide +kernel), List.mem_of_getElem? (i := 226) (by decide +kernel)⟩
theorem lw_p6 : lw_okq (⟨"TypeKernel", "addJudgement", "()LTypeKernel$Judgement;"⟩, 12) := ⟨⟨by decide +kernel, by decide +kernel⟩, List.mem_of_getElem? (i := 18) (by decide +kernel), List.mem_of_getElem? (i := 241) (by decide +kernel), List.mem_of_getElem? (i := 242) (by decide +kernel)⟩
theorem lw_p7 : lw_okq (⟨"java/lang/Throwable", "fillInStackTrace", "(I)Ljava/lang/Throwable;"⟩, 6) := ⟨⟨by decide +kernel, by decide +kernel⟩, List.mem_of_getElem? (i := 285) (by decide +kernel), List.mem_of_getElem? (i := 283) (by decide +kernel), List.mem_of_getElem? (i := 284) (by decide +kernel)⟩
theorem lw_p8 : lw_okq (⟨"TypeKernel", "presentJudgement", "(I)LTypeKernel$Judgement;"⟩, 12) := ⟨⟨by decide +kernel, by decide +kernel⟩, List.mem_of_getElem? (i := 18) (by decide +kernel), List.mem_of_getElem? (i := 403) (by decide +kernel), List.mem_of_getElem? (i := 404) (by decide +kernel)⟩
theorem lw_p9 : lw_okq (⟨"TypeKernel", "neededJudgement", "(I)LTypeKernel$Judgement;"⟩, 12) := ⟨⟨by decide +kernel, by decide +kernel⟩, List.mem_of_getElem? (i := 18) (by decide +kernel), List.mem_of_getElem? (i := 407) (by decide +kernel), List.mem_of_getElem? (i := 408) (by decide +kernel)⟩
theorem lw_p10 : lw_okq (⟨"TypeKernel$Rewriter", "step", "()Z"⟩, 7) := ⟨⟨by decide +kernel, by decide +kernel⟩, List.mem_of_getElem? (i := 30) (by decide +kernel), List.mem_of_getElem? (i := 431) (by decide +kernel), List.mem_of_getElem? (i := 432) (by decide +kernel)⟩
theorem lw_p11 : lw_okq (⟨"TypeKernel$Rewriter", "doLambda", "(I)V"⟩, 7) := ⟨⟨by decide +kernel, by decide +kernel⟩, List.mem_of_getElem? (i := 30) (by decide +kernel), List.mem_of_getElem? (i := 435) (by decide +kernel), List.mem_of_getElem? (i := 436) (by decide +kernel)⟩
theorem lw_p12 : lw_okq (⟨"TypeKernel$Rewriter", "takeNext", "()V"⟩, 7) := ⟨⟨by decide +kernel, by decide +kernel⟩, List.mem_of_getElem? (i := 30) (by decide +kernel), List.mem_of_getElem? (i := 457) (by decide +kernel), List.mem_of_getElem? (i := 458) (by decide +kernel)⟩
theorem lw_p13 : lw_okq (⟨"TypeKernel$Rewriter", "firstMatch", "(I)I"⟩, 7) := ⟨⟨by decide +kernel, by decide +kernel⟩, List.mem_of_getElem? (i := 30) (by decide +kernel), List.mem_of_getElem? (i := 461) (by decide +kernel), List.mem_of_getElem? (i := 462) (by decide +kernel)⟩
theorem lw_p14 : lw_okq (⟨"TypeKernel$Rewriter", "matches", "(LTypeKernel$Rule;I)Z"⟩, 7) := ⟨⟨by decide +kernel, by decide +kernel⟩, List.mem_of_getElem? (i := 30) (by decide +kernel), List.mem_of_getElem? (i := 465) (by decide +kernel), List.mem_of_getElem? (i := 466) (by decide +kernel)⟩
theorem lw_p15 : lw_okq (⟨"TypeKernel$Rewriter", "doRule", "(LTypeKernel$Rule;I)V"⟩, 7) := ⟨⟨by decide +kernel, by decide +kernel⟩, List.mem_of_getElem? (i := 30) (by decide +kernel), List.mem_of_getElem? (i := 469) (by decide +kernel), List.mem_of_getElem? (i := 470) (by decide +kernel)⟩
def lw_privs_1 : List (MethodName × Nat) := [(⟨"TypeKernel", "presentCount", "()I"⟩, 12), (⟨"TypeKernel", "isJudgement", "(I)Z"⟩, 12), (⟨"TypeKernel", "judgementAt", "(I)LTypeKernel$Judgement;"⟩, 12), (⟨"TypeKernel", "isEntry", "(I)Z"⟩, 12), (⟨"TypeKernel", "entryAt", "(I)LTypeKernel$Row;"⟩, 12), (⟨"TypeKernel", "isConstant", "(I)Z"⟩, 12), (⟨"TypeKernel", "addJudgement", "()LTypeKernel$Judgement;"⟩, 12), (⟨"java/lang/Throwable", "fillInStackTrace", "(I)Ljava/lang/Throwable;"⟩, 6), (⟨"TypeKernel", "presentJudgement", "(I)LTypeKernel$Judgement;"⟩, 12), (⟨"TypeKernel", "neededJudgement", "(I)LTypeKernel$Judgement;"⟩, 12), (⟨"TypeKernel$Rewriter", "step", "()Z"⟩, 7), (⟨"TypeKernel$Rewriter", "doLambda", "(I)V"⟩, 7), (⟨"TypeKernel$Rewriter", "takeNext", "()V"⟩, 7), (⟨"TypeKernel$Rewriter", "firstMatch", "(I)I"⟩, 7), (⟨"TypeKernel$Rewriter", "matches", "(LTypeKernel$Rule;I)Z"⟩, 7), (⟨"TypeKernel$Rewriter", "doRule", "(LTypeKernel$Rule;I)V"⟩, 7)]
theorem lw_r1 : ∀ q ∈ lw_privs_1, lw_okq q := List.forall_mem_cons.mpr ⟨lw_p0, List.forall_mem_cons.mpr ⟨lw_p1, List.forall_mem_cons.mpr ⟨lw_p2, List.forall_mem_cons.mpr ⟨lw_p3, List.forall_mem_cons.mpr ⟨lw_p4, List.forall_mem_cons.mpr ⟨lw_p5, List.forall_mem_cons.mpr ⟨lw_p6, List.forall_mem_cons.mpr ⟨lw_p7, List.forall_mem_cons.mpr ⟨lw_p8, List.forall_mem_cons.mpr ⟨lw_p9, List.forall_mem_cons.mpr ⟨lw_p10, List.forall_mem_cons.mpr ⟨lw_p11, List.forall_mem_cons.mpr ⟨lw_p12, List.forall_mem_cons.mpr ⟨lw_p13, List.forall_mem_cons.mpr ⟨lw_p14, List.forall_mem_cons.mpr ⟨lw_p15, fun _ h => absurd h List.not_mem_nil⟩⟩⟩⟩⟩⟩⟩⟩⟩⟩⟩⟩⟩⟩⟩⟩
theorem lw_p16 : lw_okq (⟨"TypeKernel", "onlyPresentJudgement", "()LTypeKernel$Judgement;"⟩, 12) := ⟨⟨by decide +kernel, by decide +kernel⟩, List.mem_of_getElem? (i := 18) (by decide +kernel), List.mem_of_getElem? (i := 520) (by decide +kernel), List.mem_of_getElem? (i := 521) (by decide +kernel)⟩
theorem lw_p17 : lw_okq (⟨"TypeKernel", "bind", "(LTypeKernel$Judgement;)V"⟩, 12) := ⟨⟨by decide +kernel, by decide +kernel⟩, List.mem_of_getElem? (i := 18) (by decide +kernel), List.mem_of_getElem? (i := 524) (by decide +kernel), List.mem_of_getElem? (i := 525) (by decide +kernel)⟩
theorem lw_p18 : lw_okq (⟨"TypeKernel", "isLeftSide", "(LTypeKernel$Row;)Z"⟩, 12) := ⟨⟨by decide +kernel, by decide +kernel⟩, List.mem_of_getElem? (i := 18) (by decide +kernel), List.mem_of_getElem? (i := 552) (by decide +kernel), List.mem_of_getElem? (i := 553) (by decide +kernel)⟩
theorem lw_p19 : lw_okq (⟨"TypeKernelModel", "push", "()Z"⟩, 16) := ⟨⟨by decide +kernel, by decide +kernel⟩, List.mem_of_getElem? (i := 590) (by decide +kernel), List.mem_of_getElem? (i := 653) (by decide +kernel), List.mem_of_getElem? (i := 654) (by decide +kernel)⟩
theorem lw_p20 : lw_okq (⟨"TypeKernelModel", "add", "(II)V"⟩, 16) := ⟨⟨by decide +kernel, by decide +kernel⟩, List.mem_of_getElem? (i := 590) (by decide +kernel), List.mem_of_getElem? (i := 657) (by decide +kernel), List.mem_of_getElem? (i := 658) (by decide +kernel)⟩
theorem lw_p21 : lw_okq (⟨"TypeKernelModel", "addRow", "(II)V"⟩, 16) := ⟨⟨by decide +kernel, by decide +kernel⟩, List.mem_of_getElem? (i := 590) (by decide +kernel), List.mem_of_getElem? (i := 665) (by decide +kernel), List.mem_of_getElem? (i := 666) (by decide +kernel)⟩
theorem lw_p22 : lw_okq (⟨"TypeKernelModel", "at", "(II)I"⟩, 16) := ⟨⟨by decide +kernel, by decide +kernel⟩, List.mem_of_getElem? (i := 590) (by decide +kernel), List.mem_of_getElem? (i := 669) (by decide +kernel), List.mem_of_getElem? (i := 670) (by decide +kernel)⟩
theorem lw_p23 : lw_okq (⟨"TypeKernelModel", "measure", "(IZ)V"⟩, 16) := ⟨⟨by decide +kernel, by decide +kernel⟩, List.mem_of_getElem? (i := 590) (by decide +kernel), List.mem_of_getElem? (i := 677) (by decide +kernel), List.mem_of_getElem? (i := 678) (by decide +kernel)⟩
theorem lw_p24 : lw_okq (⟨"TypeKernelModel", "addShifted", "(IIIII)V"⟩, 16) := ⟨⟨by decide +kernel, by decide +kernel⟩, List.mem_of_getElem? (i := 590) (by decide +kernel), List.mem_of_getElem? (i := 684) (by decide +kernel), List.mem_of_getElem? (i := 685) (by decide +kernel)⟩
theorem lw_p25 : lw_okq (⟨"TypeKernelModel", "applied", "()I"⟩, 16) := ⟨⟨by decide +kernel, by decide +kernel⟩, List.mem_of_getElem? (i := 590) (by decide +kernel), List.mem_of_getElem? (i := 692) (by decide +kernel), List.mem_of_getElem? (i := 693) (by decide +kernel)⟩
theorem lw_p26 : lw_okq (⟨"TypeKernelModel", "present", "(I)Z"⟩, 16) := ⟨⟨by decide +kernel, by decide +kernel⟩, List.mem_of_getElem? (i := 590) (by decide +kernel), List.mem_of_getElem? (i := 696) (by decide +kernel), List.mem_of_getElem? (i := 697) (by decide +kernel)⟩
theorem lw_p27 : lw_okq (⟨"TypeKernelModel", "normalOf", "(I)I"⟩, 16) := ⟨⟨by decide +kernel, by decide +kernel⟩, List.mem_of_getElem? (i := 590) (by decide +kernel), List.mem_of_getElem? (i := 700) (by decide +kernel), List.mem_of_getElem? (i := 701) (by decide +kernel)⟩
theorem lw_p28 : lw_okq (⟨"TypeKernelModel", "copy", "(II)V"⟩, 16) := ⟨⟨by decide +kernel, by decide +kernel⟩, List.mem_of_getElem? (i := 590) (by decide +kernel), List.mem_of_getElem? (i := 704) (by decide +kernel), List.mem_of_getElem? (i := 705) (by decide +kernel)⟩
theorem lw_p29 : lw_okq (⟨"TypeKernelModel", "normalise", "()I"⟩, 16) := ⟨⟨by decide +kernel, by decide +kernel⟩, List.mem_of_getElem? (i := 590) (by decide +kernel), List.mem_of_getElem? (i := 708) (by decide +kernel), List.mem_of_getElem? (i := 709) (by decide +kernel)⟩
theorem lw_p30 : lw_okq (⟨"TypeKernelModel", "redex", "(I)I"⟩, 16) := ⟨⟨by decide +kernel, by decide +kernel⟩, List.mem_of_getElem? (i := 590) (by decide +kernel), List.mem_of_getElem? (i := 712) (by decide +kernel), List.mem_of_getElem? (i := 713) (by decide +kernel)⟩
theorem lw_p31 : lw_okq (⟨"TypeKernelModel", "matches", "(II)Z"⟩, 16) := ⟨⟨by decide +kernel, by decide +kernel⟩, List.mem_of_getElem? (i := 590) (by decide +kernel), List.mem_of_getElem? (i := 716) (by decide +kernel), List.mem_of_getElem? (i := 717) (by decide +kernel)⟩
def lw_privs_2 : List (MethodName × Nat) := [(⟨"TypeKernel", "onlyPresentJudgement", "()LTypeKernel$Judgement;"⟩, 12), (⟨"TypeKernel", "bind", "(LTypeKernel$Judgement;)V"⟩, 12), (⟨"TypeKernel", "isLeftSide", "(LTypeKernel$Row;)Z"⟩, 12), (⟨"TypeKernelModel", "push", "()Z"⟩, 16), (⟨"TypeKernelModel", "add", "(II)V"⟩, 16), (⟨"TypeKernelModel", "addRow", "(II)V"⟩, 16), (⟨"TypeKernelModel", "at", "(II)I"⟩, 16), (⟨"TypeKernelModel", "measure", "(IZ)V"⟩, 16), (⟨"TypeKernelModel", "addShifted", "(IIIII)V"⟩, 16), (⟨"TypeKernelModel", "applied", "()I"⟩, 16), (⟨"TypeKernelModel", "present", "(I)Z"⟩, 16), (⟨"TypeKernelModel", "normalOf", "(I)I"⟩, 16), (⟨"TypeKernelModel", "copy", "(II)V"⟩, 16), (⟨"TypeKernelModel", "normalise", "()I"⟩, 16), (⟨"TypeKernelModel", "redex", "(I)I"⟩, 16), (⟨"TypeKernelModel", "matches", "(II)Z"⟩, 16)]
theorem lw_r2 : ∀ q ∈ lw_privs_2, lw_okq q := List.forall_mem_cons.mpr ⟨lw_p16, List.forall_mem_cons.mpr ⟨lw_p17, List.forall_mem_cons.mpr ⟨lw_p18, List.forall_mem_cons.mpr ⟨lw_p19, List.forall_mem_cons.mpr ⟨lw_p20, List.forall_mem_cons.mpr ⟨lw_p21, List.forall_mem_cons.mpr ⟨lw_p22, List.forall_mem_cons.mpr ⟨lw_p23, List.forall_mem_cons.mpr ⟨lw_p24, List.forall_mem_cons.mpr ⟨lw_p25, List.forall_mem_cons.mpr ⟨lw_p26, List.forall_mem_cons.mpr ⟨lw_p27, List.forall_mem_cons.mpr ⟨lw_p28, List.forall_mem_cons.mpr ⟨lw_p29, List.forall_mem_cons.mpr ⟨lw_p30, List.forall_mem_cons.mpr ⟨lw_p31, fun _ h => absurd h List.not_mem_nil⟩⟩⟩⟩⟩⟩⟩⟩⟩⟩⟩⟩⟩⟩⟩⟩
theorem lw_p32 : lw_okq (⟨"TypeKernelModel", "end", "(II)I"⟩, 16) := ⟨⟨by decide +kernel, by decide +kernel⟩, List.mem_of_getElem? (i := 590) (by decide +kernel), List.mem_of_getElem? (i := 720) (by decide +kernel), List.mem_of_getElem? (i := 721) (by decide +kernel)⟩
theorem lw_p33 : lw_okq (⟨"TypeKernelModel", "step", "(II)V"⟩, 16) := ⟨⟨by decide +kernel, by decide +kernel⟩, List.mem_of_getElem? (i := 590) (by decide +kernel), List.mem_of_getElem? (i := 724) (by decide +kernel), List.mem_of_getElem? (i := 725) (by decide +kernel)⟩
theorem lw_p34 : lw_okq (⟨"TypeKernelModel", "addPut", "(IIIIII)V"⟩, 16) := ⟨⟨by decide +kernel, by decide +kernel⟩, List.mem_of_getElem? (i := 590) (by decide +kernel), List.mem_of_getElem? (i := 728) (by decide +kernel), List.mem_of_getElem? (i := 729) (by decide +kernel)⟩
theorem lw_p35 : lw_okq (⟨"TypeKernelModel", "addResult", "(I)V"⟩, 16) := ⟨⟨by decide +kernel, by decide +kernel⟩, List.mem_of_getElem? (i := 590) (by decide +kernel), List.mem_of_getElem? (i := 732) (by decide +kernel), List.mem_of_getElem? (i := 733) (by decide +kernel)⟩
theorem lw_p36 : lw_okq (⟨"TypeKernelModel", "putTerm", "(II)V"⟩, 16) := ⟨⟨by decide +kernel, by decide +kernel⟩, List.mem_of_getElem? (i := 590) (by decide +kernel), List.mem_of_getElem? (i := 736) (by decide +kernel), List.mem_of_getElem? (i := 737) (by decide +kernel)⟩
theorem lw_p37 : lw_okq (⟨"TypeKernelModel", "isOne", "(II)Z"⟩, 16) := ⟨⟨by decide +kernel, by decide +kernel⟩, List.mem_of_getElem? (i := 590) (by decide +kernel), List.mem_of_getElem? (i := 744) (by decide +kernel), List.mem_of_getElem? (i := 745) (by decide +kernel)⟩
theorem lw_p38 : lw_okq (⟨"TypeKernelModel", "canBind", "()Z"⟩, 16) := ⟨⟨by decide +kernel, by decide +kernel⟩, List.mem_of_getElem? (i := 590) (by decide +kernel), List.mem_of_getElem? (i := 752) (by decide +kernel), List.mem_of_getElem? (i := 753) (by decide +kernel)⟩
theorem lw_p39 : lw_okq (⟨"TypeKernelModel", "alone", "()Z"⟩, 16) := ⟨⟨by decide +kernel, by decide +kernel⟩, List.mem_of_getElem? (i := 590) (by decide +kernel), List.mem_of_getElem? (i := 756) (by decide +kernel), List.mem_of_getElem? (i := 757) (by decide +kernel)⟩
theorem lw_p40 : lw_okq (⟨"TypeKernelModel", "binds", "(II)Z"⟩, 16) := ⟨⟨by decide +kernel, by decide +kernel⟩, List.mem_of_getElem? (i := 590) (by decide +kernel), List.mem_of_getElem? (i := 760) (by decide +kernel), List.mem_of_getElem? (i := 761) (by decide +kernel)⟩
theorem lw_p41 : lw_okq (⟨"TypeKernelModel", "close", "()V"⟩, 16) := ⟨⟨by decide +kernel, by decide +kernel⟩, List.mem_of_getElem? (i := 590) (by decide +kernel), List.mem_of_getElem? (i := 764) (by decide +kernel), List.mem_of_getElem? (i := 765) (by decide +kernel)⟩
theorem lw_p42 : lw_okq (⟨"TypeKernelModel", "ruled", "()I"⟩, 16) := ⟨⟨by decide +kernel, by decide +kernel⟩, List.mem_of_getElem? (i := 590) (by decide +kernel), List.mem_of_getElem? (i := 780) (by decide +kernel), List.mem_of_getElem? (i := 781) (by decide +kernel)⟩
theorem lw_p43 : lw_okq (⟨"TypeKernelModel", "isLeft", "(I)Z"⟩, 16) := ⟨⟨by decide +kernel, by decide +kernel⟩, List.mem_of_getElem? (i := 590) (by decide +kernel), List.mem_of_getElem? (i := 784) (by decide +kernel), List.mem_of_getElem? (i := 785) (by decide +kernel)⟩
theorem lw_p44 : lw_okq (⟨"TypeKernelModel", "equal", "(II)Z"⟩, 16) := ⟨⟨by decide +kernel, by decide +kernel⟩, List.mem_of_getElem? (i := 590) (by decide +kernel), List.mem_of_getElem? (i := 788) (by decide +kernel), List.mem_of_getElem? (i := 789) (by decide +kernel)⟩
theorem lw_p45 : lw_okq (⟨"TypeKernelModel", "raise", "(I)I"⟩, 16) := ⟨⟨by decide +kernel, by decide +kernel⟩, List.mem_of_getElem? (i := 590) (by decide +kernel), List.mem_of_getElem? (i := 796) (by decide +kernel), List.mem_of_getElem? (i := 797) (by decide +kernel)⟩
theorem lw_p46 : lw_okq (⟨"TypeKernelModel", "seen", "(II)I"⟩, 16) := ⟨⟨by decide +kernel, by decide +kernel⟩, List.mem_of_getElem? (i := 590) (by decide +kernel), List.mem_of_getElem? (i := 820) (by decide +kernel), List.mem_of_getElem? (i := 821) (by decide +kernel)⟩
def lw_privs_3 : List (MethodName × Nat) := [(⟨"TypeKernelModel", "end", "(II)I"⟩, 16), (⟨"TypeKernelModel", "step", "(II)V"⟩, 16), (⟨"TypeKernelModel", "addPut", "(IIIIII)V"⟩, 16), (⟨"TypeKernelModel", "addResult", "(I)V"⟩, 16), (⟨"TypeKernelModel", "putTerm", "(II)V"⟩, 16), (⟨"TypeKernelModel", "isOne", "(II)Z"⟩, 16), (⟨"TypeKernelModel", "canBind", "()Z"⟩, 16), (⟨"TypeKernelModel", "alone", "()Z"⟩, 16), (⟨"TypeKernelModel", "binds", "(II)Z"⟩, 16), (⟨"TypeKernelModel", "close", "()V"⟩, 16), (⟨"TypeKernelModel", "ruled", "()I"⟩, 16), (⟨"TypeKernelModel", "isLeft", "(I)Z"⟩, 16), (⟨"TypeKernelModel", "equal", "(II)Z"⟩, 16), (⟨"TypeKernelModel", "raise", "(I)I"⟩, 16), (⟨"TypeKernelModel", "seen", "(II)I"⟩, 16)]
theorem lw_r3 : ∀ q ∈ lw_privs_3, lw_okq q := List.forall_mem_cons.mpr ⟨lw_p32, List.forall_mem_cons.mpr ⟨lw_p33, List.forall_mem_cons.mpr ⟨lw_p34, List.forall_mem_cons.mpr ⟨lw_p35, List.forall_mem_cons.mpr ⟨lw_p36, List.forall_mem_cons.mpr ⟨lw_p37, List.forall_mem_cons.mpr ⟨lw_p38, List.forall_mem_cons.mpr ⟨lw_p39, List.forall_mem_cons.mpr ⟨lw_p40, List.forall_mem_cons.mpr ⟨lw_p41, List.forall_mem_cons.mpr ⟨lw_p42, List.forall_mem_cons.mpr ⟨lw_p43, List.forall_mem_cons.mpr ⟨lw_p44, List.forall_mem_cons.mpr ⟨lw_p45, List.forall_mem_cons.mpr ⟨lw_p46, fun _ h => absurd h List.not_mem_nil⟩⟩⟩⟩⟩⟩⟩⟩⟩⟩⟩⟩⟩⟩⟩
def lw_privs : List (MethodName × Nat) := lw_privs_1 ++ (lw_privs_2 ++ (lw_privs_3))
def lw_tbl : List Cond := k2_sels lw_privs ++ tables_1
theorem lw_privs_ok : ∀ q ∈ lw_privs, lw_okq q := by
  show ∀ q ∈ lw_privs_1 ++ (lw_privs_2 ++ (lw_privs_3)), lw_okq q
  exact List.forall_mem_append.mpr ⟨lw_r1, List.forall_mem_append.mpr ⟨lw_r2, lw_r3⟩⟩
end
section
/-! names, out of the listing: classes, words, methods, decode rows (printed by a program: wip/whole/tools/gen_names.py) -/
def k_nc : List Cond := [.not (.castable "java/lang/ArithmeticException" "java/lang/UnsupportedOperationException"), .not (.castable "java/lang/IndexOutOfBoundsException" "java/lang/UnsupportedOperationException"), .not (.castable "java/lang/IllegalStateException" "java/lang/UnsupportedOperationException"), .not (.castable "java/lang/IllegalArgumentException" "java/lang/UnsupportedOperationException"), .not (.castable "java/lang/UnsupportedOperationException" "java/lang/IndexOutOfBoundsException"), .not (.castable "java/lang/ArithmeticException" "java/lang/IndexOutOfBoundsException"), .not (.castable "java/lang/IllegalStateException" "java/lang/IndexOutOfBoundsException"), .not (.castable "java/lang/IllegalArgumentException" "java/lang/IndexOutOfBoundsException"), .not (.castable "java/lang/UnsupportedOperationException" "java/lang/IllegalStateException"), .not (.castable "java/lang/ArithmeticException" "java/lang/IllegalStateException"), .not (.castable "java/lang/IndexOutOfBoundsException" "java/lang/IllegalStateException"), .not (.castable "java/lang/IllegalArgumentException" "java/lang/IllegalStateException"), .not (.castable "java/lang/UnsupportedOperationException" "java/lang/IllegalArgumentException"), .not (.castable "java/lang/ArithmeticException" "java/lang/IllegalArgumentException"), .not (.castable "java/lang/IndexOutOfBoundsException" "java/lang/IllegalArgumentException"), .not (.castable "java/lang/IllegalStateException" "java/lang/IllegalArgumentException"), .not (.castable "java/lang/UnsupportedOperationException" "java/lang/ArithmeticException"), .not (.castable "java/lang/IndexOutOfBoundsException" "java/lang/ArithmeticException"), .not (.castable "java/lang/IllegalStateException" "java/lang/ArithmeticException"), .not (.castable "java/lang/IllegalArgumentException" "java/lang/ArithmeticException")]
/-- the words that every method takes along -/
def k_ws : List Cond := (lw_tbl ++ k_nc).filter z_mv
theorem k_in {w : Cond} (i : Nat) (h : tables_1[i]? = some w) (hm : z_mv w = true) : w ∈ k_ws := List.mem_filter.mpr ⟨List.mem_append_left _ (List.mem_append_right _ (List.mem_of_getElem? h)), hm⟩
theorem k_inp {q : MethodName × Nat} (i : Nat) (h : lw_privs[i]? = some q) : Cond.selects q.1.cls q.1 q.1 ∈ k_ws := List.mem_filter.mpr ⟨List.mem_append_left _ (List.mem_append_left _ (List.mem_map.mpr ⟨q, List.mem_of_getElem? h, rfl⟩)), rfl⟩
theorem k_inn {w : Cond} (i : Nat) (h : k_nc[i]? = some w) (hm : z_mv w = true) : w ∈ k_ws := List.mem_filter.mpr ⟨List.mem_append_right _ (List.mem_of_getElem? h), hm⟩
def R_Row : String := "TypeKernel$Row"
def F_Row : u_T := fun k => match k with
  | 0 => ("TypeKernel$Row", "numbers", "[I", true)
  | _ => ("TypeKernel$Row", "length", "I", false)
def t_Row : Nat → FieldType := fun k => match k with
  | 0 => .array .int
  | _ => .int
theorem n_Row : ∀ a, a < 2 → ∀ b, b < 2 → a ≠ b → (F_Row a).2.1 ≠ (F_Row b).2.1 := by decide +kernel
theorem t_Row_ok : ∀ k, k < 2 → parseFieldDescriptor (F_Row k).2.2.1 = some (t_Row k) := by decide +kernel
theorem k_lay_Row : ∀ w ∈ u_ws R_Row F_Row 2, w ∈ k_ws := by
  show ∀ w ∈ ([(Jvm.Cond.laysFinal "TypeKernel$Row" "TypeKernel$Row" "numbers" "[I"), (Jvm.Cond.lays "TypeKernel$Row" "TypeKernel$Row" "length" "I")] : List Cond), w ∈ k_ws
  exact List.forall_mem_cons.mpr ⟨k_in 47 (by decide +kernel) rfl, List.forall_mem_cons.mpr ⟨k_in 49 (by decide +kernel) rfl, fun _ h => absurd h List.not_mem_nil⟩⟩
def R_Jd : String := "TypeKernel$Judgement"
def F_Jd : u_T := fun k => match k with
  | 0 => ("TypeKernel$Judgement", "term", "LTypeKernel$Row;", true)
  | 1 => ("TypeKernel$Judgement", "itsType", "LTypeKernel$Row;", true)
  | _ => ("TypeKernel$Judgement", "entries", "I", false)
def t_Jd : Nat → FieldType := fun k => match k with
  | 0 => .object "TypeKernel$Row"
  | 1 => .object "TypeKernel$Row"
  | _ => .int
theorem n_Jd : ∀ a, a < 3 → ∀ b, b < 3 → a ≠ b → (F_Jd a).2.1 ≠ (F_Jd b).2.1 := by decide +kernel
theorem t_Jd_ok : ∀ k, k < 3 → parseFieldDescriptor (F_Jd k).2.2.1 = some (t_Jd k) := by decide +kernel
theorem k_lay_Jd : ∀ w ∈ u_ws R_Jd F_Jd 3, w ∈ k_ws := by
  show ∀ w ∈ ([(Jvm.Cond.laysFinal "TypeKernel$Judgement" "TypeKernel$Judgement" "term" "LTypeKernel$Row;"), (Jvm.Cond.laysFinal "TypeKernel$Judgement" "TypeKernel$Judgement" "itsType" "LTypeKernel$Row;"), (Jvm.Cond.lays "TypeKernel$Judgement" "TypeKernel$Judgement" "entries" "I")] : List Cond), w ∈ k_ws
  exact List.forall_mem_cons.mpr ⟨k_in 128 (by decide +kernel) rfl, List.forall_mem_cons.mpr ⟨k_in 130 (by decide +kernel) rfl, List.forall_mem_cons.mpr ⟨k_in 132 (by decide +kernel) rfl, fun _ h => absurd h List.not_mem_nil⟩⟩⟩
def R_Ru : String := "TypeKernel$Rule"
def F_Ru : u_T := fun k => match k with
  | 0 => ("TypeKernel$Rule", "left", "LTypeKernel$Row;", true)
  | 1 => ("TypeKernel$Rule", "right", "LTypeKernel$Row;", true)
  | _ => ("TypeKernel$Rule", "variables", "I", false)
def t_Ru : Nat → FieldType := fun k => match k with
  | 0 => .object "TypeKernel$Row"
  | 1 => .object "TypeKernel$Row"
  | _ => .int
theorem n_Ru : ∀ a, a < 3 → ∀ b, b < 3 → a ≠ b → (F_Ru a).2.1 ≠ (F_Ru b).2.1 := by decide +kernel
theorem t_Ru_ok : ∀ k, k < 3 → parseFieldDescriptor (F_Ru k).2.2.1 = some (t_Ru k) := by decide +kernel
theorem k_lay_Ru : ∀ w ∈ u_ws R_Ru F_Ru 3, w ∈ k_ws := by
  show ∀ w ∈ ([(Jvm.Cond.laysFinal "TypeKernel$Rule" "TypeKernel$Rule" "left" "LTypeKernel$Row;"), (Jvm.Cond.laysFinal "TypeKernel$Rule" "TypeKernel$Rule" "right" "LTypeKernel$Row;"), (Jvm.Cond.lays "TypeKernel$Rule" "TypeKernel$Rule" "variables" "I")] : List Cond), w ∈ k_ws
  exact List.forall_mem_cons.mpr ⟨k_in 83 (by decide +kernel) rfl, List.forall_mem_cons.mpr ⟨k_in 85 (by decide +kernel) rfl, List.forall_mem_cons.mpr ⟨k_in 87 (by decide +kernel) rfl, fun _ h => absurd h List.not_mem_nil⟩⟩⟩
def R_Wk : String := "TypeKernel$Walk"
def F_Wk : u_T := fun k => match k with
  | 0 => ("TypeKernel$Walk", "awaitedDepths", "[I", true)
  | _ => ("TypeKernel$Walk", "awaited", "I", false)
def t_Wk : Nat → FieldType := fun k => match k with
  | 0 => .array .int
  | _ => .int
theorem n_Wk : ∀ a, a < 2 → ∀ b, b < 2 → a ≠ b → (F_Wk a).2.1 ≠ (F_Wk b).2.1 := by decide +kernel
theorem t_Wk_ok : ∀ k, k < 2 → parseFieldDescriptor (F_Wk k).2.2.1 = some (t_Wk k) := by decide +kernel
theorem k_lay_Wk : ∀ w ∈ u_ws R_Wk F_Wk 2, w ∈ k_ws := by
  show ∀ w ∈ ([(Jvm.Cond.laysFinal "TypeKernel$Walk" "TypeKernel$Walk" "awaitedDepths" "[I"), (Jvm.Cond.lays "TypeKernel$Walk" "TypeKernel$Walk" "awaited" "I")] : List Cond), w ∈ k_ws
  exact List.forall_mem_cons.mpr ⟨k_in 62 (by decide +kernel) rfl, List.forall_mem_cons.mpr ⟨k_in 64 (by decide +kernel) rfl, fun _ h => absurd h List.not_mem_nil⟩⟩
def R_Rw : String := "TypeKernel$Rewriter"
def F_Rw : u_T := fun k => match k with
  | 0 => ("TypeKernel$Rewriter", "rules", "[LTypeKernel$Rule;", true)
  | 1 => ("TypeKernel$Rewriter", "ruleCount", "I", false)
  | 2 => ("TypeKernel$Rewriter", "now", "LTypeKernel$Row;", false)
  | 3 => ("TypeKernel$Rewriter", "next", "LTypeKernel$Row;", false)
  | 4 => ("TypeKernel$Rewriter", "matchStarts", "[I", true)
  | 5 => ("TypeKernel$Rewriter", "around", "LTypeKernel$Walk;", true)
  | _ => ("TypeKernel$Rewriter", "inside", "LTypeKernel$Walk;", true)
def t_Rw : Nat → FieldType := fun k => match k with
  | 0 => .array (.object "TypeKernel$Rule")
  | 1 => .int
  | 2 => .object "TypeKernel$Row"
  | 3 => .object "TypeKernel$Row"
  | 4 => .array .int
  | 5 => .object "TypeKernel$Walk"
  | _ => .object "TypeKernel$Walk"
theorem n_Rw : ∀ a, a < 7 → ∀ b, b < 7 → a ≠ b → (F_Rw a).2.1 ≠ (F_Rw b).2.1 := by decide +kernel
theorem t_Rw_ok : ∀ k, k < 7 → parseFieldDescriptor (F_Rw k).2.2.1 = some (t_Rw k) := by decide +kernel
theorem k_lay_Rw : ∀ w ∈ u_ws R_Rw F_Rw 7, w ∈ k_ws := by
  show ∀ w ∈ ([(Jvm.Cond.laysFinal "TypeKernel$Rewriter" "TypeKernel$Rewriter" "rules" "[LTypeKernel$Rule;"), (Jvm.Cond.lays "TypeKernel$Rewriter" "TypeKernel$Rewriter" "ruleCount" "I"), (Jvm.Cond.lays "TypeKernel$Rewriter" "TypeKernel$Rewriter" "now" "LTypeKernel$Row;"), (Jvm.Cond.lays "TypeKernel$Rewriter" "TypeKernel$Rewriter" "next" "LTypeKernel$Row;"), (Jvm.Cond.laysFinal "TypeKernel$Rewriter" "TypeKernel$Rewriter" "matchStarts" "[I"), (Jvm.Cond.laysFinal "TypeKernel$Rewriter" "TypeKernel$Rewriter" "around" "LTypeKernel$Walk;"), (Jvm.Cond.laysFinal "TypeKernel$Rewriter" "TypeKernel$Rewriter" "inside" "LTypeKernel$Walk;")] : List Cond), w ∈ k_ws
  exact List.forall_mem_cons.mpr ⟨k_in 99 (by decide +kernel) rfl, List.forall_mem_cons.mpr ⟨k_in 101 (by decide +kernel) rfl, List.forall_mem_cons.mpr ⟨k_in 103 (by decide +kernel) rfl, List.forall_mem_cons.mpr ⟨k_in 105 (by decide +kernel) rfl, List.forall_mem_cons.mpr ⟨k_in 107 (by decide +kernel) rfl, List.forall_mem_cons.mpr ⟨k_in 109 (by decide +kernel) rfl, List.forall_mem_cons.mpr ⟨k_in 111 (by decide +kernel) rfl, fun _ h => absurd h List.not_mem_nil⟩⟩⟩⟩⟩⟩⟩
def R_TK : String := "TypeKernel"
def F_TK : u_T := fun k => match k with
  | 0 => ("TypeKernel", "stack", "[LTypeKernel$Judgement;", true)
  | 1 => ("TypeKernel", "judgementCount", "I", false)
  | 2 => ("TypeKernel", "context", "[LTypeKernel$Row;", true)
  | 3 => ("TypeKernel", "entryCount", "I", false)
  | 4 => ("TypeKernel", "constantTypes", "[LTypeKernel$Row;", true)
  | 5 => ("TypeKernel", "isDefinable", "[Z", true)
  | 6 => ("TypeKernel", "constantCount", "I", false)
  | 7 => ("TypeKernel", "rewriter", "LTypeKernel$Rewriter;", true)
  | 8 => ("TypeKernel", "lowerForm", "LTypeKernel$Row;", true)
  | 9 => ("TypeKernel", "upperForm", "LTypeKernel$Row;", true)
  | 10 => ("TypeKernel", "newTerm", "LTypeKernel$Row;", true)
  | _ => ("TypeKernel", "newType", "LTypeKernel$Row;", true)
def t_TK : Nat → FieldType := fun k => match k with
  | 0 => .array (.object "TypeKernel$Judgement")
  | 1 => .int
  | 2 => .array (.object "TypeKernel$Row")
  | 3 => .int
  | 4 => .array (.object "TypeKernel$Row")
  | 5 => .array .boolean
  | 6 => .int
  | 7 => .object "TypeKernel$Rewriter"
  | 8 => .object "TypeKernel$Row"
  | 9 => .object "TypeKernel$Row"
  | 10 => .object "TypeKernel$Row"
  | _ => .object "TypeKernel$Row"
theorem n_TK : ∀ a, a < 12 → ∀ b, b < 12 → a ≠ b → (F_TK a).2.1 ≠ (F_TK b).2.1 := by decide +kernel
theorem t_TK_ok : ∀ k, k < 12 → parseFieldDescriptor (F_TK k).2.2.1 = some (t_TK k) := by decide +kernel
theorem k_lay_TK : ∀ w ∈ u_ws R_TK F_TK 12, w ∈ k_ws := by
  show ∀ w ∈ ([(Jvm.Cond.laysFinal "TypeKernel" "TypeKernel" "stack" "[LTypeKernel$Judgement;"), (Jvm.Cond.lays "TypeKernel" "TypeKernel" "judgementCount" "I"), (Jvm.Cond.laysFinal "TypeKernel" "TypeKernel" "context" "[LTypeKernel$Row;"), (Jvm.Cond.lays "TypeKernel" "TypeKernel" "entryCount" "I"), (Jvm.Cond.laysFinal "TypeKernel" "TypeKernel" "constantTypes" "[LTypeKernel$Row;"), (Jvm.Cond.laysFinal "TypeKernel" "TypeKernel" "isDefinable" "[Z"), (Jvm.Cond.lays "TypeKernel" "TypeKernel" "constantCount" "I"), (Jvm.Cond.laysFinal "TypeKernel" "TypeKernel" "rewriter" "LTypeKernel$Rewriter;"), (Jvm.Cond.laysFinal "TypeKernel" "TypeKernel" "lowerForm" "LTypeKernel$Row;"), (Jvm.Cond.laysFinal "TypeKernel" "TypeKernel" "upperForm" "LTypeKernel$Row;"), (Jvm.Cond.laysFinal "TypeKernel" "TypeKernel" "newTerm" "LTypeKernel$Row;"), (Jvm.Cond.laysFinal "TypeKernel" "TypeKernel" "newType" "LTypeKernel$Row;")] : List Cond), w ∈ k_ws
  exact List.forall_mem_cons.mpr ⟨k_in 147 (by decide +kernel) rfl, List.forall_mem_cons.mpr ⟨k_in 149 (by decide +kernel) rfl, List.forall_mem_cons.mpr ⟨k_in 151 (by decide +kernel) rfl, List.forall_mem_cons.mpr ⟨k_in 153 (by decide +kernel) rfl, List.forall_mem_cons.mpr ⟨k_in 155 (by decide +kernel) rfl, List.forall_mem_cons.mpr ⟨k_in 157 (by decide +kernel) rfl, List.forall_mem_cons.mpr ⟨k_in 159 (by decide +kernel) rfl, List.forall_mem_cons.mpr ⟨k_in 161 (by decide +kernel) rfl, List.forall_mem_cons.mpr ⟨k_in 163 (by decide +kernel) rfl, List.forall_mem_cons.mpr ⟨k_in 165 (by decide +kernel) rfl, List.forall_mem_cons.mpr ⟨k_in 167 (by decide +kernel) rfl, List.forall_mem_cons.mpr ⟨k_in 169 (by decide +kernel) rfl, fun _ h => absurd h List.not_mem_nil⟩⟩⟩⟩⟩⟩⟩⟩⟩⟩⟩⟩
def R_Md : String := "TypeKernelModel"
def F_Md : u_T := fun k => match k with
  | 0 => ("TypeKernelModel", "thrown", "I", false)
  | 1 => ("TypeKernelModel", "cells", "[I", true)
  | 2 => ("TypeKernelModel", "size", "[I", true)
  | 3 => ("TypeKernelModel", "stack", "I", false)
  | 4 => ("TypeKernelModel", "madeWith", "[I", true)
  | 5 => ("TypeKernelModel", "context", "I", false)
  | 6 => ("TypeKernelModel", "constants", "I", false)
  | 7 => ("TypeKernelModel", "definable", "[Z", true)
  | 8 => ("TypeKernelModel", "rules", "I", false)
  | 9 => ("TypeKernelModel", "variables", "[I", true)
  | 10 => ("TypeKernelModel", "tooLong", "Z", false)
  | 11 => ("TypeKernelModel", "depth", "[I", true)
  | 12 => ("TypeKernelModel", "depthRight", "[I", true)
  | 13 => ("TypeKernelModel", "pending", "[I", true)
  | 14 => ("TypeKernelModel", "from", "[I", true)
  | _ => ("TypeKernelModel", "to", "[I", true)
def t_Md : Nat → FieldType := fun k => match k with
  | 0 => .int
  | 1 => .array .int
  | 2 => .array .int
  | 3 => .int
  | 4 => .array .int
  | 5 => .int
  | 6 => .int
  | 7 => .array .boolean
  | 8 => .int
  | 9 => .array .int
  | 10 => .boolean
  | 11 => .array .int
  | 12 => .array .int
  | 13 => .array .int
  | 14 => .array .int
  | _ => .array .int
theorem n_Md : ∀ a, a < 16 → ∀ b, b < 16 → a ≠ b → (F_Md a).2.1 ≠ (F_Md b).2.1 := by decide +kernel
theorem t_Md_ok : ∀ k, k < 16 → parseFieldDescriptor (F_Md k).2.2.1 = some (t_Md k) := by decide +kernel
theorem k_lay_Md : ∀ w ∈ u_ws R_Md F_Md 16, w ∈ k_ws := by
  show ∀ w ∈ ([(Jvm.Cond.lays "TypeKernelModel" "TypeKernelModel" "thrown" "I"), (Jvm.Cond.laysFinal "TypeKernelModel" "TypeKernelModel" "cells" "[I"), (Jvm.Cond.laysFinal "TypeKernelModel" "TypeKernelModel" "size" "[I"), (Jvm.Cond.lays "TypeKernelModel" "TypeKernelModel" "stack" "I"), (Jvm.Cond.laysFinal "TypeKernelModel" "TypeKernelModel" "madeWith" "[I"), (Jvm.Cond.lays "TypeKernelModel" "TypeKernelModel" "context" "I"), (Jvm.Cond.lays "TypeKernelModel" "TypeKernelModel" "constants" "I"), (Jvm.Cond.laysFinal "TypeKernelModel" "TypeKernelModel" "definable" "[Z"), (Jvm.Cond.lays "TypeKernelModel" "TypeKernelModel" "rules" "I"), (Jvm.Cond.laysFinal "TypeKernelModel" "TypeKernelModel" "variables" "[I"), (Jvm.Cond.lays "TypeKernelModel" "TypeKernelModel" "tooLong" "Z"), (Jvm.Cond.laysFinal "TypeKernelModel" "TypeKernelModel" "depth" "[I"), (Jvm.Cond.laysFinal "TypeKernelModel" "TypeKernelModel" "depthRight" "[I"), (Jvm.Cond.laysFinal "TypeKernelModel" "TypeKernelModel" "pending" "[I"), (Jvm.Cond.laysFinal "TypeKernelModel" "TypeKernelModel" "from" "[I"), (Jvm.Cond.laysFinal "TypeKernelModel" "TypeKernelModel" "to" "[I")] : List Cond), w ∈ k_ws
  exact List.forall_mem_cons.mpr ⟨k_in 611 (by decide +kernel) rfl, List.forall_mem_cons.mpr ⟨k_in 613 (by decide +kernel) rfl, List.forall_mem_cons.mpr ⟨k_in 615 (by decide +kernel) rfl, List.forall_mem_cons.mpr ⟨k_in 617 (by decide +kernel) rfl, List.forall_mem_cons.mpr ⟨k_in 619 (by decide +kernel) rfl, List.forall_mem_cons.mpr ⟨k_in 621 (by decide +kernel) rfl, List.forall_mem_cons.mpr ⟨k_in 623 (by decide +kernel) rfl, List.forall_mem_cons.mpr ⟨k_in 625 (by decide +kernel) rfl, List.forall_mem_cons.mpr ⟨k_in 627 (by decide +kernel) rfl, List.forall_mem_cons.mpr ⟨k_in 629 (by decide +kernel) rfl, List.forall_mem_cons.mpr ⟨k_in 631 (by decide +kernel) rfl, List.forall_mem_cons.mpr ⟨k_in 633 (by decide +kernel) rfl, List.forall_mem_cons.mpr ⟨k_in 635 (by decide +kernel) rfl, List.forall_mem_cons.mpr ⟨k_in 637 (by decide +kernel) rfl, List.forall_mem_cons.mpr ⟨k_in 639 (by decide +kernel) rfl, List.forall_mem_cons.mpr ⟨k_in 641 (by decide +kernel) rfl, fun _ h => absurd h List.not_mem_nil⟩⟩⟩⟩⟩⟩⟩⟩⟩⟩⟩⟩⟩⟩⟩⟩
abbrev k_cl : List vw_C := [(R_Row, F_Row, 2), (R_Jd, F_Jd, 3), (R_Ru, F_Ru, 3), (R_Wk, F_Wk, 2), (R_Rw, F_Rw, 7), (R_TK, F_TK, 12), (R_Md, F_Md, 16)]
/-- the constants of this claim -/
def z_ok (G : z_G) : Prop := G.Ts = k_ws ∧ G.cl = k_cl ∧ (G.cc = 1000 ∧ G.ss = 20000) ∧ ∃ c0 c1 c2 c3 c4 c5 : ClassId, G.tys = [(c0, .int), (c1, .long), (c2, .boolean), (c3, .object "TypeKernel$Row"), (c4, .object "TypeKernel$Judgement"), (c5, .object "TypeKernel$Rule")]
section ZN
variable {G : z_G}
theorem z_ok.mem (HG : z_ok G) {w : Cond} (h : w ∈ k_ws) : w ∈ G.Ts := by rw [HG.1]; exact h
theorem ty0 (HG : z_ok G) : G.tys[0]? = some (G.ca 0, .int) := by
  obtain ⟨-, -, -, c0, c1, c2, c3, c4, c5, h⟩ := HG
  simp [z_G.ca, h]
theorem ty1 (HG : z_ok G) : G.tys[1]? = some (G.ca 1, .long) := by
  obtain ⟨-, -, -, c0, c1, c2, c3, c4, c5, h⟩ := HG
  simp [z_G.ca, h]
theorem ty2 (HG : z_ok G) : G.tys[2]? = some (G.ca 2, .boolean) := by
  obtain ⟨-, -, -, c0, c1, c2, c3, c4, c5, h⟩ := HG
  simp [z_G.ca, h]
theorem ty3 (HG : z_ok G) : G.tys[3]? = some (G.ca 3, .object "TypeKernel$Row") := by
  obtain ⟨-, -, -, c0, c1, c2, c3, c4, c5, h⟩ := HG
  simp [z_G.ca, h]
theorem ty4 (HG : z_ok G) : G.tys[4]? = some (G.ca 4, .object "TypeKernel$Judgement") := by
  obtain ⟨-, -, -, c0, c1, c2, c3, c4, c5, h⟩ := HG
  simp [z_G.ca, h]
theorem ty5 (HG : z_ok G) : G.tys[5]? = some (G.ca 5, .object "TypeKernel$Rule") := by
  obtain ⟨-, -, -, c0, c1, c2, c3, c4, c5, h⟩ := HG
  simp [z_G.ca, h]
theorem cl_Row (HG : z_ok G) : G.cl[0]? = some (R_Row, F_Row, 2) := by rw [HG.2.1]; rfl
theorem K_Row (HG : z_ok G) : z_cls G 0 R_Row F_Row 2 t_Row := ⟨cl_Row HG, fun w h => HG.mem (k_lay_Row w h), t_Row_ok, n_Row⟩
theorem cl_Jd (HG : z_ok G) : G.cl[1]? = some (R_Jd, F_Jd, 3) := by rw [HG.2.1]; rfl
theorem K_Jd (HG : z_ok G) : z_cls G 1 R_Jd F_Jd 3 t_Jd := ⟨cl_Jd HG, fun w h => HG.mem (k_lay_Jd w h), t_Jd_ok, n_Jd⟩
theorem cl_Ru (HG : z_ok G) : G.cl[2]? = some (R_Ru, F_Ru, 3) := by rw [HG.2.1]; rfl
theorem K_Ru (HG : z_ok G) : z_cls G 2 R_Ru F_Ru 3 t_Ru := ⟨cl_Ru HG, fun w h => HG.mem (k_lay_Ru w h), t_Ru_ok, n_Ru⟩
theorem cl_Wk (HG : z_ok G) : G.cl[3]? = some (R_Wk, F_Wk, 2) := by rw [HG.2.1]; rfl
theorem K_Wk (HG : z_ok G) : z_cls G 3 R_Wk F_Wk 2 t_Wk := ⟨cl_Wk HG, fun w h => HG.mem (k_lay_Wk w h), t_Wk_ok, n_Wk⟩
theorem cl_Rw (HG : z_ok G) : G.cl[4]? = some (R_Rw, F_Rw, 7) := by rw [HG.2.1]; rfl
theorem K_Rw (HG : z_ok G) : z_cls G 4 R_Rw F_Rw 7 t_Rw := ⟨cl_Rw HG, fun w h => HG.mem (k_lay_Rw w h), t_Rw_ok, n_Rw⟩
theorem cl_TK (HG : z_ok G) : G.cl[5]? = some (R_TK, F_TK, 12) := by rw [HG.2.1]; rfl
theorem K_TK (HG : z_ok G) : z_cls G 5 R_TK F_TK 12 t_TK := ⟨cl_TK HG, fun w h => HG.mem (k_lay_TK w h), t_TK_ok, n_TK⟩
theorem cl_Md (HG : z_ok G) : G.cl[6]? = some (R_Md, F_Md, 16) := by rw [HG.2.1]; rfl
theorem K_Md (HG : z_ok G) : z_cls G 6 R_Md F_Md 16 t_Md := ⟨cl_Md HG, fun w h => HG.mem (k_lay_Md w h), t_Md_ok, n_Md⟩
abbrev m_TK_init : z_M := (({ cls := "TypeKernel", name := "<init>", desc := "()V" } : Jvm.MethodName), prog_1_method_1_code, 2, (Option.none : Option Jvm.ClassFile.FieldType), [])
theorem cd_TK_init (HG : z_ok G) : z_cd G m_TK_init := Or.inl ⟨rfl, HG.mem (k_in 21 (by decide +kernel) rfl)⟩
abbrev m_Rw_init : z_M := (({ cls := "TypeKernel$Rewriter", name := "<init>", desc := "()V" } : Jvm.MethodName), prog_3_method_1_code, 2, (Option.none : Option Jvm.ClassFile.FieldType), [])
theorem cd_Rw_init (HG : z_ok G) : z_cd G m_Rw_init := Or.inl ⟨rfl, HG.mem (k_in 33 (by decide +kernel) rfl)⟩
abbrev m_Row_init : z_M := (({ cls := "TypeKernel$Row", name := "<init>", desc := "()V" } : Jvm.MethodName), prog_4_method_1_code, 1, (Option.none : Option Jvm.ClassFile.FieldType), [])
theorem cd_Row_init (HG : z_ok G) : z_cd G m_Row_init := Or.inl ⟨rfl, HG.mem (k_in 41 (by decide +kernel) rfl)⟩
abbrev m_Wk_init : z_M := (({ cls := "TypeKernel$Walk", name := "<init>", desc := "()V" } : Jvm.MethodName), prog_6_method_1_code, 1, (Option.none : Option Jvm.ClassFile.FieldType), [])
theorem cd_Wk_init (HG : z_ok G) : z_cd G m_Wk_init := Or.inl ⟨rfl, HG.mem (k_in 58 (by decide +kernel) rfl)⟩
abbrev m_Ru_init : z_M := (({ cls := "TypeKernel$Rule", name := "<init>", desc := "()V" } : Jvm.MethodName), prog_5_method_1_code, 1, (Option.none : Option Jvm.ClassFile.FieldType), [])
theorem cd_Ru_init (HG : z_ok G) : z_cd G m_Ru_init := Or.inl ⟨rfl, HG.mem (k_in 70 (by decide +kernel) rfl)⟩
abbrev m_Jd_init : z_M := (({ cls := "TypeKernel$Judgement", name := "<init>", desc := "()V" } : Jvm.MethodName), prog_2_method_1_code, 1, (Option.none : Option Jvm.ClassFile.FieldType), [])
theorem cd_Jd_init (HG : z_ok G) : z_cd G m_Jd_init := Or.inl ⟨rfl, HG.mem (k_in 118 (by decide +kernel) rfl)⟩
abbrev m_TK_drop : z_M := (({ cls := "TypeKernel", name := "drop", desc := "()Z" } : Jvm.MethodName), prog_1_method_13_code, 1, (Option.some Jvm.ClassFile.FieldType.boolean), [])
theorem cd_TK_drop (HG : z_ok G) : z_cd G m_TK_drop := Or.inl ⟨rfl, HG.mem (k_in 175 (by decide +kernel) rfl)⟩
abbrev m_TK_leave : z_M := (({ cls := "TypeKernel", name := "leave", desc := "()Z" } : Jvm.MethodName), prog_1_method_14_code, 1, (Option.some Jvm.ClassFile.FieldType.boolean), [])
theorem cd_TK_leave (HG : z_ok G) : z_cd G m_TK_leave := Or.inl ⟨rfl, HG.mem (k_in 179 (by decide +kernel) rfl)⟩
abbrev m_TK_presentCount : z_M := (({ cls := "TypeKernel", name := "presentCount", desc := "()I" } : Jvm.MethodName), prog_1_method_30_code, 3, (Option.some Jvm.ClassFile.FieldType.int), [])
theorem cd_TK_presentCount (HG : z_ok G) : z_cd G m_TK_presentCount := Or.inl ⟨rfl, HG.mem (k_in 183 (by decide +kernel) rfl)⟩
abbrev m_TK_counts : z_M := (({ cls := "TypeKernel", name := "counts", desc := "()I" } : Jvm.MethodName), prog_1_method_15_code, 1, (Option.some Jvm.ClassFile.FieldType.int), [])
theorem cd_TK_counts (HG : z_ok G) : z_cd G m_TK_counts := Or.inl ⟨rfl, HG.mem (k_in 187 (by decide +kernel) rfl)⟩
abbrev m_TK_judgement : z_M := (({ cls := "TypeKernel", name := "judgement", desc := "(IZI)I" } : Jvm.MethodName), prog_1_method_16_code, 5, (Option.some Jvm.ClassFile.FieldType.int), [])
theorem cd_TK_judgement (HG : z_ok G) : z_cd G m_TK_judgement := Or.inl ⟨rfl, HG.mem (k_in 191 (by decide +kernel) rfl)⟩
abbrev m_TK_isJudgement : z_M := (({ cls := "TypeKernel", name := "isJudgement", desc := "(I)Z" } : Jvm.MethodName), prog_1_method_23_code, 2, (Option.some Jvm.ClassFile.FieldType.boolean), [])
theorem cd_TK_isJudgement (HG : z_ok G) : z_cd G m_TK_isJudgement := Or.inl ⟨rfl, HG.mem (k_in 195 (by decide +kernel) rfl)⟩
abbrev m_TK_judgementAt : z_M := (({ cls := "TypeKernel", name := "judgementAt", desc := "(I)LTypeKernel$Judgement;" } : Jvm.MethodName), prog_1_method_25_code, 2, (Option.some (Jvm.ClassFile.FieldType.object "TypeKernel$Judgement")), [])
theorem cd_TK_judgementAt (HG : z_ok G) : z_cd G m_TK_judgementAt := Or.inl ⟨rfl, HG.mem (k_in 199 (by decide +kernel) rfl)⟩
abbrev m_Row_at : z_M := (({ cls := "TypeKernel$Row", name := "at", desc := "(I)I" } : Jvm.MethodName), prog_4_method_2_code, 2, (Option.some Jvm.ClassFile.FieldType.int), [])
theorem cd_Row_at (HG : z_ok G) : z_cd G m_Row_at := Or.inl ⟨rfl, HG.mem (k_in 203 (by decide +kernel) rfl)⟩
abbrev m_TK_made : z_M := (({ cls := "TypeKernel", name := "made", desc := "(I)I" } : Jvm.MethodName), prog_1_method_17_code, 2, (Option.some Jvm.ClassFile.FieldType.int), [])
theorem cd_TK_made (HG : z_ok G) : z_cd G m_TK_made := Or.inl ⟨rfl, HG.mem (k_in 207 (by decide +kernel) rfl)⟩
abbrev m_TK_entry : z_M := (({ cls := "TypeKernel", name := "entry", desc := "(II)I" } : Jvm.MethodName), prog_1_method_18_code, 3, (Option.some Jvm.ClassFile.FieldType.int), [])
theorem cd_TK_entry (HG : z_ok G) : z_cd G m_TK_entry := Or.inl ⟨rfl, HG.mem (k_in 211 (by decide +kernel) rfl)⟩
abbrev m_TK_isEntry : z_M := (({ cls := "TypeKernel", name := "isEntry", desc := "(I)Z" } : Jvm.MethodName), prog_1_method_22_code, 2, (Option.some Jvm.ClassFile.FieldType.boolean), [])
theorem cd_TK_isEntry (HG : z_ok G) : z_cd G m_TK_isEntry := Or.inl ⟨rfl, HG.mem (k_in 215 (by decide +kernel) rfl)⟩
abbrev m_TK_entryAt : z_M := (({ cls := "TypeKernel", name := "entryAt", desc := "(I)LTypeKernel$Row;" } : Jvm.MethodName), prog_1_method_24_code, 2, (Option.some (Jvm.ClassFile.FieldType.object "TypeKernel$Row")), [])
theorem cd_TK_entryAt (HG : z_ok G) : z_cd G m_TK_entryAt := Or.inl ⟨rfl, HG.mem (k_in 219 (by decide +kernel) rfl)⟩
abbrev m_TK_type : z_M := (({ cls := "TypeKernel", name := "type", desc := "(II)I" } : Jvm.MethodName), prog_1_method_19_code, 3, (Option.some Jvm.ClassFile.FieldType.int), [])
theorem cd_TK_type (HG : z_ok G) : z_cd G m_TK_type := Or.inl ⟨rfl, HG.mem (k_in 223 (by decide +kernel) rfl)⟩
abbrev m_TK_isConstant : z_M := (({ cls := "TypeKernel", name := "isConstant", desc := "(I)Z" } : Jvm.MethodName), prog_1_method_21_code, 2, (Option.some Jvm.ClassFile.FieldType.boolean), [])
theorem cd_TK_isConstant (HG : z_ok G) : z_cd G m_TK_isConstant := Or.inl ⟨rfl, HG.mem (k_in 227 (by decide +kernel) rfl)⟩
abbrev m_TK_side : z_M := (({ cls := "TypeKernel", name := "side", desc := "(IZI)I" } : Jvm.MethodName), prog_1_method_20_code, 5, (Option.some Jvm.ClassFile.FieldType.int), [])
theorem cd_TK_side (HG : z_ok G) : z_cd G m_TK_side := Or.inl ⟨rfl, HG.mem (k_in 231 (by decide +kernel) rfl)⟩
abbrev m_Lw_sort : z_M := (({ cls := "TypeKernelLaw", name := "sort", desc := "(LTypeKernel;)I" } : Jvm.MethodName), method_3_code, 2, (Option.some Jvm.ClassFile.FieldType.int), [((0 : Nat), (4 : Nat), (7 : Nat), (12 : Nat))])
theorem cd_Lw_sort (HG : z_ok G) : z_cd G m_Lw_sort := Or.inr (HG.mem (k_in 234 (by decide +kernel) rfl))
abbrev m_TK_sort : z_M := (({ cls := "TypeKernel", name := "sort", desc := "()V" } : Jvm.MethodName), prog_1_method_2_code, 2, (Option.none : Option Jvm.ClassFile.FieldType), [])
theorem cd_TK_sort (HG : z_ok G) : z_cd G m_TK_sort := Or.inl ⟨rfl, HG.mem (k_in 239 (by decide +kernel) rfl)⟩
abbrev m_TK_addJudgement : z_M := (({ cls := "TypeKernel", name := "addJudgement", desc := "()LTypeKernel$Judgement;" } : Jvm.MethodName), prog_1_method_26_code, 2, (Option.some (Jvm.ClassFile.FieldType.object "TypeKernel$Judgement")), [])
theorem cd_TK_addJudgement (HG : z_ok G) : z_cd G m_TK_addJudgement := Or.inl ⟨rfl, HG.mem (k_in 243 (by decide +kernel) rfl)⟩
abbrev m_Row_become : z_M := (({ cls := "TypeKernel$Row", name := "become", desc := "(I)V" } : Jvm.MethodName), prog_4_method_7_code, 2, (Option.none : Option Jvm.ClassFile.FieldType), [])
theorem cd_Row_become (HG : z_ok G) : z_cd G m_Row_become := Or.inl ⟨rfl, HG.mem (k_in 312 (by decide +kernel) rfl)⟩
abbrev m_Row_clear : z_M := (({ cls := "TypeKernel$Row", name := "clear", desc := "()V" } : Jvm.MethodName), prog_4_method_4_code, 1, (Option.none : Option Jvm.ClassFile.FieldType), [])
theorem cd_Row_clear (HG : z_ok G) : z_cd G m_Row_clear := Or.inl ⟨rfl, HG.mem (k_in 316 (by decide +kernel) rfl)⟩
abbrev m_Row_append : z_M := (({ cls := "TypeKernel$Row", name := "append", desc := "(I)V" } : Jvm.MethodName), prog_4_method_5_code, 2, (Option.none : Option Jvm.ClassFile.FieldType), [])
theorem cd_Row_append (HG : z_ok G) : z_cd G m_Row_append := Or.inl ⟨rfl, HG.mem (k_in 320 (by decide +kernel) rfl)⟩
abbrev m_Lw_constant : z_M := (({ cls := "TypeKernelLaw", name := "constant", desc := "(LTypeKernel;I)I" } : Jvm.MethodName), method_4_code, 3, (Option.some Jvm.ClassFile.FieldType.int), [((0 : Nat), (5 : Nat), (8 : Nat), (18 : Nat)), ((0 : Nat), (5 : Nat), (11 : Nat), (12 : Nat))])
theorem cd_Lw_constant (HG : z_ok G) : z_cd G m_Lw_constant := Or.inr (HG.mem (k_in 338 (by decide +kernel) rfl))
abbrev m_TK_constant : z_M := (({ cls := "TypeKernel", name := "constant", desc := "(I)V" } : Jvm.MethodName), prog_1_method_3_code, 3, (Option.none : Option Jvm.ClassFile.FieldType), [])
theorem cd_TK_constant (HG : z_ok G) : z_cd G m_TK_constant := Or.inl ⟨rfl, HG.mem (k_in 343 (by decide +kernel) rfl)⟩
abbrev m_Row_copy : z_M := (({ cls := "TypeKernel$Row", name := "copy", desc := "(LTypeKernel$Row;)V" } : Jvm.MethodName), prog_4_method_8_code, 2, (Option.none : Option Jvm.ClassFile.FieldType), [])
theorem cd_Row_copy (HG : z_ok G) : z_cd G m_Row_copy := Or.inl ⟨rfl, HG.mem (k_in 362 (by decide +kernel) rfl)⟩
abbrev m_Lw_variable : z_M := (({ cls := "TypeKernelLaw", name := "variable", desc := "(LTypeKernel;I)I" } : Jvm.MethodName), method_5_code, 3, (Option.some Jvm.ClassFile.FieldType.int), [((0 : Nat), (5 : Nat), (8 : Nat), (18 : Nat)), ((0 : Nat), (5 : Nat), (11 : Nat), (12 : Nat))])
theorem cd_Lw_variable (HG : z_ok G) : z_cd G m_Lw_variable := Or.inr (HG.mem (k_in 368 (by decide +kernel) rfl))
abbrev m_TK_variable : z_M := (({ cls := "TypeKernel", name := "variable", desc := "(I)V" } : Jvm.MethodName), prog_1_method_4_code, 3, (Option.none : Option Jvm.ClassFile.FieldType), [])
theorem cd_TK_variable (HG : z_ok G) : z_cd G m_TK_variable := Or.inl ⟨rfl, HG.mem (k_in 372 (by decide +kernel) rfl)⟩
abbrev m_Rw_appendLifted : z_M := (({ cls := "TypeKernel$Rewriter", name := "appendLifted", desc := "(LTypeKernel$Row;IILTypeKernel$Row;)V" } : Jvm.MethodName), prog_3_method_11_code, 8, (Option.none : Option Jvm.ClassFile.FieldType), [])
theorem cd_Rw_appendLifted (HG : z_ok G) : z_cd G m_Rw_appendLifted := Or.inl ⟨rfl, HG.mem (k_in 377 (by decide +kernel) rfl)⟩
abbrev m_Wk_begin : z_M := (({ cls := "TypeKernel$Walk", name := "begin", desc := "()V" } : Jvm.MethodName), prog_6_method_2_code, 1, (Option.none : Option Jvm.ClassFile.FieldType), [])
theorem cd_Wk_begin (HG : z_ok G) : z_cd G m_Wk_begin := Or.inl ⟨rfl, HG.mem (k_in 381 (by decide +kernel) rfl)⟩
abbrev m_Wk_goesOn : z_M := (({ cls := "TypeKernel$Walk", name := "goesOn", desc := "()Z" } : Jvm.MethodName), prog_6_method_3_code, 1, (Option.some Jvm.ClassFile.FieldType.boolean), [])
theorem cd_Wk_goesOn (HG : z_ok G) : z_cd G m_Wk_goesOn := Or.inl ⟨rfl, HG.mem (k_in 385 (by decide +kernel) rfl)⟩
abbrev m_Wk_depthOf : z_M := (({ cls := "TypeKernel$Walk", name := "depthOf", desc := "(I)I" } : Jvm.MethodName), prog_6_method_4_code, 3, (Option.some Jvm.ClassFile.FieldType.int), [])
theorem cd_Wk_depthOf (HG : z_ok G) : z_cd G m_Wk_depthOf := Or.inl ⟨rfl, HG.mem (k_in 390 (by decide +kernel) rfl)⟩
abbrev m_Lw_apply : z_M := (({ cls := "TypeKernelLaw", name := "apply", desc := "(LTypeKernel;)I" } : Jvm.MethodName), method_6_code, 2, (Option.some Jvm.ClassFile.FieldType.int), [((0 : Nat), (4 : Nat), (7 : Nat), (26 : Nat)), ((0 : Nat), (4 : Nat), (10 : Nat), (28 : Nat)), ((0 : Nat), (4 : Nat), (13 : Nat), (30 : Nat))])
theorem cd_Lw_apply (HG : z_ok G) : z_cd G m_Lw_apply := Or.inr (HG.mem (k_in 394 (by decide +kernel) rfl))
abbrev m_TK_apply : z_M := (({ cls := "TypeKernel", name := "apply", desc := "()V" } : Jvm.MethodName), prog_1_method_5_code, 4, (Option.none : Option Jvm.ClassFile.FieldType), [])
theorem cd_TK_apply (HG : z_ok G) : z_cd G m_TK_apply := Or.inl ⟨rfl, HG.mem (k_in 401 (by decide +kernel) rfl)⟩
abbrev m_TK_presentJudgement : z_M := (({ cls := "TypeKernel", name := "presentJudgement", desc := "(I)LTypeKernel$Judgement;" } : Jvm.MethodName), prog_1_method_28_code, 3, (Option.some (Jvm.ClassFile.FieldType.object "TypeKernel$Judgement")), [])
theorem cd_TK_presentJudgement (HG : z_ok G) : z_cd G m_TK_presentJudgement := Or.inl ⟨rfl, HG.mem (k_in 405 (by decide +kernel) rfl)⟩
abbrev m_TK_neededJudgement : z_M := (({ cls := "TypeKernel", name := "neededJudgement", desc := "(I)LTypeKernel$Judgement;" } : Jvm.MethodName), prog_1_method_27_code, 2, (Option.some (Jvm.ClassFile.FieldType.object "TypeKernel$Judgement")), [])
theorem cd_TK_neededJudgement (HG : z_ok G) : z_cd G m_TK_neededJudgement := Or.inl ⟨rfl, HG.mem (k_in 409 (by decide +kernel) rfl)⟩
abbrev m_Rw_normalize : z_M := (({ cls := "TypeKernel$Rewriter", name := "normalize", desc := "(LTypeKernel$Row;LTypeKernel$Row;)I" } : Jvm.MethodName), prog_3_method_3_code, 4, (Option.some Jvm.ClassFile.FieldType.int), [])
theorem cd_Rw_normalize (HG : z_ok G) : z_cd G m_Rw_normalize := Or.inl ⟨rfl, HG.mem (k_in 428 (by decide +kernel) rfl)⟩
abbrev m_Rw_step : z_M := (({ cls := "TypeKernel$Rewriter", name := "step", desc := "()Z" } : Jvm.MethodName), prog_3_method_4_code, 3, (Option.some Jvm.ClassFile.FieldType.boolean), [])
theorem cd_Rw_step (HG : z_ok G) : z_cd G m_Rw_step := Or.inl ⟨rfl, HG.mem (k_in 433 (by decide +kernel) rfl)⟩
abbrev m_Rw_doLambda : z_M := (({ cls := "TypeKernel$Rewriter", name := "doLambda", desc := "(I)V" } : Jvm.MethodName), prog_3_method_5_code, 4, (Option.none : Option Jvm.ClassFile.FieldType), [])
theorem cd_Rw_doLambda (HG : z_ok G) : z_cd G m_Rw_doLambda := Or.inl ⟨rfl, HG.mem (k_in 437 (by decide +kernel) rfl)⟩
abbrev m_Row_endOf : z_M := (({ cls := "TypeKernel$Row", name := "endOf", desc := "(I)I" } : Jvm.MethodName), prog_4_method_10_code, 4, (Option.some Jvm.ClassFile.FieldType.int), [])
theorem cd_Row_endOf (HG : z_ok G) : z_cd G m_Row_endOf := Or.inl ⟨rfl, HG.mem (k_in 441 (by decide +kernel) rfl)⟩
abbrev m_Row_hasParts : z_M := (({ cls := "TypeKernel$Row", name := "hasParts", desc := "(I)Z" } : Jvm.MethodName), prog_4_method_15_code, 1, (Option.some Jvm.ClassFile.FieldType.boolean), [])
theorem cd_Row_hasParts (HG : z_ok G) : z_cd G m_Row_hasParts := Or.inl ⟨rfl, HG.mem (k_in 444 (by decide +kernel) rfl)⟩
abbrev m_Row_appendPart : z_M := (({ cls := "TypeKernel$Row", name := "appendPart", desc := "(LTypeKernel$Row;II)V" } : Jvm.MethodName), prog_4_method_6_code, 5, (Option.none : Option Jvm.ClassFile.FieldType), [])
theorem cd_Row_appendPart (HG : z_ok G) : z_cd G m_Row_appendPart := Or.inl ⟨rfl, HG.mem (k_in 449 (by decide +kernel) rfl)⟩
abbrev m_Rw_appendBodyWith : z_M := (({ cls := "TypeKernel$Rewriter", name := "appendBodyWith", desc := "(LTypeKernel$Row;ILTypeKernel$Row;ILTypeKernel$Row;)V" } : Jvm.MethodName), prog_3_method_10_code, 9, (Option.none : Option Jvm.ClassFile.FieldType), [])
theorem cd_Rw_appendBodyWith (HG : z_ok G) : z_cd G m_Rw_appendBodyWith := Or.inl ⟨rfl, HG.mem (k_in 454 (by decide +kernel) rfl)⟩
abbrev m_Rw_takeNext : z_M := (({ cls := "TypeKernel$Rewriter", name := "takeNext", desc := "()V" } : Jvm.MethodName), prog_3_method_7_code, 2, (Option.none : Option Jvm.ClassFile.FieldType), [])
theorem cd_Rw_takeNext (HG : z_ok G) : z_cd G m_Rw_takeNext := Or.inl ⟨rfl, HG.mem (k_in 459 (by decide +kernel) rfl)⟩
abbrev m_Rw_firstMatch : z_M := (({ cls := "TypeKernel$Rewriter", name := "firstMatch", desc := "(I)I" } : Jvm.MethodName), prog_3_method_8_code, 3, (Option.some Jvm.ClassFile.FieldType.int), [])
theorem cd_Rw_firstMatch (HG : z_ok G) : z_cd G m_Rw_firstMatch := Or.inl ⟨rfl, HG.mem (k_in 463 (by decide +kernel) rfl)⟩
abbrev m_Rw_matches : z_M := (({ cls := "TypeKernel$Rewriter", name := "matches", desc := "(LTypeKernel$Rule;I)Z" } : Jvm.MethodName), prog_3_method_9_code, 7, (Option.some Jvm.ClassFile.FieldType.boolean), [])
theorem cd_Rw_matches (HG : z_ok G) : z_cd G m_Rw_matches := Or.inl ⟨rfl, HG.mem (k_in 467 (by decide +kernel) rfl)⟩
abbrev m_Rw_doRule : z_M := (({ cls := "TypeKernel$Rewriter", name := "doRule", desc := "(LTypeKernel$Rule;I)V" } : Jvm.MethodName), prog_3_method_6_code, 7, (Option.none : Option Jvm.ClassFile.FieldType), [])
theorem cd_Rw_doRule (HG : z_ok G) : z_cd G m_Rw_doRule := Or.inl ⟨rfl, HG.mem (k_in 471 (by decide +kernel) rfl)⟩
abbrev m_Row_isPart : z_M := (({ cls := "TypeKernel$Row", name := "isPart", desc := "(LTypeKernel$Row;II)Z" } : Jvm.MethodName), prog_4_method_13_code, 5, (Option.some Jvm.ClassFile.FieldType.boolean), [])
theorem cd_Row_isPart (HG : z_ok G) : z_cd G m_Row_isPart := Or.inl ⟨rfl, HG.mem (k_in 493 (by decide +kernel) rfl)⟩
abbrev m_Row_join : z_M := (({ cls := "TypeKernel$Row", name := "join", desc := "(ILTypeKernel$Row;LTypeKernel$Row;)V" } : Jvm.MethodName), prog_4_method_9_code, 4, (Option.none : Option Jvm.ClassFile.FieldType), [])
theorem cd_Row_join (HG : z_ok G) : z_cd G m_Row_join := Or.inl ⟨rfl, HG.mem (k_in 497 (by decide +kernel) rfl)⟩
abbrev m_Lw_assume : z_M := (({ cls := "TypeKernelLaw", name := "assume", desc := "(LTypeKernel;)I" } : Jvm.MethodName), method_7_code, 2, (Option.some Jvm.ClassFile.FieldType.int), [((0 : Nat), (4 : Nat), (7 : Nat), (26 : Nat)), ((0 : Nat), (4 : Nat), (10 : Nat), (12 : Nat)), ((0 : Nat), (4 : Nat), (13 : Nat), (28 : Nat))])
theorem cd_Lw_assume (HG : z_ok G) : z_cd G m_Lw_assume := Or.inr (HG.mem (k_in 503 (by decide +kernel) rfl))
abbrev m_TK_assume : z_M := (({ cls := "TypeKernel", name := "assume", desc := "()V" } : Jvm.MethodName), prog_1_method_6_code, 2, (Option.none : Option Jvm.ClassFile.FieldType), [])
theorem cd_TK_assume (HG : z_ok G) : z_cd G m_TK_assume := Or.inl ⟨rfl, HG.mem (k_in 507 (by decide +kernel) rfl)⟩
abbrev m_Row_is : z_M := (({ cls := "TypeKernel$Row", name := "is", desc := "(I)Z" } : Jvm.MethodName), prog_4_method_3_code, 2, (Option.some Jvm.ClassFile.FieldType.boolean), [])
theorem cd_Row_is (HG : z_ok G) : z_cd G m_Row_is := Or.inl ⟨rfl, HG.mem (k_in 511 (by decide +kernel) rfl)⟩
abbrev m_Lw_lambda : z_M := (({ cls := "TypeKernelLaw", name := "lambda", desc := "(LTypeKernel;)I" } : Jvm.MethodName), method_8_code, 2, (Option.some Jvm.ClassFile.FieldType.int), [((0 : Nat), (4 : Nat), (7 : Nat), (26 : Nat)), ((0 : Nat), (4 : Nat), (10 : Nat), (28 : Nat)), ((0 : Nat), (4 : Nat), (13 : Nat), (30 : Nat))])
theorem cd_Lw_lambda (HG : z_ok G) : z_cd G m_Lw_lambda := Or.inr (HG.mem (k_in 514 (by decide +kernel) rfl))
abbrev m_TK_lambda : z_M := (({ cls := "TypeKernel", name := "lambda", desc := "()V" } : Jvm.MethodName), prog_1_method_7_code, 2, (Option.none : Option Jvm.ClassFile.FieldType), [])
theorem cd_TK_lambda (HG : z_ok G) : z_cd G m_TK_lambda := Or.inl ⟨rfl, HG.mem (k_in 518 (by decide +kernel) rfl)⟩
abbrev m_TK_onlyPresentJudgement : z_M := (({ cls := "TypeKernel", name := "onlyPresentJudgement", desc := "()LTypeKernel$Judgement;" } : Jvm.MethodName), prog_1_method_29_code, 2, (Option.some (Jvm.ClassFile.FieldType.object "TypeKernel$Judgement")), [])
theorem cd_TK_onlyPresentJudgement (HG : z_ok G) : z_cd G m_TK_onlyPresentJudgement := Or.inl ⟨rfl, HG.mem (k_in 522 (by decide +kernel) rfl)⟩
abbrev m_TK_bind : z_M := (({ cls := "TypeKernel", name := "bind", desc := "(LTypeKernel$Judgement;)V" } : Jvm.MethodName), prog_1_method_32_code, 2, (Option.none : Option Jvm.ClassFile.FieldType), [])
theorem cd_TK_bind (HG : z_ok G) : z_cd G m_TK_bind := Or.inl ⟨rfl, HG.mem (k_in 526 (by decide +kernel) rfl)⟩
abbrev m_Lw_product : z_M := (({ cls := "TypeKernelLaw", name := "product", desc := "(LTypeKernel;)I" } : Jvm.MethodName), method_9_code, 2, (Option.some Jvm.ClassFile.FieldType.int), [((0 : Nat), (4 : Nat), (7 : Nat), (26 : Nat)), ((0 : Nat), (4 : Nat), (10 : Nat), (28 : Nat)), ((0 : Nat), (4 : Nat), (13 : Nat), (30 : Nat))])
theorem cd_Lw_product (HG : z_ok G) : z_cd G m_Lw_product := Or.inr (HG.mem (k_in 529 (by decide +kernel) rfl))
abbrev m_TK_product : z_M := (({ cls := "TypeKernel", name := "product", desc := "()V" } : Jvm.MethodName), prog_1_method_8_code, 2, (Option.none : Option Jvm.ClassFile.FieldType), [])
theorem cd_TK_product (HG : z_ok G) : z_cd G m_TK_product := Or.inl ⟨rfl, HG.mem (k_in 533 (by decide +kernel) rfl)⟩
abbrev m_TK_hasSort : z_M := (({ cls := "TypeKernel", name := "hasSort", desc := "(LTypeKernel$Judgement;)Z" } : Jvm.MethodName), prog_1_method_31_code, 1, (Option.some Jvm.ClassFile.FieldType.boolean), [])
theorem cd_TK_hasSort (HG : z_ok G) : z_cd G m_TK_hasSort := Or.inl ⟨rfl, HG.mem (k_in 536 (by decide +kernel) rfl)⟩
abbrev m_Lw_declare : z_M := (({ cls := "TypeKernelLaw", name := "declare", desc := "(LTypeKernel;Z[J)I" } : Jvm.MethodName), method_10_code, 4, (Option.some Jvm.ClassFile.FieldType.int), [((0 : Nat), (9 : Nat), (12 : Nat), (26 : Nat)), ((0 : Nat), (9 : Nat), (15 : Nat), (12 : Nat)), ((0 : Nat), (9 : Nat), (18 : Nat), (28 : Nat))])
theorem cd_Lw_declare (HG : z_ok G) : z_cd G m_Lw_declare := Or.inr (HG.mem (k_in 539 (by decide +kernel) rfl))
abbrev m_TK_declare : z_M := (({ cls := "TypeKernel", name := "declare", desc := "(Z)I" } : Jvm.MethodName), prog_1_method_9_code, 3, (Option.some Jvm.ClassFile.FieldType.int), [])
theorem cd_TK_declare (HG : z_ok G) : z_cd G m_TK_declare := Or.inl ⟨rfl, HG.mem (k_in 543 (by decide +kernel) rfl)⟩
abbrev m_Lw_rule : z_M := (({ cls := "TypeKernelLaw", name := "rule", desc := "(LTypeKernel;[J)I" } : Jvm.MethodName), method_11_code, 3, (Option.some Jvm.ClassFile.FieldType.int), [((0 : Nat), (8 : Nat), (11 : Nat), (26 : Nat)), ((0 : Nat), (8 : Nat), (14 : Nat), (12 : Nat)), ((0 : Nat), (8 : Nat), (17 : Nat), (28 : Nat)), ((0 : Nat), (8 : Nat), (20 : Nat), (30 : Nat))])
theorem cd_Lw_rule (HG : z_ok G) : z_cd G m_Lw_rule := Or.inr (HG.mem (k_in 546 (by decide +kernel) rfl))
abbrev m_TK_rule : z_M := (({ cls := "TypeKernel", name := "rule", desc := "()I" } : Jvm.MethodName), prog_1_method_10_code, 3, (Option.some Jvm.ClassFile.FieldType.int), [])
theorem cd_TK_rule (HG : z_ok G) : z_cd G m_TK_rule := Or.inl ⟨rfl, HG.mem (k_in 550 (by decide +kernel) rfl)⟩
abbrev m_TK_isLeftSide : z_M := (({ cls := "TypeKernel", name := "isLeftSide", desc := "(LTypeKernel$Row;)Z" } : Jvm.MethodName), prog_1_method_33_code, 4, (Option.some Jvm.ClassFile.FieldType.boolean), [])
theorem cd_TK_isLeftSide (HG : z_ok G) : z_cd G m_TK_isLeftSide := Or.inl ⟨rfl, HG.mem (k_in 554 (by decide +kernel) rfl)⟩
abbrev m_Row_headOf : z_M := (({ cls := "TypeKernel$Row", name := "headOf", desc := "(I)I" } : Jvm.MethodName), prog_4_method_11_code, 3, (Option.some Jvm.ClassFile.FieldType.int), [])
theorem cd_Row_headOf (HG : z_ok G) : z_cd G m_Row_headOf := Or.inl ⟨rfl, HG.mem (k_in 558 (by decide +kernel) rfl)⟩
abbrev m_TK_mayStandInPattern : z_M := (({ cls := "TypeKernel", name := "mayStandInPattern", desc := "(LTypeKernel$Row;I)Z" } : Jvm.MethodName), prog_1_method_34_code, 3, (Option.some Jvm.ClassFile.FieldType.boolean), [])
theorem cd_TK_mayStandInPattern (HG : z_ok G) : z_cd G m_TK_mayStandInPattern := Or.inl ⟨rfl, HG.mem (k_in 561 (by decide +kernel) rfl)⟩
abbrev m_Row_countOf : z_M := (({ cls := "TypeKernel$Row", name := "countOf", desc := "(I)I" } : Jvm.MethodName), prog_4_method_12_code, 4, (Option.some Jvm.ClassFile.FieldType.int), [])
theorem cd_Row_countOf (HG : z_ok G) : z_cd G m_Row_countOf := Or.inl ⟨rfl, HG.mem (k_in 565 (by decide +kernel) rfl)⟩
abbrev m_Row_equalsRow : z_M := (({ cls := "TypeKernel$Row", name := "equalsRow", desc := "(LTypeKernel$Row;)Z" } : Jvm.MethodName), prog_4_method_14_code, 2, (Option.some Jvm.ClassFile.FieldType.boolean), [])
theorem cd_Row_equalsRow (HG : z_ok G) : z_cd G m_Row_equalsRow := Or.inl ⟨rfl, HG.mem (k_in 569 (by decide +kernel) rfl)⟩
abbrev m_Rw_addRule : z_M := (({ cls := "TypeKernel$Rewriter", name := "addRule", desc := "(LTypeKernel$Row;LTypeKernel$Row;I)V" } : Jvm.MethodName), prog_3_method_2_code, 5, (Option.none : Option Jvm.ClassFile.FieldType), [])
theorem cd_Rw_addRule (HG : z_ok G) : z_cd G m_Rw_addRule := Or.inl ⟨rfl, HG.mem (k_in 574 (by decide +kernel) rfl)⟩
abbrev m_Lw_normal : z_M := (({ cls := "TypeKernelLaw", name := "normal", desc := "(LTypeKernel;[J)I" } : Jvm.MethodName), method_12_code, 3, (Option.some Jvm.ClassFile.FieldType.int), [((0 : Nat), (8 : Nat), (11 : Nat), (26 : Nat)), ((0 : Nat), (8 : Nat), (14 : Nat), (30 : Nat))])
theorem cd_Lw_normal (HG : z_ok G) : z_cd G m_Lw_normal := Or.inr (HG.mem (k_in 577 (by decide +kernel) rfl))
abbrev m_TK_normal : z_M := (({ cls := "TypeKernel", name := "normal", desc := "()I" } : Jvm.MethodName), prog_1_method_11_code, 3, (Option.some Jvm.ClassFile.FieldType.int), [])
theorem cd_TK_normal (HG : z_ok G) : z_cd G m_TK_normal := Or.inl ⟨rfl, HG.mem (k_in 581 (by decide +kernel) rfl)⟩
abbrev m_Lw_same : z_M := (({ cls := "TypeKernelLaw", name := "same", desc := "(LTypeKernel;[J)I" } : Jvm.MethodName), method_13_code, 3, (Option.some Jvm.ClassFile.FieldType.int), [((0 : Nat), (15 : Nat), (18 : Nat), (26 : Nat)), ((0 : Nat), (15 : Nat), (21 : Nat), (30 : Nat))])
theorem cd_Lw_same (HG : z_ok G) : z_cd G m_Lw_same := Or.inr (HG.mem (k_in 584 (by decide +kernel) rfl))
abbrev m_TK_same : z_M := (({ cls := "TypeKernel", name := "same", desc := "()Z" } : Jvm.MethodName), prog_1_method_12_code, 3, (Option.some Jvm.ClassFile.FieldType.boolean), [])
theorem cd_TK_same (HG : z_ok G) : z_cd G m_TK_same := Or.inl ⟨rfl, HG.mem (k_in 588 (by decide +kernel) rfl)⟩
abbrev m_Md_init : z_M := (({ cls := "TypeKernelModel", name := "<init>", desc := "()V" } : Jvm.MethodName), prog_8_method_1_code, 1, (Option.none : Option Jvm.ClassFile.FieldType), [])
theorem cd_Md_init (HG : z_ok G) : z_cd G m_Md_init := Or.inl ⟨rfl, HG.mem (k_in 593 (by decide +kernel) rfl)⟩
abbrev m_Md_thrown : z_M := (({ cls := "TypeKernelModel", name := "thrown", desc := "()I" } : Jvm.MethodName), prog_8_method_2_code, 1, (Option.some Jvm.ClassFile.FieldType.int), [])
theorem cd_Md_thrown (HG : z_ok G) : z_cd G m_Md_thrown := Or.inl ⟨rfl, HG.mem (k_in 647 (by decide +kernel) rfl)⟩
abbrev m_Md_sort : z_M := (({ cls := "TypeKernelModel", name := "sort", desc := "()V" } : Jvm.MethodName), prog_8_method_24_code, 1, (Option.none : Option Jvm.ClassFile.FieldType), [])
theorem cd_Md_sort (HG : z_ok G) : z_cd G m_Md_sort := Or.inl ⟨rfl, HG.mem (k_in 651 (by decide +kernel) rfl)⟩
abbrev m_Md_push : z_M := (({ cls := "TypeKernelModel", name := "push", desc := "()Z" } : Jvm.MethodName), prog_8_method_23_code, 1, (Option.some Jvm.ClassFile.FieldType.boolean), [])
theorem cd_Md_push (HG : z_ok G) : z_cd G m_Md_push := Or.inl ⟨rfl, HG.mem (k_in 655 (by decide +kernel) rfl)⟩
abbrev m_Md_add : z_M := (({ cls := "TypeKernelModel", name := "add", desc := "(II)V" } : Jvm.MethodName), prog_8_method_5_code, 3, (Option.none : Option Jvm.ClassFile.FieldType), [])
theorem cd_Md_add (HG : z_ok G) : z_cd G m_Md_add := Or.inl ⟨rfl, HG.mem (k_in 659 (by decide +kernel) rfl)⟩
abbrev m_Md_constant : z_M := (({ cls := "TypeKernelModel", name := "constant", desc := "(I)V" } : Jvm.MethodName), prog_8_method_25_code, 2, (Option.none : Option Jvm.ClassFile.FieldType), [])
theorem cd_Md_constant (HG : z_ok G) : z_cd G m_Md_constant := Or.inl ⟨rfl, HG.mem (k_in 663 (by decide +kernel) rfl)⟩
abbrev m_Md_addRow : z_M := (({ cls := "TypeKernelModel", name := "addRow", desc := "(II)V" } : Jvm.MethodName), prog_8_method_6_code, 4, (Option.none : Option Jvm.ClassFile.FieldType), [])
theorem cd_Md_addRow (HG : z_ok G) : z_cd G m_Md_addRow := Or.inl ⟨rfl, HG.mem (k_in 667 (by decide +kernel) rfl)⟩
abbrev m_Md_at : z_M := (({ cls := "TypeKernelModel", name := "at", desc := "(II)I" } : Jvm.MethodName), prog_8_method_4_code, 3, (Option.some Jvm.ClassFile.FieldType.int), [])
theorem cd_Md_at (HG : z_ok G) : z_cd G m_Md_at := Or.inl ⟨rfl, HG.mem (k_in 671 (by decide +kernel) rfl)⟩
abbrev m_Md_variable : z_M := (({ cls := "TypeKernelModel", name := "variable", desc := "(I)V" } : Jvm.MethodName), prog_8_method_26_code, 3, (Option.none : Option Jvm.ClassFile.FieldType), [])
theorem cd_Md_variable (HG : z_ok G) : z_cd G m_Md_variable := Or.inl ⟨rfl, HG.mem (k_in 675 (by decide +kernel) rfl)⟩
abbrev m_Md_measure : z_M := (({ cls := "TypeKernelModel", name := "measure", desc := "(IZ)V" } : Jvm.MethodName), prog_8_method_12_code, 7, (Option.none : Option Jvm.ClassFile.FieldType), [])
theorem cd_Md_measure (HG : z_ok G) : z_cd G m_Md_measure := Or.inl ⟨rfl, HG.mem (k_in 679 (by decide +kernel) rfl)⟩
abbrev m_Md_isPair : z_M := (({ cls := "TypeKernelModel", name := "isPair", desc := "(I)Z" } : Jvm.MethodName), prog_8_method_10_code, 1, (Option.some Jvm.ClassFile.FieldType.boolean), [])
theorem cd_Md_isPair (HG : z_ok G) : z_cd G m_Md_isPair := Or.inl ⟨rfl, HG.mem (k_in 682 (by decide +kernel) rfl)⟩
abbrev m_Md_addShifted : z_M := (({ cls := "TypeKernelModel", name := "addShifted", desc := "(IIIII)V" } : Jvm.MethodName), prog_8_method_13_code, 8, (Option.none : Option Jvm.ClassFile.FieldType), [])
theorem cd_Md_addShifted (HG : z_ok G) : z_cd G m_Md_addShifted := Or.inl ⟨rfl, HG.mem (k_in 686 (by decide +kernel) rfl)⟩
abbrev m_Md_apply : z_M := (({ cls := "TypeKernelModel", name := "apply", desc := "()V" } : Jvm.MethodName), prog_8_method_29_code, 1, (Option.none : Option Jvm.ClassFile.FieldType), [])
theorem cd_Md_apply (HG : z_ok G) : z_cd G m_Md_apply := Or.inl ⟨rfl, HG.mem (k_in 690 (by decide +kernel) rfl)⟩
abbrev m_Md_applied : z_M := (({ cls := "TypeKernelModel", name := "applied", desc := "()I" } : Jvm.MethodName), prog_8_method_27_code, 8, (Option.some Jvm.ClassFile.FieldType.int), [])
theorem cd_Md_applied (HG : z_ok G) : z_cd G m_Md_applied := Or.inl ⟨rfl, HG.mem (k_in 694 (by decide +kernel) rfl)⟩
abbrev m_Md_present : z_M := (({ cls := "TypeKernelModel", name := "present", desc := "(I)Z" } : Jvm.MethodName), prog_8_method_21_code, 2, (Option.some Jvm.ClassFile.FieldType.boolean), [])
theorem cd_Md_present (HG : z_ok G) : z_cd G m_Md_present := Or.inl ⟨rfl, HG.mem (k_in 698 (by decide +kernel) rfl)⟩
abbrev m_Md_normalOf : z_M := (({ cls := "TypeKernelModel", name := "normalOf", desc := "(I)I" } : Jvm.MethodName), prog_8_method_20_code, 2, (Option.some Jvm.ClassFile.FieldType.int), [])
theorem cd_Md_normalOf (HG : z_ok G) : z_cd G m_Md_normalOf := Or.inl ⟨rfl, HG.mem (k_in 702 (by decide +kernel) rfl)⟩
abbrev m_Md_copy : z_M := (({ cls := "TypeKernelModel", name := "copy", desc := "(II)V" } : Jvm.MethodName), prog_8_method_7_code, 3, (Option.none : Option Jvm.ClassFile.FieldType), [])
theorem cd_Md_copy (HG : z_ok G) : z_cd G m_Md_copy := Or.inl ⟨rfl, HG.mem (k_in 706 (by decide +kernel) rfl)⟩
abbrev m_Md_normalise : z_M := (({ cls := "TypeKernelModel", name := "normalise", desc := "()I" } : Jvm.MethodName), prog_8_method_19_code, 4, (Option.some Jvm.ClassFile.FieldType.int), [])
theorem cd_Md_normalise (HG : z_ok G) : z_cd G m_Md_normalise := Or.inl ⟨rfl, HG.mem (k_in 710 (by decide +kernel) rfl)⟩
abbrev m_Md_redex : z_M := (({ cls := "TypeKernelModel", name := "redex", desc := "(I)I" } : Jvm.MethodName), prog_8_method_17_code, 3, (Option.some Jvm.ClassFile.FieldType.int), [])
theorem cd_Md_redex (HG : z_ok G) : z_cd G m_Md_redex := Or.inl ⟨rfl, HG.mem (k_in 714 (by decide +kernel) rfl)⟩
abbrev m_Md_matches : z_M := (({ cls := "TypeKernelModel", name := "matches", desc := "(II)Z" } : Jvm.MethodName), prog_8_method_15_code, 6, (Option.some Jvm.ClassFile.FieldType.boolean), [])
theorem cd_Md_matches (HG : z_ok G) : z_cd G m_Md_matches := Or.inl ⟨rfl, HG.mem (k_in 718 (by decide +kernel) rfl)⟩
abbrev m_Md_end : z_M := (({ cls := "TypeKernelModel", name := "end", desc := "(II)I" } : Jvm.MethodName), prog_8_method_11_code, 5, (Option.some Jvm.ClassFile.FieldType.int), [])
theorem cd_Md_end (HG : z_ok G) : z_cd G m_Md_end := Or.inl ⟨rfl, HG.mem (k_in 722 (by decide +kernel) rfl)⟩
abbrev m_Md_step : z_M := (({ cls := "TypeKernelModel", name := "step", desc := "(II)V" } : Jvm.MethodName), prog_8_method_18_code, 6, (Option.none : Option Jvm.ClassFile.FieldType), [])
theorem cd_Md_step (HG : z_ok G) : z_cd G m_Md_step := Or.inl ⟨rfl, HG.mem (k_in 726 (by decide +kernel) rfl)⟩
abbrev m_Md_addPut : z_M := (({ cls := "TypeKernelModel", name := "addPut", desc := "(IIIIII)V" } : Jvm.MethodName), prog_8_method_14_code, 10, (Option.none : Option Jvm.ClassFile.FieldType), [])
theorem cd_Md_addPut (HG : z_ok G) : z_cd G m_Md_addPut := Or.inl ⟨rfl, HG.mem (k_in 730 (by decide +kernel) rfl)⟩
abbrev m_Md_addResult : z_M := (({ cls := "TypeKernelModel", name := "addResult", desc := "(I)V" } : Jvm.MethodName), prog_8_method_16_code, 6, (Option.none : Option Jvm.ClassFile.FieldType), [])
theorem cd_Md_addResult (HG : z_ok G) : z_cd G m_Md_addResult := Or.inl ⟨rfl, HG.mem (k_in 734 (by decide +kernel) rfl)⟩
abbrev m_Md_putTerm : z_M := (({ cls := "TypeKernelModel", name := "putTerm", desc := "(II)V" } : Jvm.MethodName), prog_8_method_28_code, 6, (Option.none : Option Jvm.ClassFile.FieldType), [])
theorem cd_Md_putTerm (HG : z_ok G) : z_cd G m_Md_putTerm := Or.inl ⟨rfl, HG.mem (k_in 738 (by decide +kernel) rfl)⟩
abbrev m_Md_assume : z_M := (({ cls := "TypeKernelModel", name := "assume", desc := "()V" } : Jvm.MethodName), prog_8_method_30_code, 2, (Option.none : Option Jvm.ClassFile.FieldType), [])
theorem cd_Md_assume (HG : z_ok G) : z_cd G m_Md_assume := Or.inl ⟨rfl, HG.mem (k_in 742 (by decide +kernel) rfl)⟩
abbrev m_Md_isOne : z_M := (({ cls := "TypeKernelModel", name := "isOne", desc := "(II)Z" } : Jvm.MethodName), prog_8_method_9_code, 3, (Option.some Jvm.ClassFile.FieldType.boolean), [])
theorem cd_Md_isOne (HG : z_ok G) : z_cd G m_Md_isOne := Or.inl ⟨rfl, HG.mem (k_in 746 (by decide +kernel) rfl)⟩
abbrev m_Md_lambda : z_M := (({ cls := "TypeKernelModel", name := "lambda", desc := "()V" } : Jvm.MethodName), prog_8_method_34_code, 3, (Option.none : Option Jvm.ClassFile.FieldType), [])
theorem cd_Md_lambda (HG : z_ok G) : z_cd G m_Md_lambda := Or.inl ⟨rfl, HG.mem (k_in 750 (by decide +kernel) rfl)⟩
abbrev m_Md_canBind : z_M := (({ cls := "TypeKernelModel", name := "canBind", desc := "()Z" } : Jvm.MethodName), prog_8_method_32_code, 1, (Option.some Jvm.ClassFile.FieldType.boolean), [])
theorem cd_Md_canBind (HG : z_ok G) : z_cd G m_Md_canBind := Or.inl ⟨rfl, HG.mem (k_in 754 (by decide +kernel) rfl)⟩
abbrev m_Md_alone : z_M := (({ cls := "TypeKernelModel", name := "alone", desc := "()Z" } : Jvm.MethodName), prog_8_method_22_code, 3, (Option.some Jvm.ClassFile.FieldType.boolean), [])
theorem cd_Md_alone (HG : z_ok G) : z_cd G m_Md_alone := Or.inl ⟨rfl, HG.mem (k_in 758 (by decide +kernel) rfl)⟩
abbrev m_Md_binds : z_M := (({ cls := "TypeKernelModel", name := "binds", desc := "(II)Z" } : Jvm.MethodName), prog_8_method_31_code, 3, (Option.some Jvm.ClassFile.FieldType.boolean), [])
theorem cd_Md_binds (HG : z_ok G) : z_cd G m_Md_binds := Or.inl ⟨rfl, HG.mem (k_in 762 (by decide +kernel) rfl)⟩
abbrev m_Md_close : z_M := (({ cls := "TypeKernelModel", name := "close", desc := "()V" } : Jvm.MethodName), prog_8_method_33_code, 1, (Option.none : Option Jvm.ClassFile.FieldType), [])
theorem cd_Md_close (HG : z_ok G) : z_cd G m_Md_close := Or.inl ⟨rfl, HG.mem (k_in 766 (by decide +kernel) rfl)⟩
abbrev m_Md_product : z_M := (({ cls := "TypeKernelModel", name := "product", desc := "()V" } : Jvm.MethodName), prog_8_method_35_code, 2, (Option.none : Option Jvm.ClassFile.FieldType), [])
theorem cd_Md_product (HG : z_ok G) : z_cd G m_Md_product := Or.inl ⟨rfl, HG.mem (k_in 770 (by decide +kernel) rfl)⟩
abbrev m_Md_declare : z_M := (({ cls := "TypeKernelModel", name := "declare", desc := "(Z)I" } : Jvm.MethodName), prog_8_method_36_code, 3, (Option.some Jvm.ClassFile.FieldType.int), [])
theorem cd_Md_declare (HG : z_ok G) : z_cd G m_Md_declare := Or.inl ⟨rfl, HG.mem (k_in 774 (by decide +kernel) rfl)⟩
abbrev m_Md_rule : z_M := (({ cls := "TypeKernelModel", name := "rule", desc := "()I" } : Jvm.MethodName), prog_8_method_39_code, 1, (Option.some Jvm.ClassFile.FieldType.int), [])
theorem cd_Md_rule (HG : z_ok G) : z_cd G m_Md_rule := Or.inl ⟨rfl, HG.mem (k_in 778 (by decide +kernel) rfl)⟩
abbrev m_Md_ruled : z_M := (({ cls := "TypeKernelModel", name := "ruled", desc := "()I" } : Jvm.MethodName), prog_8_method_38_code, 3, (Option.some Jvm.ClassFile.FieldType.int), [])
theorem cd_Md_ruled (HG : z_ok G) : z_cd G m_Md_ruled := Or.inl ⟨rfl, HG.mem (k_in 782 (by decide +kernel) rfl)⟩
abbrev m_Md_isLeft : z_M := (({ cls := "TypeKernelModel", name := "isLeft", desc := "(I)Z" } : Jvm.MethodName), prog_8_method_37_code, 9, (Option.some Jvm.ClassFile.FieldType.boolean), [])
theorem cd_Md_isLeft (HG : z_ok G) : z_cd G m_Md_isLeft := Or.inl ⟨rfl, HG.mem (k_in 786 (by decide +kernel) rfl)⟩
abbrev m_Md_equal : z_M := (({ cls := "TypeKernelModel", name := "equal", desc := "(II)Z" } : Jvm.MethodName), prog_8_method_8_code, 5, (Option.some Jvm.ClassFile.FieldType.boolean), [])
theorem cd_Md_equal (HG : z_ok G) : z_cd G m_Md_equal := Or.inl ⟨rfl, HG.mem (k_in 790 (by decide +kernel) rfl)⟩
abbrev m_Md_normal : z_M := (({ cls := "TypeKernelModel", name := "normal", desc := "()I" } : Jvm.MethodName), prog_8_method_40_code, 2, (Option.some Jvm.ClassFile.FieldType.int), [])
theorem cd_Md_normal (HG : z_ok G) : z_cd G m_Md_normal := Or.inl ⟨rfl, HG.mem (k_in 794 (by decide +kernel) rfl)⟩
abbrev m_Md_raise : z_M := (({ cls := "TypeKernelModel", name := "raise", desc := "(I)I" } : Jvm.MethodName), prog_8_method_3_code, 2, (Option.some Jvm.ClassFile.FieldType.int), [])
theorem cd_Md_raise (HG : z_ok G) : z_cd G m_Md_raise := Or.inl ⟨rfl, HG.mem (k_in 798 (by decide +kernel) rfl)⟩
abbrev m_Md_same : z_M := (({ cls := "TypeKernelModel", name := "same", desc := "()Z" } : Jvm.MethodName), prog_8_method_41_code, 3, (Option.some Jvm.ClassFile.FieldType.boolean), [])
theorem cd_Md_same (HG : z_ok G) : z_cd G m_Md_same := Or.inl ⟨rfl, HG.mem (k_in 802 (by decide +kernel) rfl)⟩
abbrev m_Md_drop : z_M := (({ cls := "TypeKernelModel", name := "drop", desc := "()Z" } : Jvm.MethodName), prog_8_method_42_code, 1, (Option.some Jvm.ClassFile.FieldType.boolean), [])
theorem cd_Md_drop (HG : z_ok G) : z_cd G m_Md_drop := Or.inl ⟨rfl, HG.mem (k_in 806 (by decide +kernel) rfl)⟩
abbrev m_Md_leave : z_M := (({ cls := "TypeKernelModel", name := "leave", desc := "()Z" } : Jvm.MethodName), prog_8_method_43_code, 1, (Option.some Jvm.ClassFile.FieldType.boolean), [])
theorem cd_Md_leave (HG : z_ok G) : z_cd G m_Md_leave := Or.inl ⟨rfl, HG.mem (k_in 810 (by decide +kernel) rfl)⟩
abbrev m_Md_counts : z_M := (({ cls := "TypeKernelModel", name := "counts", desc := "()I" } : Jvm.MethodName), prog_8_method_44_code, 1, (Option.some Jvm.ClassFile.FieldType.int), [])
theorem cd_Md_counts (HG : z_ok G) : z_cd G m_Md_counts := Or.inl ⟨rfl, HG.mem (k_in 814 (by decide +kernel) rfl)⟩
abbrev m_Md_judgement : z_M := (({ cls := "TypeKernelModel", name := "judgement", desc := "(IZI)I" } : Jvm.MethodName), prog_8_method_46_code, 4, (Option.some Jvm.ClassFile.FieldType.int), [])
theorem cd_Md_judgement (HG : z_ok G) : z_cd G m_Md_judgement := Or.inl ⟨rfl, HG.mem (k_in 818 (by decide +kernel) rfl)⟩
abbrev m_Md_seen : z_M := (({ cls := "TypeKernelModel", name := "seen", desc := "(II)I" } : Jvm.MethodName), prog_8_method_45_code, 3, (Option.some Jvm.ClassFile.FieldType.int), [])
theorem cd_Md_seen (HG : z_ok G) : z_cd G m_Md_seen := Or.inl ⟨rfl, HG.mem (k_in 822 (by decide +kernel) rfl)⟩
abbrev m_Md_made : z_M := (({ cls := "TypeKernelModel", name := "made", desc := "(I)I" } : Jvm.MethodName), prog_8_method_47_code, 2, (Option.some Jvm.ClassFile.FieldType.int), [])
theorem cd_Md_made (HG : z_ok G) : z_cd G m_Md_made := Or.inl ⟨rfl, HG.mem (k_in 826 (by decide +kernel) rfl)⟩
abbrev m_Md_entry : z_M := (({ cls := "TypeKernelModel", name := "entry", desc := "(II)I" } : Jvm.MethodName), prog_8_method_48_code, 3, (Option.some Jvm.ClassFile.FieldType.int), [])
theorem cd_Md_entry (HG : z_ok G) : z_cd G m_Md_entry := Or.inl ⟨rfl, HG.mem (k_in 830 (by decide +kernel) rfl)⟩
abbrev m_Md_type : z_M := (({ cls := "TypeKernelModel", name := "type", desc := "(II)I" } : Jvm.MethodName), prog_8_method_49_code, 3, (Option.some Jvm.ClassFile.FieldType.int), [])
theorem cd_Md_type (HG : z_ok G) : z_cd G m_Md_type := Or.inl ⟨rfl, HG.mem (k_in 834 (by decide +kernel) rfl)⟩
abbrev m_Md_side : z_M := (({ cls := "TypeKernelModel", name := "side", desc := "(IZI)I" } : Jvm.MethodName), prog_8_method_50_code, 4, (Option.some Jvm.ClassFile.FieldType.int), [])
theorem cd_Md_side (HG : z_ok G) : z_cd G m_Md_side := Or.inl ⟨rfl, HG.mem (k_in 838 (by decide +kernel) rfl)⟩
abbrev m_Lw_law : z_M := (x, code, maxLocals, ret, [])
theorem L_TK_11 (HG : z_ok G) : z_lnk G "TypeKernel" 11 F_TK 0 := Or.inl (HG.mem (k_in 135 (by decide +kernel) rfl))
theorem L_TK_11K (HG : z_ok G) : z_cls G 5 R_TK F_TK 12 t_TK := K_TK HG
theorem L_TK_15 (HG : z_ok G) : z_lnk G "TypeKernel" 15 F_TK 1 := Or.inl (HG.mem (k_in 136 (by decide +kernel) rfl))
theorem L_TK_15K (HG : z_ok G) : z_cls G 5 R_TK F_TK 12 t_TK := K_TK HG
theorem L_TK_21 (HG : z_ok G) : z_lnk G "TypeKernel" 21 F_TK 2 := Or.inl (HG.mem (k_in 137 (by decide +kernel) rfl))
theorem L_TK_21K (HG : z_ok G) : z_cls G 5 R_TK F_TK 12 t_TK := K_TK HG
theorem L_TK_25 (HG : z_ok G) : z_lnk G "TypeKernel" 25 F_TK 3 := Or.inl (HG.mem (k_in 138 (by decide +kernel) rfl))
theorem L_TK_25K (HG : z_ok G) : z_cls G 5 R_TK F_TK 12 t_TK := K_TK HG
theorem L_TK_28 (HG : z_ok G) : z_lnk G "TypeKernel" 28 F_TK 4 := Or.inl (HG.mem (k_in 139 (by decide +kernel) rfl))
theorem L_TK_28K (HG : z_ok G) : z_cls G 5 R_TK F_TK 12 t_TK := K_TK HG
theorem L_TK_31 (HG : z_ok G) : z_lnk G "TypeKernel" 31 F_TK 5 := Or.inl (HG.mem (k_in 140 (by decide +kernel) rfl))
theorem L_TK_31K (HG : z_ok G) : z_cls G 5 R_TK F_TK 12 t_TK := K_TK HG
theorem L_TK_35 (HG : z_ok G) : z_lnk G "TypeKernel" 35 F_TK 6 := Or.inl (HG.mem (k_in 141 (by decide +kernel) rfl))
theorem L_TK_35K (HG : z_ok G) : z_cls G 5 R_TK F_TK 12 t_TK := K_TK HG
theorem Y_TK_40 (HG : z_ok G) : z_Yi G "TypeKernel" 40 m_Rw_init := ⟨⟨cd_Rw_init HG, by decide +kernel, by decide, ⟨⟨by decide +kernel, by decide +kernel⟩, by decide +kernel⟩, Or.inl (HG.mem (k_in 31 (by decide +kernel) rfl))⟩, rfl, rfl, rfl, HG.mem (k_in 33 (by decide +kernel) rfl), HG.mem (k_in 32 (by decide +kernel) rfl)⟩
theorem L_TK_41 (HG : z_ok G) : z_lnk G "TypeKernel" 41 F_TK 7 := Or.inl (HG.mem (k_in 142 (by decide +kernel) rfl))
theorem L_TK_41K (HG : z_ok G) : z_cls G 5 R_TK F_TK 12 t_TK := K_TK HG
theorem Y_TK_45 (HG : z_ok G) : z_Yi G "TypeKernel" 45 m_Row_init := ⟨⟨cd_Row_init HG, by decide +kernel, by decide, ⟨⟨by decide +kernel, by decide +kernel⟩, by decide +kernel⟩, Or.inr ⟨"TypeKernel", HG.mem (k_in 114 (by decide +kernel) rfl)⟩⟩, rfl, rfl, rfl, HG.mem (k_in 41 (by decide +kernel) rfl), HG.mem (k_in 40 (by decide +kernel) rfl)⟩
theorem L_TK_46 (HG : z_ok G) : z_lnk G "TypeKernel" 46 F_TK 8 := Or.inl (HG.mem (k_in 143 (by decide +kernel) rfl))
theorem L_TK_46K (HG : z_ok G) : z_cls G 5 R_TK F_TK 12 t_TK := K_TK HG
theorem L_TK_50 (HG : z_ok G) : z_lnk G "TypeKernel" 50 F_TK 9 := Or.inl (HG.mem (k_in 144 (by decide +kernel) rfl))
theorem L_TK_50K (HG : z_ok G) : z_cls G 5 R_TK F_TK 12 t_TK := K_TK HG
theorem L_TK_53 (HG : z_ok G) : z_lnk G "TypeKernel" 53 F_TK 10 := Or.inl (HG.mem (k_in 145 (by decide +kernel) rfl))
theorem L_TK_53K (HG : z_ok G) : z_cls G 5 R_TK F_TK 12 t_TK := K_TK HG
theorem L_TK_56 (HG : z_ok G) : z_lnk G "TypeKernel" 56 F_TK 11 := Or.inl (HG.mem (k_in 146 (by decide +kernel) rfl))
theorem L_TK_56K (HG : z_ok G) : z_cls G 5 R_TK F_TK 12 t_TK := K_TK HG
theorem Y_TK_59 (HG : z_ok G) : z_Yi G "TypeKernel" 59 m_Jd_init := ⟨⟨cd_Jd_init HG, by decide +kernel, by decide, ⟨⟨by decide +kernel, by decide +kernel⟩, by decide +kernel⟩, Or.inr ⟨"TypeKernel", HG.mem (k_in 116 (by decide +kernel) rfl)⟩⟩, rfl, rfl, rfl, HG.mem (k_in 118 (by decide +kernel) rfl), HG.mem (k_in 117 (by decide +kernel) rfl)⟩
theorem Y_TK_60 (HG : z_ok G) : z_Yv G "TypeKernel" 60 m_TK_addJudgement 0 := ⟨⟨cd_TK_addJudgement HG, by decide +kernel, by decide, ⟨⟨by decide +kernel, by decide +kernel⟩, by decide +kernel⟩, Or.inl (HG.mem (k_in 240 (by decide +kernel) rfl))⟩, HG.mem (k_in 242 (by decide +kernel) rfl), HG.mem (k_inp (q := (({ cls := "TypeKernel", name := "addJudgement", desc := "()LTypeKernel$Judgement;" } : Jvm.MethodName), 12)) 6 (by decide +kernel))⟩
theorem L_TK_64 (HG : z_ok G) : z_lnk G "TypeKernel" 64 F_Jd 0 := Or.inr ⟨"TypeKernel", HG.mem (k_in 123 (by decide +kernel) rfl)⟩
theorem L_TK_64K (HG : z_ok G) : z_cls G 1 R_Jd F_Jd 3 t_Jd := K_Jd HG
theorem Y_TK_67 (HG : z_ok G) : z_Yv G "TypeKernel" 67 m_Row_become 1 := ⟨⟨cd_Row_become HG, by decide +kernel, by decide, ⟨⟨by decide +kernel, by decide +kernel⟩, by decide +kernel⟩, Or.inl (HG.mem (k_in 309 (by decide +kernel) rfl))⟩, HG.mem (k_in 310 (by decide +kernel) rfl), HG.mem (k_in 311 (by decide +kernel) rfl)⟩
theorem L_TK_71 (HG : z_ok G) : z_lnk G "TypeKernel" 71 F_Jd 1 := Or.inr ⟨"TypeKernel", HG.mem (k_in 125 (by decide +kernel) rfl)⟩
theorem L_TK_71K (HG : z_ok G) : z_cls G 1 R_Jd F_Jd 3 t_Jd := K_Jd HG
theorem Y_TK_74 (HG : z_ok G) : z_Yv G "TypeKernel" 74 m_TK_isConstant 1 := ⟨⟨cd_TK_isConstant HG, by decide +kernel, by decide, ⟨⟨by decide +kernel, by decide +kernel⟩, by decide +kernel⟩, Or.inl (HG.mem (k_in 224 (by decide +kernel) rfl))⟩, HG.mem (k_in 226 (by decide +kernel) rfl), HG.mem (k_inp (q := (({ cls := "TypeKernel", name := "isConstant", desc := "(I)Z" } : Jvm.MethodName), 12)) 5 (by decide +kernel))⟩
theorem Y_TK_81 (HG : z_ok G) : z_Yv G "TypeKernel" 81 m_Row_copy 1 := ⟨⟨cd_Row_copy HG, by decide +kernel, by decide, ⟨⟨by decide +kernel, by decide +kernel⟩, by decide +kernel⟩, Or.inl (HG.mem (k_in 359 (by decide +kernel) rfl))⟩, HG.mem (k_in 360 (by decide +kernel) rfl), HG.mem (k_in 361 (by decide +kernel) rfl)⟩
theorem Y_TK_85 (HG : z_ok G) : z_Yv G "TypeKernel" 85 m_TK_isEntry 1 := ⟨⟨cd_TK_isEntry HG, by decide +kernel, by decide, ⟨⟨by decide +kernel, by decide +kernel⟩, by decide +kernel⟩, Or.inl (HG.mem (k_in 212 (by decide +kernel) rfl))⟩, HG.mem (k_in 214 (by decide +kernel) rfl), HG.mem (k_inp (q := (({ cls := "TypeKernel", name := "isEntry", desc := "(I)Z" } : Jvm.MethodName), 12)) 3 (by decide +kernel))⟩
theorem Y_TK_88 (HG : z_ok G) : z_Yv G "TypeKernel" 88 m_Row_clear 0 := ⟨⟨cd_Row_clear HG, by decide +kernel, by decide, ⟨⟨by decide +kernel, by decide +kernel⟩, by decide +kernel⟩, Or.inl (HG.mem (k_in 373 (by decide +kernel) rfl))⟩, HG.mem (k_in 314 (by decide +kernel) rfl), HG.mem (k_in 315 (by decide +kernel) rfl)⟩
theorem Y_TK_91 (HG : z_ok G) : z_Yv G "TypeKernel" 91 m_TK_entryAt 1 := ⟨⟨cd_TK_entryAt HG, by decide +kernel, by decide, ⟨⟨by decide +kernel, by decide +kernel⟩, by decide +kernel⟩, Or.inl (HG.mem (k_in 216 (by decide +kernel) rfl))⟩, HG.mem (k_in 218 (by decide +kernel) rfl), HG.mem (k_inp (q := (({ cls := "TypeKernel", name := "entryAt", desc := "(I)LTypeKernel$Row;" } : Jvm.MethodName), 12)) 4 (by decide +kernel))⟩
theorem Y_TK_95 (HG : z_ok G) : z_Yv G "TypeKernel" 95 m_Rw_appendLifted 4 := ⟨⟨cd_Rw_appendLifted HG, by decide +kernel, by decide, ⟨⟨by decide +kernel, by decide +kernel⟩, by decide +kernel⟩, Or.inl (HG.mem (k_in 374 (by decide +kernel) rfl))⟩, HG.mem (k_in 375 (by decide +kernel) rfl), HG.mem (k_in 376 (by decide +kernel) rfl)⟩
theorem Y_TK_99 (HG : z_ok G) : z_Yv G "TypeKernel" 99 m_TK_presentJudgement 1 := ⟨⟨cd_TK_presentJudgement HG, by decide +kernel, by decide, ⟨⟨by decide +kernel, by decide +kernel⟩, by decide +kernel⟩, Or.inl (HG.mem (k_in 402 (by decide +kernel) rfl))⟩, HG.mem (k_in 404 (by decide +kernel) rfl), HG.mem (k_inp (q := (({ cls := "TypeKernel", name := "presentJudgement", desc := "(I)LTypeKernel$Judgement;" } : Jvm.MethodName), 12)) 8 (by decide +kernel))⟩
theorem Y_TK_103 (HG : z_ok G) : z_Yv G "TypeKernel" 103 m_Rw_normalize 2 := ⟨⟨cd_Rw_normalize HG, by decide +kernel, by decide, ⟨⟨by decide +kernel, by decide +kernel⟩, by decide +kernel⟩, Or.inl (HG.mem (k_in 425 (by decide +kernel) rfl))⟩, HG.mem (k_in 426 (by decide +kernel) rfl), HG.mem (k_in 427 (by decide +kernel) rfl)⟩
theorem Y_TK_107 (HG : z_ok G) : z_Yv G "TypeKernel" 107 m_Row_at 1 := ⟨⟨cd_Row_at HG, by decide +kernel, by decide, ⟨⟨by decide +kernel, by decide +kernel⟩, by decide +kernel⟩, Or.inl (HG.mem (k_in 200 (by decide +kernel) rfl))⟩, HG.mem (k_in 201 (by decide +kernel) rfl), HG.mem (k_in 202 (by decide +kernel) rfl)⟩
theorem Y_TK_114 (HG : z_ok G) : z_Yv G "TypeKernel" 114 m_Row_endOf 1 := ⟨⟨cd_Row_endOf HG, by decide +kernel, by decide, ⟨⟨by decide +kernel, by decide +kernel⟩, by decide +kernel⟩, Or.inl (HG.mem (k_in 489 (by decide +kernel) rfl))⟩, HG.mem (k_in 439 (by decide +kernel) rfl), HG.mem (k_in 440 (by decide +kernel) rfl)⟩
theorem Y_TK_117 (HG : z_ok G) : z_Yv G "TypeKernel" 117 m_Row_isPart 3 := ⟨⟨cd_Row_isPart HG, by decide +kernel, by decide, ⟨⟨by decide +kernel, by decide +kernel⟩, by decide +kernel⟩, Or.inl (HG.mem (k_in 490 (by decide +kernel) rfl))⟩, HG.mem (k_in 491 (by decide +kernel) rfl), HG.mem (k_in 492 (by decide +kernel) rfl)⟩
theorem Y_TK_121 (HG : z_ok G) : z_Yv G "TypeKernel" 121 m_Row_join 3 := ⟨⟨cd_Row_join HG, by decide +kernel, by decide, ⟨⟨by decide +kernel, by decide +kernel⟩, by decide +kernel⟩, Or.inl (HG.mem (k_in 494 (by decide +kernel) rfl))⟩, HG.mem (k_in 495 (by decide +kernel) rfl), HG.mem (k_in 496 (by decide +kernel) rfl)⟩
theorem Y_TK_125 (HG : z_ok G) : z_Yv G "TypeKernel" 125 m_Rw_appendBodyWith 5 := ⟨⟨cd_Rw_appendBodyWith HG, by decide +kernel, by decide, ⟨⟨by decide +kernel, by decide +kernel⟩, by decide +kernel⟩, Or.inl (HG.mem (k_in 500 (by decide +kernel) rfl))⟩, HG.mem (k_in 452 (by decide +kernel) rfl), HG.mem (k_in 453 (by decide +kernel) rfl)⟩
theorem Y_TK_132 (HG : z_ok G) : z_Yv G "TypeKernel" 132 m_Row_is 1 := ⟨⟨cd_Row_is HG, by decide +kernel, by decide, ⟨⟨by decide +kernel, by decide +kernel⟩, by decide +kernel⟩, Or.inl (HG.mem (k_in 508 (by decide +kernel) rfl))⟩, HG.mem (k_in 509 (by decide +kernel) rfl), HG.mem (k_in 510 (by decide +kernel) rfl)⟩
theorem Y_TK_135 (HG : z_ok G) : z_Yv G "TypeKernel" 135 m_TK_onlyPresentJudgement 0 := ⟨⟨cd_TK_onlyPresentJudgement HG, by decide +kernel, by decide, ⟨⟨by decide +kernel, by decide +kernel⟩, by decide +kernel⟩, Or.inl (HG.mem (k_in 519 (by decide +kernel) rfl))⟩, HG.mem (k_in 521 (by decide +kernel) rfl), HG.mem (k_inp (q := (({ cls := "TypeKernel", name := "onlyPresentJudgement", desc := "()LTypeKernel$Judgement;" } : Jvm.MethodName), 12)) 16 (by decide +kernel))⟩
theorem Y_TK_138 (HG : z_ok G) : z_Yv G "TypeKernel" 138 m_TK_bind 1 := ⟨⟨cd_TK_bind HG, by decide +kernel, by decide, ⟨⟨by decide +kernel, by decide +kernel⟩, by decide +kernel⟩, Or.inl (HG.mem (k_in 523 (by decide +kernel) rfl))⟩, HG.mem (k_in 525 (by decide +kernel) rfl), HG.mem (k_inp (q := (({ cls := "TypeKernel", name := "bind", desc := "(LTypeKernel$Judgement;)V" } : Jvm.MethodName), 12)) 17 (by decide +kernel))⟩
theorem Y_TK_142 (HG : z_ok G) : z_Ys G "TypeKernel" 142 m_TK_hasSort 1 := ⟨⟨cd_TK_hasSort HG, by decide +kernel, by decide, ⟨⟨by decide +kernel, by decide +kernel⟩, by decide +kernel⟩, Or.inl (HG.mem (k_in 534 (by decide +kernel) rfl))⟩, HG.mem (k_in 535 (by decide +kernel) rfl), HG.mem (k_in 1 (by decide +kernel) rfl)⟩
theorem L_TK_149 (HG : z_ok G) : z_lnk G "TypeKernel" 149 F_Rw 1 := Or.inr ⟨"TypeKernel", HG.mem (k_in 93 (by decide +kernel) rfl)⟩
theorem L_TK_149K (HG : z_ok G) : z_cls G 4 R_Rw F_Rw 7 t_Rw := K_Rw HG
theorem Y_TK_152 (HG : z_ok G) : z_Yv G "TypeKernel" 152 m_TK_isLeftSide 1 := ⟨⟨cd_TK_isLeftSide HG, by decide +kernel, by decide, ⟨⟨by decide +kernel, by decide +kernel⟩, by decide +kernel⟩, Or.inl (HG.mem (k_in 551 (by decide +kernel) rfl))⟩, HG.mem (k_in 553 (by decide +kernel) rfl), HG.mem (k_inp (q := (({ cls := "TypeKernel", name := "isLeftSide", desc := "(LTypeKernel$Row;)Z" } : Jvm.MethodName), 12)) 18 (by decide +kernel))⟩
theorem Y_TK_156 (HG : z_ok G) : z_Yv G "TypeKernel" 156 m_Row_equalsRow 1 := ⟨⟨cd_Row_equalsRow HG, by decide +kernel, by decide, ⟨⟨by decide +kernel, by decide +kernel⟩, by decide +kernel⟩, Or.inl (HG.mem (k_in 566 (by decide +kernel) rfl))⟩, HG.mem (k_in 567 (by decide +kernel) rfl), HG.mem (k_in 568 (by decide +kernel) rfl)⟩
theorem Y_TK_159 (HG : z_ok G) : z_Yv G "TypeKernel" 159 m_Rw_addRule 3 := ⟨⟨cd_Rw_addRule HG, by decide +kernel, by decide, ⟨⟨by decide +kernel, by decide +kernel⟩, by decide +kernel⟩, Or.inl (HG.mem (k_in 571 (by decide +kernel) rfl))⟩, HG.mem (k_in 572 (by decide +kernel) rfl), HG.mem (k_in 573 (by decide +kernel) rfl)⟩
theorem Y_TK_163 (HG : z_ok G) : z_Yv G "TypeKernel" 163 m_TK_neededJudgement 1 := ⟨⟨cd_TK_neededJudgement HG, by decide +kernel, by decide, ⟨⟨by decide +kernel, by decide +kernel⟩, by decide +kernel⟩, Or.inl (HG.mem (k_in 406 (by decide +kernel) rfl))⟩, HG.mem (k_in 408 (by decide +kernel) rfl), HG.mem (k_inp (q := (({ cls := "TypeKernel", name := "neededJudgement", desc := "(I)LTypeKernel$Judgement;" } : Jvm.MethodName), 12)) 9 (by decide +kernel))⟩
theorem L_TK_166 (HG : z_ok G) : z_lnk G "TypeKernel" 166 F_Jd 2 := Or.inr ⟨"TypeKernel", HG.mem (k_in 127 (by decide +kernel) rfl)⟩
theorem L_TK_166K (HG : z_ok G) : z_cls G 1 R_Jd F_Jd 3 t_Jd := K_Jd HG
theorem Y_TK_169 (HG : z_ok G) : z_Yv G "TypeKernel" 169 m_TK_presentCount 0 := ⟨⟨cd_TK_presentCount HG, by decide +kernel, by decide, ⟨⟨by decide +kernel, by decide +kernel⟩, by decide +kernel⟩, Or.inl (HG.mem (k_in 180 (by decide +kernel) rfl))⟩, HG.mem (k_in 182 (by decide +kernel) rfl), HG.mem (k_inp (q := (({ cls := "TypeKernel", name := "presentCount", desc := "()I" } : Jvm.MethodName), 12)) 0 (by decide +kernel))⟩
theorem Y_TK_173 (HG : z_ok G) : z_Yv G "TypeKernel" 173 m_TK_isJudgement 1 := ⟨⟨cd_TK_isJudgement HG, by decide +kernel, by decide, ⟨⟨by decide +kernel, by decide +kernel⟩, by decide +kernel⟩, Or.inl (HG.mem (k_in 192 (by decide +kernel) rfl))⟩, HG.mem (k_in 194 (by decide +kernel) rfl), HG.mem (k_inp (q := (({ cls := "TypeKernel", name := "isJudgement", desc := "(I)Z" } : Jvm.MethodName), 12)) 1 (by decide +kernel))⟩
theorem Y_TK_176 (HG : z_ok G) : z_Yv G "TypeKernel" 176 m_TK_judgementAt 1 := ⟨⟨cd_TK_judgementAt HG, by decide +kernel, by decide, ⟨⟨by decide +kernel, by decide +kernel⟩, by decide +kernel⟩, Or.inl (HG.mem (k_in 196 (by decide +kernel) rfl))⟩, HG.mem (k_in 198 (by decide +kernel) rfl), HG.mem (k_inp (q := (({ cls := "TypeKernel", name := "judgementAt", desc := "(I)LTypeKernel$Judgement;" } : Jvm.MethodName), 12)) 2 (by decide +kernel))⟩
theorem L_TK_179 (HG : z_ok G) : z_lnk G "TypeKernel" 179 F_Rw 0 := Or.inr ⟨"TypeKernel", HG.mem (k_in 91 (by decide +kernel) rfl)⟩
theorem L_TK_179K (HG : z_ok G) : z_cls G 4 R_Rw F_Rw 7 t_Rw := K_Rw HG
theorem L_TK_183 (HG : z_ok G) : z_lnk G "TypeKernel" 183 F_Ru 2 := Or.inr ⟨"TypeKernel", HG.mem (k_in 82 (by decide +kernel) rfl)⟩
theorem L_TK_183K (HG : z_ok G) : z_cls G 2 R_Ru F_Ru 3 t_Ru := K_Ru HG
theorem L_TK_188 (HG : z_ok G) : z_lnk G "TypeKernel" 188 F_Ru 1 := Or.inr ⟨"TypeKernel", HG.mem (k_in 79 (by decide +kernel) rfl)⟩
theorem L_TK_188K (HG : z_ok G) : z_cls G 2 R_Ru F_Ru 3 t_Ru := K_Ru HG
theorem L_TK_191 (HG : z_ok G) : z_lnk G "TypeKernel" 191 F_Ru 0 := Or.inr ⟨"TypeKernel", HG.mem (k_in 76 (by decide +kernel) rfl)⟩
theorem L_TK_191K (HG : z_ok G) : z_cls G 2 R_Ru F_Ru 3 t_Ru := K_Ru HG
theorem Y_TK_194 (HG : z_ok G) : z_Yv G "TypeKernel" 194 m_Row_headOf 1 := ⟨⟨cd_Row_headOf HG, by decide +kernel, by decide, ⟨⟨by decide +kernel, by decide +kernel⟩, by decide +kernel⟩, Or.inl (HG.mem (k_in 555 (by decide +kernel) rfl))⟩, HG.mem (k_in 556 (by decide +kernel) rfl), HG.mem (k_in 557 (by decide +kernel) rfl)⟩
theorem L_TK_197 (HG : z_ok G) : z_lnk G "TypeKernel" 197 F_Row 1 := Or.inr ⟨"TypeKernel", HG.mem (k_in 46 (by decide +kernel) rfl)⟩
theorem L_TK_197K (HG : z_ok G) : z_cls G 0 R_Row F_Row 2 t_Row := K_Row HG
theorem Y_TK_200 (HG : z_ok G) : z_Ys G "TypeKernel" 200 m_TK_mayStandInPattern 2 := ⟨⟨cd_TK_mayStandInPattern HG, by decide +kernel, by decide, ⟨⟨by decide +kernel, by decide +kernel⟩, by decide +kernel⟩, Or.inl (HG.mem (k_in 559 (by decide +kernel) rfl))⟩, HG.mem (k_in 560 (by decide +kernel) rfl), HG.mem (k_in 1 (by decide +kernel) rfl)⟩
theorem Y_TK_204 (HG : z_ok G) : z_Yv G "TypeKernel" 204 m_Row_countOf 1 := ⟨⟨cd_Row_countOf HG, by decide +kernel, by decide, ⟨⟨by decide +kernel, by decide +kernel⟩, by decide +kernel⟩, Or.inl (HG.mem (k_in 562 (by decide +kernel) rfl))⟩, HG.mem (k_in 563 (by decide +kernel) rfl), HG.mem (k_in 564 (by decide +kernel) rfl)⟩
theorem L_Md_7 (HG : z_ok G) : z_lnk G "TypeKernelModel" 7 F_Md 1 := Or.inl (HG.mem (k_in 596 (by decide +kernel) rfl))
theorem L_Md_7K (HG : z_ok G) : z_cls G 6 R_Md F_Md 16 t_Md := K_Md HG
theorem L_Md_13 (HG : z_ok G) : z_lnk G "TypeKernelModel" 13 F_Md 2 := Or.inl (HG.mem (k_in 597 (by decide +kernel) rfl))
theorem L_Md_13K (HG : z_ok G) : z_cls G 6 R_Md F_Md 16 t_Md := K_Md HG
theorem L_Md_16 (HG : z_ok G) : z_lnk G "TypeKernelModel" 16 F_Md 4 := Or.inl (HG.mem (k_in 599 (by decide +kernel) rfl))
theorem L_Md_16K (HG : z_ok G) : z_cls G 6 R_Md F_Md 16 t_Md := K_Md HG
theorem L_Md_19 (HG : z_ok G) : z_lnk G "TypeKernelModel" 19 F_Md 7 := Or.inl (HG.mem (k_in 602 (by decide +kernel) rfl))
theorem L_Md_19K (HG : z_ok G) : z_cls G 6 R_Md F_Md 16 t_Md := K_Md HG
theorem L_Md_23 (HG : z_ok G) : z_lnk G "TypeKernelModel" 23 F_Md 9 := Or.inl (HG.mem (k_in 604 (by decide +kernel) rfl))
theorem L_Md_23K (HG : z_ok G) : z_cls G 6 R_Md F_Md 16 t_Md := K_Md HG
theorem L_Md_26 (HG : z_ok G) : z_lnk G "TypeKernelModel" 26 F_Md 11 := Or.inl (HG.mem (k_in 606 (by decide +kernel) rfl))
theorem L_Md_26K (HG : z_ok G) : z_cls G 6 R_Md F_Md 16 t_Md := K_Md HG
theorem L_Md_29 (HG : z_ok G) : z_lnk G "TypeKernelModel" 29 F_Md 12 := Or.inl (HG.mem (k_in 607 (by decide +kernel) rfl))
theorem L_Md_29K (HG : z_ok G) : z_cls G 6 R_Md F_Md 16 t_Md := K_Md HG
theorem L_Md_32 (HG : z_ok G) : z_lnk G "TypeKernelModel" 32 F_Md 13 := Or.inl (HG.mem (k_in 608 (by decide +kernel) rfl))
theorem L_Md_32K (HG : z_ok G) : z_cls G 6 R_Md F_Md 16 t_Md := K_Md HG
theorem L_Md_35 (HG : z_ok G) : z_lnk G "TypeKernelModel" 35 F_Md 14 := Or.inl (HG.mem (k_in 609 (by decide +kernel) rfl))
theorem L_Md_35K (HG : z_ok G) : z_cls G 6 R_Md F_Md 16 t_Md := K_Md HG
theorem L_Md_38 (HG : z_ok G) : z_lnk G "TypeKernelModel" 38 F_Md 15 := Or.inl (HG.mem (k_in 610 (by decide +kernel) rfl))
theorem L_Md_38K (HG : z_ok G) : z_cls G 6 R_Md F_Md 16 t_Md := K_Md HG
theorem L_Md_41 (HG : z_ok G) : z_lnk G "TypeKernelModel" 41 F_Md 0 := Or.inl (HG.mem (k_in 595 (by decide +kernel) rfl))
theorem L_Md_41K (HG : z_ok G) : z_cls G 6 R_Md F_Md 16 t_Md := K_Md HG
theorem L_Md_45 (HG : z_ok G) : z_lnk G "TypeKernelModel" 45 F_Md 10 := Or.inl (HG.mem (k_in 605 (by decide +kernel) rfl))
theorem L_Md_45K (HG : z_ok G) : z_cls G 6 R_Md F_Md 16 t_Md := K_Md HG
theorem Y_Md_49 (HG : z_ok G) : z_Yv G "TypeKernelModel" 49 m_Md_at 2 := ⟨⟨cd_Md_at HG, by decide +kernel, by decide, ⟨⟨by decide +kernel, by decide +kernel⟩, by decide +kernel⟩, Or.inl (HG.mem (k_in 668 (by decide +kernel) rfl))⟩, HG.mem (k_in 670 (by decide +kernel) rfl), HG.mem (k_inp (q := (({ cls := "TypeKernelModel", name := "at", desc := "(II)I" } : Jvm.MethodName), 16)) 22 (by decide +kernel))⟩
theorem Y_Md_53 (HG : z_ok G) : z_Yv G "TypeKernelModel" 53 m_Md_add 2 := ⟨⟨cd_Md_add HG, by decide +kernel, by decide, ⟨⟨by decide +kernel, by decide +kernel⟩, by decide +kernel⟩, Or.inl (HG.mem (k_in 656 (by decide +kernel) rfl))⟩, HG.mem (k_in 658 (by decide +kernel) rfl), HG.mem (k_inp (q := (({ cls := "TypeKernelModel", name := "add", desc := "(II)V" } : Jvm.MethodName), 16)) 20 (by decide +kernel))⟩
theorem Y_Md_57 (HG : z_ok G) : z_Yv G "TypeKernelModel" 57 m_Md_addRow 2 := ⟨⟨cd_Md_addRow HG, by decide +kernel, by decide, ⟨⟨by decide +kernel, by decide +kernel⟩, by decide +kernel⟩, Or.inl (HG.mem (k_in 664 (by decide +kernel) rfl))⟩, HG.mem (k_in 666 (by decide +kernel) rfl), HG.mem (k_inp (q := (({ cls := "TypeKernelModel", name := "addRow", desc := "(II)V" } : Jvm.MethodName), 16)) 21 (by decide +kernel))⟩
theorem Y_Md_60 (HG : z_ok G) : z_Ys G "TypeKernelModel" 60 m_Md_isPair 1 := ⟨⟨cd_Md_isPair HG, by decide +kernel, by decide, ⟨⟨by decide +kernel, by decide +kernel⟩, by decide +kernel⟩, Or.inl (HG.mem (k_in 680 (by decide +kernel) rfl))⟩, HG.mem (k_in 681 (by decide +kernel) rfl), HG.mem (k_in 7 (by decide +kernel) rfl)⟩
theorem Y_Md_64 (HG : z_ok G) : z_Yv G "TypeKernelModel" 64 m_Md_addShifted 5 := ⟨⟨cd_Md_addShifted HG, by decide +kernel, by decide, ⟨⟨by decide +kernel, by decide +kernel⟩, by decide +kernel⟩, Or.inl (HG.mem (k_in 683 (by decide +kernel) rfl))⟩, HG.mem (k_in 685 (by decide +kernel) rfl), HG.mem (k_inp (q := (({ cls := "TypeKernelModel", name := "addShifted", desc := "(IIIII)V" } : Jvm.MethodName), 16)) 24 (by decide +kernel))⟩
theorem Y_Md_68 (HG : z_ok G) : z_Yv G "TypeKernelModel" 68 m_Md_end 2 := ⟨⟨cd_Md_end HG, by decide +kernel, by decide, ⟨⟨by decide +kernel, by decide +kernel⟩, by decide +kernel⟩, Or.inl (HG.mem (k_in 719 (by decide +kernel) rfl))⟩, HG.mem (k_in 721 (by decide +kernel) rfl), HG.mem (k_inp (q := (({ cls := "TypeKernelModel", name := "end", desc := "(II)I" } : Jvm.MethodName), 16)) 32 (by decide +kernel))⟩
theorem Y_Md_71 (HG : z_ok G) : z_Yv G "TypeKernelModel" 71 m_Md_measure 2 := ⟨⟨cd_Md_measure HG, by decide +kernel, by decide, ⟨⟨by decide +kernel, by decide +kernel⟩, by decide +kernel⟩, Or.inl (HG.mem (k_in 676 (by decide +kernel) rfl))⟩, HG.mem (k_in 678 (by decide +kernel) rfl), HG.mem (k_inp (q := (({ cls := "TypeKernelModel", name := "measure", desc := "(IZ)V" } : Jvm.MethodName), 16)) 23 (by decide +kernel))⟩
theorem L_Md_75 (HG : z_ok G) : z_lnk G "TypeKernelModel" 75 F_Md 8 := Or.inl (HG.mem (k_in 603 (by decide +kernel) rfl))
theorem L_Md_75K (HG : z_ok G) : z_cls G 6 R_Md F_Md 16 t_Md := K_Md HG
theorem Y_Md_78 (HG : z_ok G) : z_Yv G "TypeKernelModel" 78 m_Md_matches 2 := ⟨⟨cd_Md_matches HG, by decide +kernel, by decide, ⟨⟨by decide +kernel, by decide +kernel⟩, by decide +kernel⟩, Or.inl (HG.mem (k_in 715 (by decide +kernel) rfl))⟩, HG.mem (k_in 717 (by decide +kernel) rfl), HG.mem (k_inp (q := (({ cls := "TypeKernelModel", name := "matches", desc := "(II)Z" } : Jvm.MethodName), 16)) 31 (by decide +kernel))⟩
theorem Y_Md_82 (HG : z_ok G) : z_Yv G "TypeKernelModel" 82 m_Md_addPut 6 := ⟨⟨cd_Md_addPut HG, by decide +kernel, by decide, ⟨⟨by decide +kernel, by decide +kernel⟩, by decide +kernel⟩, Or.inl (HG.mem (k_in 727 (by decide +kernel) rfl))⟩, HG.mem (k_in 729 (by decide +kernel) rfl), HG.mem (k_inp (q := (({ cls := "TypeKernelModel", name := "addPut", desc := "(IIIIII)V" } : Jvm.MethodName), 16)) 34 (by decide +kernel))⟩
theorem Y_Md_86 (HG : z_ok G) : z_Yv G "TypeKernelModel" 86 m_Md_addResult 1 := ⟨⟨cd_Md_addResult HG, by decide +kernel, by decide, ⟨⟨by decide +kernel, by decide +kernel⟩, by decide +kernel⟩, Or.inl (HG.mem (k_in 731 (by decide +kernel) rfl))⟩, HG.mem (k_in 733 (by decide +kernel) rfl), HG.mem (k_inp (q := (({ cls := "TypeKernelModel", name := "addResult", desc := "(I)V" } : Jvm.MethodName), 16)) 35 (by decide +kernel))⟩
theorem Y_Md_90 (HG : z_ok G) : z_Yv G "TypeKernelModel" 90 m_Md_copy 2 := ⟨⟨cd_Md_copy HG, by decide +kernel, by decide, ⟨⟨by decide +kernel, by decide +kernel⟩, by decide +kernel⟩, Or.inl (HG.mem (k_in 703 (by decide +kernel) rfl))⟩, HG.mem (k_in 705 (by decide +kernel) rfl), HG.mem (k_inp (q := (({ cls := "TypeKernelModel", name := "copy", desc := "(II)V" } : Jvm.MethodName), 16)) 28 (by decide +kernel))⟩
theorem Y_Md_93 (HG : z_ok G) : z_Yv G "TypeKernelModel" 93 m_Md_redex 1 := ⟨⟨cd_Md_redex HG, by decide +kernel, by decide, ⟨⟨by decide +kernel, by decide +kernel⟩, by decide +kernel⟩, Or.inl (HG.mem (k_in 711 (by decide +kernel) rfl))⟩, HG.mem (k_in 713 (by decide +kernel) rfl), HG.mem (k_inp (q := (({ cls := "TypeKernelModel", name := "redex", desc := "(I)I" } : Jvm.MethodName), 16)) 30 (by decide +kernel))⟩
theorem Y_Md_97 (HG : z_ok G) : z_Yv G "TypeKernelModel" 97 m_Md_step 2 := ⟨⟨cd_Md_step HG, by decide +kernel, by decide, ⟨⟨by decide +kernel, by decide +kernel⟩, by decide +kernel⟩, Or.inl (HG.mem (k_in 723 (by decide +kernel) rfl))⟩, HG.mem (k_in 725 (by decide +kernel) rfl), HG.mem (k_inp (q := (({ cls := "TypeKernelModel", name := "step", desc := "(II)V" } : Jvm.MethodName), 16)) 33 (by decide +kernel))⟩
theorem Y_Md_100 (HG : z_ok G) : z_Yv G "TypeKernelModel" 100 m_Md_normalise 0 := ⟨⟨cd_Md_normalise HG, by decide +kernel, by decide, ⟨⟨by decide +kernel, by decide +kernel⟩, by decide +kernel⟩, Or.inl (HG.mem (k_in 707 (by decide +kernel) rfl))⟩, HG.mem (k_in 709 (by decide +kernel) rfl), HG.mem (k_inp (q := (({ cls := "TypeKernelModel", name := "normalise", desc := "()I" } : Jvm.MethodName), 16)) 29 (by decide +kernel))⟩
theorem L_Md_104 (HG : z_ok G) : z_lnk G "TypeKernelModel" 104 F_Md 5 := Or.inl (HG.mem (k_in 600 (by decide +kernel) rfl))
theorem L_Md_104K (HG : z_ok G) : z_cls G 6 R_Md F_Md 16 t_Md := K_Md HG
theorem L_Md_107 (HG : z_ok G) : z_lnk G "TypeKernelModel" 107 F_Md 3 := Or.inl (HG.mem (k_in 598 (by decide +kernel) rfl))
theorem L_Md_107K (HG : z_ok G) : z_cls G 6 R_Md F_Md 16 t_Md := K_Md HG
theorem Y_Md_110 (HG : z_ok G) : z_Yv G "TypeKernelModel" 110 m_Md_present 1 := ⟨⟨cd_Md_present HG, by decide +kernel, by decide, ⟨⟨by decide +kernel, by decide +kernel⟩, by decide +kernel⟩, Or.inl (HG.mem (k_in 695 (by decide +kernel) rfl))⟩, HG.mem (k_in 697 (by decide +kernel) rfl), HG.mem (k_inp (q := (({ cls := "TypeKernelModel", name := "present", desc := "(I)Z" } : Jvm.MethodName), 16)) 26 (by decide +kernel))⟩
theorem Y_Md_113 (HG : z_ok G) : z_Yv G "TypeKernelModel" 113 m_Md_push 0 := ⟨⟨cd_Md_push HG, by decide +kernel, by decide, ⟨⟨by decide +kernel, by decide +kernel⟩, by decide +kernel⟩, Or.inl (HG.mem (k_in 652 (by decide +kernel) rfl))⟩, HG.mem (k_in 654 (by decide +kernel) rfl), HG.mem (k_inp (q := (({ cls := "TypeKernelModel", name := "push", desc := "()Z" } : Jvm.MethodName), 16)) 19 (by decide +kernel))⟩
theorem L_Md_117 (HG : z_ok G) : z_lnk G "TypeKernelModel" 117 F_Md 6 := Or.inl (HG.mem (k_in 601 (by decide +kernel) rfl))
theorem L_Md_117K (HG : z_ok G) : z_cls G 6 R_Md F_Md 16 t_Md := K_Md HG
theorem Y_Md_120 (HG : z_ok G) : z_Yv G "TypeKernelModel" 120 m_Md_normalOf 1 := ⟨⟨cd_Md_normalOf HG, by decide +kernel, by decide, ⟨⟨by decide +kernel, by decide +kernel⟩, by decide +kernel⟩, Or.inl (HG.mem (k_in 699 (by decide +kernel) rfl))⟩, HG.mem (k_in 701 (by decide +kernel) rfl), HG.mem (k_inp (q := (({ cls := "TypeKernelModel", name := "normalOf", desc := "(I)I" } : Jvm.MethodName), 16)) 27 (by decide +kernel))⟩
theorem Y_Md_123 (HG : z_ok G) : z_Yv G "TypeKernelModel" 123 m_Md_putTerm 2 := ⟨⟨cd_Md_putTerm HG, by decide +kernel, by decide, ⟨⟨by decide +kernel, by decide +kernel⟩, by decide +kernel⟩, Or.inl (HG.mem (k_in 735 (by decide +kernel) rfl))⟩, HG.mem (k_in 737 (by decide +kernel) rfl), HG.mem (k_inp (q := (({ cls := "TypeKernelModel", name := "putTerm", desc := "(II)V" } : Jvm.MethodName), 16)) 36 (by decide +kernel))⟩
theorem Y_Md_126 (HG : z_ok G) : z_Yv G "TypeKernelModel" 126 m_Md_applied 0 := ⟨⟨cd_Md_applied HG, by decide +kernel, by decide, ⟨⟨by decide +kernel, by decide +kernel⟩, by decide +kernel⟩, Or.inl (HG.mem (k_in 691 (by decide +kernel) rfl))⟩, HG.mem (k_in 693 (by decide +kernel) rfl), HG.mem (k_inp (q := (({ cls := "TypeKernelModel", name := "applied", desc := "()I" } : Jvm.MethodName), 16)) 25 (by decide +kernel))⟩
theorem Y_Md_129 (HG : z_ok G) : z_Yv G "TypeKernelModel" 129 m_Md_isOne 2 := ⟨⟨cd_Md_isOne HG, by decide +kernel, by decide, ⟨⟨by decide +kernel, by decide +kernel⟩, by decide +kernel⟩, Or.inl (HG.mem (k_in 743 (by decide +kernel) rfl))⟩, HG.mem (k_in 745 (by decide +kernel) rfl), HG.mem (k_inp (q := (({ cls := "TypeKernelModel", name := "isOne", desc := "(II)Z" } : Jvm.MethodName), 16)) 37 (by decide +kernel))⟩
theorem Y_Md_132 (HG : z_ok G) : z_Yv G "TypeKernelModel" 132 m_Md_alone 0 := ⟨⟨cd_Md_alone HG, by decide +kernel, by decide, ⟨⟨by decide +kernel, by decide +kernel⟩, by decide +kernel⟩, Or.inl (HG.mem (k_in 755 (by decide +kernel) rfl))⟩, HG.mem (k_in 757 (by decide +kernel) rfl), HG.mem (k_inp (q := (({ cls := "TypeKernelModel", name := "alone", desc := "()Z" } : Jvm.MethodName), 16)) 39 (by decide +kernel))⟩
theorem Y_Md_135 (HG : z_ok G) : z_Yv G "TypeKernelModel" 135 m_Md_canBind 0 := ⟨⟨cd_Md_canBind HG, by decide +kernel, by decide, ⟨⟨by decide +kernel, by decide +kernel⟩, by decide +kernel⟩, Or.inl (HG.mem (k_in 751 (by decide +kernel) rfl))⟩, HG.mem (k_in 753 (by decide +kernel) rfl), HG.mem (k_inp (q := (({ cls := "TypeKernelModel", name := "canBind", desc := "()Z" } : Jvm.MethodName), 16)) 38 (by decide +kernel))⟩
theorem Y_Md_138 (HG : z_ok G) : z_Yv G "TypeKernelModel" 138 m_Md_binds 2 := ⟨⟨cd_Md_binds HG, by decide +kernel, by decide, ⟨⟨by decide +kernel, by decide +kernel⟩, by decide +kernel⟩, Or.inl (HG.mem (k_in 759 (by decide +kernel) rfl))⟩, HG.mem (k_in 761 (by decide +kernel) rfl), HG.mem (k_inp (q := (({ cls := "TypeKernelModel", name := "binds", desc := "(II)Z" } : Jvm.MethodName), 16)) 40 (by decide +kernel))⟩
theorem Y_Md_141 (HG : z_ok G) : z_Yv G "TypeKernelModel" 141 m_Md_close 0 := ⟨⟨cd_Md_close HG, by decide +kernel, by decide, ⟨⟨by decide +kernel, by decide +kernel⟩, by decide +kernel⟩, Or.inl (HG.mem (k_in 763 (by decide +kernel) rfl))⟩, HG.mem (k_in 765 (by decide +kernel) rfl), HG.mem (k_inp (q := (({ cls := "TypeKernelModel", name := "close", desc := "()V" } : Jvm.MethodName), 16)) 41 (by decide +kernel))⟩
theorem Y_Md_144 (HG : z_ok G) : z_Yv G "TypeKernelModel" 144 m_Md_isLeft 1 := ⟨⟨cd_Md_isLeft HG, by decide +kernel, by decide, ⟨⟨by decide +kernel, by decide +kernel⟩, by decide +kernel⟩, Or.inl (HG.mem (k_in 783 (by decide +kernel) rfl))⟩, HG.mem (k_in 785 (by decide +kernel) rfl), HG.mem (k_inp (q := (({ cls := "TypeKernelModel", name := "isLeft", desc := "(I)Z" } : Jvm.MethodName), 16)) 43 (by decide +kernel))⟩
theorem Y_Md_147 (HG : z_ok G) : z_Yv G "TypeKernelModel" 147 m_Md_equal 2 := ⟨⟨cd_Md_equal HG, by decide +kernel, by decide, ⟨⟨by decide +kernel, by decide +kernel⟩, by decide +kernel⟩, Or.inl (HG.mem (k_in 787 (by decide +kernel) rfl))⟩, HG.mem (k_in 789 (by decide +kernel) rfl), HG.mem (k_inp (q := (({ cls := "TypeKernelModel", name := "equal", desc := "(II)Z" } : Jvm.MethodName), 16)) 44 (by decide +kernel))⟩
theorem Y_Md_150 (HG : z_ok G) : z_Yv G "TypeKernelModel" 150 m_Md_ruled 0 := ⟨⟨cd_Md_ruled HG, by decide +kernel, by decide, ⟨⟨by decide +kernel, by decide +kernel⟩, by decide +kernel⟩, Or.inl (HG.mem (k_in 779 (by decide +kernel) rfl))⟩, HG.mem (k_in 781 (by decide +kernel) rfl), HG.mem (k_inp (q := (({ cls := "TypeKernelModel", name := "ruled", desc := "()I" } : Jvm.MethodName), 16)) 42 (by decide +kernel))⟩
theorem Y_Md_153 (HG : z_ok G) : z_Yv G "TypeKernelModel" 153 m_Md_raise 1 := ⟨⟨cd_Md_raise HG, by decide +kernel, by decide, ⟨⟨by decide +kernel, by decide +kernel⟩, by decide +kernel⟩, Or.inl (HG.mem (k_in 795 (by decide +kernel) rfl))⟩, HG.mem (k_in 797 (by decide +kernel) rfl), HG.mem (k_inp (q := (({ cls := "TypeKernelModel", name := "raise", desc := "(I)I" } : Jvm.MethodName), 16)) 45 (by decide +kernel))⟩
theorem Y_Md_156 (HG : z_ok G) : z_Yv G "TypeKernelModel" 156 m_Md_seen 2 := ⟨⟨cd_Md_seen HG, by decide +kernel, by decide, ⟨⟨by decide +kernel, by decide +kernel⟩, by decide +kernel⟩, Or.inl (HG.mem (k_in 819 (by decide +kernel) rfl))⟩, HG.mem (k_in 821 (by decide +kernel) rfl), HG.mem (k_inp (q := (({ cls := "TypeKernelModel", name := "seen", desc := "(II)I" } : Jvm.MethodName), 16)) 46 (by decide +kernel))⟩
theorem Y_Jd_9 (HG : z_ok G) : z_Yi G "TypeKernel$Judgement" 9 m_Row_init := ⟨⟨cd_Row_init HG, by decide +kernel, by decide, ⟨⟨by decide +kernel, by decide +kernel⟩, by decide +kernel⟩, Or.inr ⟨"TypeKernel", HG.mem (k_in 121 (by decide +kernel) rfl)⟩⟩, rfl, rfl, rfl, HG.mem (k_in 41 (by decide +kernel) rfl), HG.mem (k_in 40 (by decide +kernel) rfl)⟩
theorem L_Jd_10 (HG : z_ok G) : z_lnk G "TypeKernel$Judgement" 10 F_Jd 0 := Or.inl (HG.mem (k_in 122 (by decide +kernel) rfl))
theorem L_Jd_10K (HG : z_ok G) : z_cls G 1 R_Jd F_Jd 3 t_Jd := K_Jd HG
theorem L_Jd_16 (HG : z_ok G) : z_lnk G "TypeKernel$Judgement" 16 F_Jd 1 := Or.inl (HG.mem (k_in 124 (by decide +kernel) rfl))
theorem L_Jd_16K (HG : z_ok G) : z_cls G 1 R_Jd F_Jd 3 t_Jd := K_Jd HG
theorem L_Jd_19 (HG : z_ok G) : z_lnk G "TypeKernel$Judgement" 19 F_Jd 2 := Or.inl (HG.mem (k_in 126 (by decide +kernel) rfl))
theorem L_Jd_19K (HG : z_ok G) : z_cls G 1 R_Jd F_Jd 3 t_Jd := K_Jd HG
theorem L_Rw_11 (HG : z_ok G) : z_lnk G "TypeKernel$Rewriter" 11 F_Rw 0 := Or.inl (HG.mem (k_in 90 (by decide +kernel) rfl))
theorem L_Rw_11K (HG : z_ok G) : z_cls G 4 R_Rw F_Rw 7 t_Rw := K_Rw HG
theorem L_Rw_17 (HG : z_ok G) : z_lnk G "TypeKernel$Rewriter" 17 F_Rw 1 := Or.inl (HG.mem (k_in 92 (by decide +kernel) rfl))
theorem L_Rw_17K (HG : z_ok G) : z_cls G 4 R_Rw F_Rw 7 t_Rw := K_Rw HG
theorem Y_Rw_23 (HG : z_ok G) : z_Yi G "TypeKernel$Rewriter" 23 m_Row_init := ⟨⟨cd_Row_init HG, by decide +kernel, by decide, ⟨⟨by decide +kernel, by decide +kernel⟩, by decide +kernel⟩, Or.inr ⟨"TypeKernel", HG.mem (k_in 39 (by decide +kernel) rfl)⟩⟩, rfl, rfl, rfl, HG.mem (k_in 41 (by decide +kernel) rfl), HG.mem (k_in 40 (by decide +kernel) rfl)⟩
theorem L_Rw_24 (HG : z_ok G) : z_lnk G "TypeKernel$Rewriter" 24 F_Rw 2 := Or.inl (HG.mem (k_in 94 (by decide +kernel) rfl))
theorem L_Rw_24K (HG : z_ok G) : z_cls G 4 R_Rw F_Rw 7 t_Rw := K_Rw HG
theorem L_Rw_28 (HG : z_ok G) : z_lnk G "TypeKernel$Rewriter" 28 F_Rw 3 := Or.inl (HG.mem (k_in 95 (by decide +kernel) rfl))
theorem L_Rw_28K (HG : z_ok G) : z_cls G 4 R_Rw F_Rw 7 t_Rw := K_Rw HG
theorem L_Rw_31 (HG : z_ok G) : z_lnk G "TypeKernel$Rewriter" 31 F_Rw 4 := Or.inl (HG.mem (k_in 96 (by decide +kernel) rfl))
theorem L_Rw_31K (HG : z_ok G) : z_cls G 4 R_Rw F_Rw 7 t_Rw := K_Rw HG
theorem Y_Rw_37 (HG : z_ok G) : z_Yi G "TypeKernel$Rewriter" 37 m_Wk_init := ⟨⟨cd_Wk_init HG, by decide +kernel, by decide, ⟨⟨by decide +kernel, by decide +kernel⟩, by decide +kernel⟩, Or.inr ⟨"TypeKernel", HG.mem (k_in 56 (by decide +kernel) rfl)⟩⟩, rfl, rfl, rfl, HG.mem (k_in 58 (by decide +kernel) rfl), HG.mem (k_in 57 (by decide +kernel) rfl)⟩
theorem L_Rw_38 (HG : z_ok G) : z_lnk G "TypeKernel$Rewriter" 38 F_Rw 5 := Or.inl (HG.mem (k_in 97 (by decide +kernel) rfl))
theorem L_Rw_38K (HG : z_ok G) : z_cls G 4 R_Rw F_Rw 7 t_Rw := K_Rw HG
theorem L_Rw_42 (HG : z_ok G) : z_lnk G "TypeKernel$Rewriter" 42 F_Rw 6 := Or.inl (HG.mem (k_in 98 (by decide +kernel) rfl))
theorem L_Rw_42K (HG : z_ok G) : z_cls G 4 R_Rw F_Rw 7 t_Rw := K_Rw HG
theorem Y_Rw_45 (HG : z_ok G) : z_Yi G "TypeKernel$Rewriter" 45 m_Ru_init := ⟨⟨cd_Ru_init HG, by decide +kernel, by decide, ⟨⟨by decide +kernel, by decide +kernel⟩, by decide +kernel⟩, Or.inr ⟨"TypeKernel", HG.mem (k_in 68 (by decide +kernel) rfl)⟩⟩, rfl, rfl, rfl, HG.mem (k_in 70 (by decide +kernel) rfl), HG.mem (k_in 69 (by decide +kernel) rfl)⟩
theorem L_Rw_46 (HG : z_ok G) : z_lnk G "TypeKernel$Rewriter" 46 F_Ru 0 := Or.inr ⟨"TypeKernel", HG.mem (k_in 75 (by decide +kernel) rfl)⟩
theorem L_Rw_46K (HG : z_ok G) : z_cls G 2 R_Ru F_Ru 3 t_Ru := K_Ru HG
theorem Y_Rw_49 (HG : z_ok G) : z_Yv G "TypeKernel$Rewriter" 49 m_Row_copy 1 := ⟨⟨cd_Row_copy HG, by decide +kernel, by decide, ⟨⟨by decide +kernel, by decide +kernel⟩, by decide +kernel⟩, Or.inl (HG.mem (k_in 429 (by decide +kernel) rfl))⟩, HG.mem (k_in 360 (by decide +kernel) rfl), HG.mem (k_in 361 (by decide +kernel) rfl)⟩
theorem L_Rw_53 (HG : z_ok G) : z_lnk G "TypeKernel$Rewriter" 53 F_Ru 1 := Or.inr ⟨"TypeKernel", HG.mem (k_in 78 (by decide +kernel) rfl)⟩
theorem L_Rw_53K (HG : z_ok G) : z_cls G 2 R_Ru F_Ru 3 t_Ru := K_Ru HG
theorem L_Rw_56 (HG : z_ok G) : z_lnk G "TypeKernel$Rewriter" 56 F_Ru 2 := Or.inr ⟨"TypeKernel", HG.mem (k_in 81 (by decide +kernel) rfl)⟩
theorem L_Rw_56K (HG : z_ok G) : z_cls G 2 R_Ru F_Ru 3 t_Ru := K_Ru HG
theorem Y_Rw_59 (HG : z_ok G) : z_Yv G "TypeKernel$Rewriter" 59 m_Rw_step 0 := ⟨⟨cd_Rw_step HG, by decide +kernel, by decide, ⟨⟨by decide +kernel, by decide +kernel⟩, by decide +kernel⟩, Or.inl (HG.mem (k_in 430 (by decide +kernel) rfl))⟩, HG.mem (k_in 432 (by decide +kernel) rfl), HG.mem (k_inp (q := (({ cls := "TypeKernel$Rewriter", name := "step", desc := "()Z" } : Jvm.MethodName), 7)) 10 (by decide +kernel))⟩
theorem L_Rw_66 (HG : z_ok G) : z_lnk G "TypeKernel$Rewriter" 66 F_Row 1 := Or.inr ⟨"TypeKernel", HG.mem (k_in 45 (by decide +kernel) rfl)⟩
theorem L_Rw_66K (HG : z_ok G) : z_cls G 0 R_Row F_Row 2 t_Row := K_Row HG
theorem Y_Rw_69 (HG : z_ok G) : z_Yv G "TypeKernel$Rewriter" 69 m_Row_at 1 := ⟨⟨cd_Row_at HG, by decide +kernel, by decide, ⟨⟨by decide +kernel, by decide +kernel⟩, by decide +kernel⟩, Or.inl (HG.mem (k_in 386 (by decide +kernel) rfl))⟩, HG.mem (k_in 201 (by decide +kernel) rfl), HG.mem (k_in 202 (by decide +kernel) rfl)⟩
theorem Y_Rw_73 (HG : z_ok G) : z_Yv G "TypeKernel$Rewriter" 73 m_Rw_doLambda 1 := ⟨⟨cd_Rw_doLambda HG, by decide +kernel, by decide, ⟨⟨by decide +kernel, by decide +kernel⟩, by decide +kernel⟩, Or.inl (HG.mem (k_in 434 (by decide +kernel) rfl))⟩, HG.mem (k_in 436 (by decide +kernel) rfl), HG.mem (k_inp (q := (({ cls := "TypeKernel$Rewriter", name := "doLambda", desc := "(I)V" } : Jvm.MethodName), 7)) 11 (by decide +kernel))⟩
theorem Y_Rw_77 (HG : z_ok G) : z_Yv G "TypeKernel$Rewriter" 77 m_Rw_firstMatch 1 := ⟨⟨cd_Rw_firstMatch HG, by decide +kernel, by decide, ⟨⟨by decide +kernel, by decide +kernel⟩, by decide +kernel⟩, Or.inl (HG.mem (k_in 460 (by decide +kernel) rfl))⟩, HG.mem (k_in 462 (by decide +kernel) rfl), HG.mem (k_inp (q := (({ cls := "TypeKernel$Rewriter", name := "firstMatch", desc := "(I)I" } : Jvm.MethodName), 7)) 13 (by decide +kernel))⟩
theorem Y_Rw_80 (HG : z_ok G) : z_Yv G "TypeKernel$Rewriter" 80 m_Rw_doRule 2 := ⟨⟨cd_Rw_doRule HG, by decide +kernel, by decide, ⟨⟨by decide +kernel, by decide +kernel⟩, by decide +kernel⟩, Or.inl (HG.mem (k_in 468 (by decide +kernel) rfl))⟩, HG.mem (k_in 470 (by decide +kernel) rfl), HG.mem (k_inp (q := (({ cls := "TypeKernel$Rewriter", name := "doRule", desc := "(LTypeKernel$Rule;I)V" } : Jvm.MethodName), 7)) 15 (by decide +kernel))⟩
theorem Y_Rw_84 (HG : z_ok G) : z_Yv G "TypeKernel$Rewriter" 84 m_Row_endOf 1 := ⟨⟨cd_Row_endOf HG, by decide +kernel, by decide, ⟨⟨by decide +kernel, by decide +kernel⟩, by decide +kernel⟩, Or.inl (HG.mem (k_in 438 (by decide +kernel) rfl))⟩, HG.mem (k_in 439 (by decide +kernel) rfl), HG.mem (k_in 440 (by decide +kernel) rfl)⟩
theorem Y_Rw_87 (HG : z_ok G) : z_Yv G "TypeKernel$Rewriter" 87 m_Row_clear 0 := ⟨⟨cd_Row_clear HG, by decide +kernel, by decide, ⟨⟨by decide +kernel, by decide +kernel⟩, by decide +kernel⟩, Or.inl (HG.mem (k_in 445 (by decide +kernel) rfl))⟩, HG.mem (k_in 314 (by decide +kernel) rfl), HG.mem (k_in 315 (by decide +kernel) rfl)⟩
theorem Y_Rw_90 (HG : z_ok G) : z_Yv G "TypeKernel$Rewriter" 90 m_Row_appendPart 3 := ⟨⟨cd_Row_appendPart HG, by decide +kernel, by decide, ⟨⟨by decide +kernel, by decide +kernel⟩, by decide +kernel⟩, Or.inl (HG.mem (k_in 446 (by decide +kernel) rfl))⟩, HG.mem (k_in 447 (by decide +kernel) rfl), HG.mem (k_in 448 (by decide +kernel) rfl)⟩
theorem Y_Rw_94 (HG : z_ok G) : z_Yv G "TypeKernel$Rewriter" 94 m_Rw_appendBodyWith 5 := ⟨⟨cd_Rw_appendBodyWith HG, by decide +kernel, by decide, ⟨⟨by decide +kernel, by decide +kernel⟩, by decide +kernel⟩, Or.inl (HG.mem (k_in 451 (by decide +kernel) rfl))⟩, HG.mem (k_in 452 (by decide +kernel) rfl), HG.mem (k_in 453 (by decide +kernel) rfl)⟩
theorem Y_Rw_98 (HG : z_ok G) : z_Yv G "TypeKernel$Rewriter" 98 m_Rw_takeNext 0 := ⟨⟨cd_Rw_takeNext HG, by decide +kernel, by decide, ⟨⟨by decide +kernel, by decide +kernel⟩, by decide +kernel⟩, Or.inl (HG.mem (k_in 456 (by decide +kernel) rfl))⟩, HG.mem (k_in 458 (by decide +kernel) rfl), HG.mem (k_inp (q := (({ cls := "TypeKernel$Rewriter", name := "takeNext", desc := "()V" } : Jvm.MethodName), 7)) 12 (by decide +kernel))⟩
theorem Y_Rw_101 (HG : z_ok G) : z_Yv G "TypeKernel$Rewriter" 101 m_Wk_begin 0 := ⟨⟨cd_Wk_begin HG, by decide +kernel, by decide, ⟨⟨by decide +kernel, by decide +kernel⟩, by decide +kernel⟩, Or.inl (HG.mem (k_in 378 (by decide +kernel) rfl))⟩, HG.mem (k_in 379 (by decide +kernel) rfl), HG.mem (k_in 380 (by decide +kernel) rfl)⟩
theorem Y_Rw_104 (HG : z_ok G) : z_Yv G "TypeKernel$Rewriter" 104 m_Wk_goesOn 0 := ⟨⟨cd_Wk_goesOn HG, by decide +kernel, by decide, ⟨⟨by decide +kernel, by decide +kernel⟩, by decide +kernel⟩, Or.inl (HG.mem (k_in 382 (by decide +kernel) rfl))⟩, HG.mem (k_in 383 (by decide +kernel) rfl), HG.mem (k_in 384 (by decide +kernel) rfl)⟩
theorem Y_Rw_107 (HG : z_ok G) : z_Yv G "TypeKernel$Rewriter" 107 m_Wk_depthOf 1 := ⟨⟨cd_Wk_depthOf HG, by decide +kernel, by decide, ⟨⟨by decide +kernel, by decide +kernel⟩, by decide +kernel⟩, Or.inl (HG.mem (k_in 387 (by decide +kernel) rfl))⟩, HG.mem (k_in 388 (by decide +kernel) rfl), HG.mem (k_in 389 (by decide +kernel) rfl)⟩
theorem Y_Rw_110 (HG : z_ok G) : z_Yv G "TypeKernel$Rewriter" 110 m_Rw_appendLifted 4 := ⟨⟨cd_Rw_appendLifted HG, by decide +kernel, by decide, ⟨⟨by decide +kernel, by decide +kernel⟩, by decide +kernel⟩, Or.inl (HG.mem (k_in 455 (by decide +kernel) rfl))⟩, HG.mem (k_in 375 (by decide +kernel) rfl), HG.mem (k_in 376 (by decide +kernel) rfl)⟩
theorem Y_Rw_114 (HG : z_ok G) : z_Yv G "TypeKernel$Rewriter" 114 m_Row_append 1 := ⟨⟨cd_Row_append HG, by decide +kernel, by decide, ⟨⟨by decide +kernel, by decide +kernel⟩, by decide +kernel⟩, Or.inl (HG.mem (k_in 391 (by decide +kernel) rfl))⟩, HG.mem (k_in 318 (by decide +kernel) rfl), HG.mem (k_in 319 (by decide +kernel) rfl)⟩
theorem Y_Rw_117 (HG : z_ok G) : z_Yv G "TypeKernel$Rewriter" 117 m_Rw_matches 2 := ⟨⟨cd_Rw_matches HG, by decide +kernel, by decide, ⟨⟨by decide +kernel, by decide +kernel⟩, by decide +kernel⟩, Or.inl (HG.mem (k_in 464 (by decide +kernel) rfl))⟩, HG.mem (k_in 466 (by decide +kernel) rfl), HG.mem (k_inp (q := (({ cls := "TypeKernel$Rewriter", name := "matches", desc := "(LTypeKernel$Rule;I)Z" } : Jvm.MethodName), 7)) 14 (by decide +kernel))⟩
theorem L_Row_9 (HG : z_ok G) : z_lnk G "TypeKernel$Row" 9 F_Row 0 := Or.inl (HG.mem (k_in 43 (by decide +kernel) rfl))
theorem L_Row_9K (HG : z_ok G) : z_cls G 0 R_Row F_Row 2 t_Row := K_Row HG
theorem L_Row_15 (HG : z_ok G) : z_lnk G "TypeKernel$Row" 15 F_Row 1 := Or.inl (HG.mem (k_in 44 (by decide +kernel) rfl))
theorem L_Row_15K (HG : z_ok G) : z_cls G 0 R_Row F_Row 2 t_Row := K_Row HG
theorem Y_Row_22 (HG : z_ok G) : z_Yv G "TypeKernel$Row" 22 m_Row_at 1 := ⟨⟨cd_Row_at HG, by decide +kernel, by decide, ⟨⟨by decide +kernel, by decide +kernel⟩, by decide +kernel⟩, Or.inl (HG.mem (k_in 450 (by decide +kernel) rfl))⟩, HG.mem (k_in 201 (by decide +kernel) rfl), HG.mem (k_in 202 (by decide +kernel) rfl)⟩
theorem Y_Row_26 (HG : z_ok G) : z_Yv G "TypeKernel$Row" 26 m_Row_append 1 := ⟨⟨cd_Row_append HG, by decide +kernel, by decide, ⟨⟨by decide +kernel, by decide +kernel⟩, by decide +kernel⟩, Or.inl (HG.mem (k_in 317 (by decide +kernel) rfl))⟩, HG.mem (k_in 318 (by decide +kernel) rfl), HG.mem (k_in 319 (by decide +kernel) rfl)⟩
theorem Y_Row_30 (HG : z_ok G) : z_Yv G "TypeKernel$Row" 30 m_Row_clear 0 := ⟨⟨cd_Row_clear HG, by decide +kernel, by decide, ⟨⟨by decide +kernel, by decide +kernel⟩, by decide +kernel⟩, Or.inl (HG.mem (k_in 313 (by decide +kernel) rfl))⟩, HG.mem (k_in 314 (by decide +kernel) rfl), HG.mem (k_in 315 (by decide +kernel) rfl)⟩
theorem Y_Row_39 (HG : z_ok G) : z_Yv G "TypeKernel$Row" 39 m_Row_become 1 := ⟨⟨cd_Row_become HG, by decide +kernel, by decide, ⟨⟨by decide +kernel, by decide +kernel⟩, by decide +kernel⟩, Or.inl (HG.mem (k_in 498 (by decide +kernel) rfl))⟩, HG.mem (k_in 310 (by decide +kernel) rfl), HG.mem (k_in 311 (by decide +kernel) rfl)⟩
theorem Y_Row_42 (HG : z_ok G) : z_Yv G "TypeKernel$Row" 42 m_Row_appendPart 3 := ⟨⟨cd_Row_appendPart HG, by decide +kernel, by decide, ⟨⟨by decide +kernel, by decide +kernel⟩, by decide +kernel⟩, Or.inl (HG.mem (k_in 499 (by decide +kernel) rfl))⟩, HG.mem (k_in 447 (by decide +kernel) rfl), HG.mem (k_in 448 (by decide +kernel) rfl)⟩
theorem Y_Row_46 (HG : z_ok G) : z_Ys G "TypeKernel$Row" 46 m_Row_hasParts 1 := ⟨⟨cd_Row_hasParts HG, by decide +kernel, by decide, ⟨⟨by decide +kernel, by decide +kernel⟩, by decide +kernel⟩, Or.inl (HG.mem (k_in 442 (by decide +kernel) rfl))⟩, HG.mem (k_in 443 (by decide +kernel) rfl), HG.mem (k_in 3 (by decide +kernel) rfl)⟩
theorem Y_Row_50 (HG : z_ok G) : z_Yv G "TypeKernel$Row" 50 m_Row_isPart 3 := ⟨⟨cd_Row_isPart HG, by decide +kernel, by decide, ⟨⟨by decide +kernel, by decide +kernel⟩, by decide +kernel⟩, Or.inl (HG.mem (k_in 570 (by decide +kernel) rfl))⟩, HG.mem (k_in 491 (by decide +kernel) rfl), HG.mem (k_in 492 (by decide +kernel) rfl)⟩
theorem Y_Ru_9 (HG : z_ok G) : z_Yi G "TypeKernel$Rule" 9 m_Row_init := ⟨⟨cd_Row_init HG, by decide +kernel, by decide, ⟨⟨by decide +kernel, by decide +kernel⟩, by decide +kernel⟩, Or.inr ⟨"TypeKernel", HG.mem (k_in 73 (by decide +kernel) rfl)⟩⟩, rfl, rfl, rfl, HG.mem (k_in 41 (by decide +kernel) rfl), HG.mem (k_in 40 (by decide +kernel) rfl)⟩
theorem L_Ru_10 (HG : z_ok G) : z_lnk G "TypeKernel$Rule" 10 F_Ru 0 := Or.inl (HG.mem (k_in 74 (by decide +kernel) rfl))
theorem L_Ru_10K (HG : z_ok G) : z_cls G 2 R_Ru F_Ru 3 t_Ru := K_Ru HG
theorem L_Ru_16 (HG : z_ok G) : z_lnk G "TypeKernel$Rule" 16 F_Ru 1 := Or.inl (HG.mem (k_in 77 (by decide +kernel) rfl))
theorem L_Ru_16K (HG : z_ok G) : z_cls G 2 R_Ru F_Ru 3 t_Ru := K_Ru HG
theorem L_Ru_19 (HG : z_ok G) : z_lnk G "TypeKernel$Rule" 19 F_Ru 2 := Or.inl (HG.mem (k_in 80 (by decide +kernel) rfl))
theorem L_Ru_19K (HG : z_ok G) : z_cls G 2 R_Ru F_Ru 3 t_Ru := K_Ru HG
theorem L_Wk_9 (HG : z_ok G) : z_lnk G "TypeKernel$Walk" 9 F_Wk 0 := Or.inl (HG.mem (k_in 60 (by decide +kernel) rfl))
theorem L_Wk_9K (HG : z_ok G) : z_cls G 3 R_Wk F_Wk 2 t_Wk := K_Wk HG
theorem L_Wk_15 (HG : z_ok G) : z_lnk G "TypeKernel$Walk" 15 F_Wk 1 := Or.inl (HG.mem (k_in 61 (by decide +kernel) rfl))
theorem L_Wk_15K (HG : z_ok G) : z_cls G 3 R_Wk F_Wk 2 t_Wk := K_Wk HG
theorem Y_Lw_7 (HG : z_ok G) : z_Yv G "TypeKernelLaw" 7 m_TK_sort 0 := ⟨⟨cd_TK_sort HG, by decide +kernel, by decide, ⟨⟨by decide +kernel, by decide +kernel⟩, by decide +kernel⟩, Or.inl (HG.mem (k_in 236 (by decide +kernel) rfl))⟩, HG.mem (k_in 237 (by decide +kernel) rfl), HG.mem (k_in 238 (by decide +kernel) rfl)⟩
theorem Y_Lw_14 (HG : z_ok G) : z_Yv G "TypeKernelLaw" 14 m_TK_constant 1 := ⟨⟨cd_TK_constant HG, by decide +kernel, by decide, ⟨⟨by decide +kernel, by decide +kernel⟩, by decide +kernel⟩, Or.inl (HG.mem (k_in 340 (by decide +kernel) rfl))⟩, HG.mem (k_in 341 (by decide +kernel) rfl), HG.mem (k_in 342 (by decide +kernel) rfl)⟩
theorem Y_Lw_20 (HG : z_ok G) : z_Yv G "TypeKernelLaw" 20 m_TK_variable 1 := ⟨⟨cd_TK_variable HG, by decide +kernel, by decide, ⟨⟨by decide +kernel, by decide +kernel⟩, by decide +kernel⟩, Or.inl (HG.mem (k_in 369 (by decide +kernel) rfl))⟩, HG.mem (k_in 370 (by decide +kernel) rfl), HG.mem (k_in 371 (by decide +kernel) rfl)⟩
theorem Y_Lw_23 (HG : z_ok G) : z_Yv G "TypeKernelLaw" 23 m_TK_apply 0 := ⟨⟨cd_TK_apply HG, by decide +kernel, by decide, ⟨⟨by decide +kernel, by decide +kernel⟩, by decide +kernel⟩, Or.inl (HG.mem (k_in 398 (by decide +kernel) rfl))⟩, HG.mem (k_in 399 (by decide +kernel) rfl), HG.mem (k_in 400 (by decide +kernel) rfl)⟩
theorem Y_Lw_32 (HG : z_ok G) : z_Yv G "TypeKernelLaw" 32 m_TK_assume 0 := ⟨⟨cd_TK_assume HG, by decide +kernel, by decide, ⟨⟨by decide +kernel, by decide +kernel⟩, by decide +kernel⟩, Or.inl (HG.mem (k_in 504 (by decide +kernel) rfl))⟩, HG.mem (k_in 505 (by decide +kernel) rfl), HG.mem (k_in 506 (by decide +kernel) rfl)⟩
theorem Y_Lw_35 (HG : z_ok G) : z_Yv G "TypeKernelLaw" 35 m_TK_lambda 0 := ⟨⟨cd_TK_lambda HG, by decide +kernel, by decide, ⟨⟨by decide +kernel, by decide +kernel⟩, by decide +kernel⟩, Or.inl (HG.mem (k_in 515 (by decide +kernel) rfl))⟩, HG.mem (k_in 516 (by decide +kernel) rfl), HG.mem (k_in 517 (by decide +kernel) rfl)⟩
theorem Y_Lw_38 (HG : z_ok G) : z_Yv G "TypeKernelLaw" 38 m_TK_product 0 := ⟨⟨cd_TK_product HG, by decide +kernel, by decide, ⟨⟨by decide +kernel, by decide +kernel⟩, by decide +kernel⟩, Or.inl (HG.mem (k_in 530 (by decide +kernel) rfl))⟩, HG.mem (k_in 531 (by decide +kernel) rfl), HG.mem (k_in 532 (by decide +kernel) rfl)⟩
theorem Y_Lw_41 (HG : z_ok G) : z_Yv G "TypeKernelLaw" 41 m_TK_declare 1 := ⟨⟨cd_TK_declare HG, by decide +kernel, by decide, ⟨⟨by decide +kernel, by decide +kernel⟩, by decide +kernel⟩, Or.inl (HG.mem (k_in 540 (by decide +kernel) rfl))⟩, HG.mem (k_in 541 (by decide +kernel) rfl), HG.mem (k_in 542 (by decide +kernel) rfl)⟩
theorem Y_Lw_45 (HG : z_ok G) : z_Yv G "TypeKernelLaw" 45 m_TK_rule 0 := ⟨⟨cd_TK_rule HG, by decide +kernel, by decide, ⟨⟨by decide +kernel, by decide +kernel⟩, by decide +kernel⟩, Or.inl (HG.mem (k_in 547 (by decide +kernel) rfl))⟩, HG.mem (k_in 548 (by decide +kernel) rfl), HG.mem (k_in 549 (by decide +kernel) rfl)⟩
theorem Y_Lw_49 (HG : z_ok G) : z_Yv G "TypeKernelLaw" 49 m_TK_normal 0 := ⟨⟨cd_TK_normal HG, by decide +kernel, by decide, ⟨⟨by decide +kernel, by decide +kernel⟩, by decide +kernel⟩, Or.inl (HG.mem (k_in 578 (by decide +kernel) rfl))⟩, HG.mem (k_in 579 (by decide +kernel) rfl), HG.mem (k_in 580 (by decide +kernel) rfl)⟩
theorem Y_Lw_52 (HG : z_ok G) : z_Yv G "TypeKernelLaw" 52 m_TK_same 0 := ⟨⟨cd_TK_same HG, by decide +kernel, by decide, ⟨⟨by decide +kernel, by decide +kernel⟩, by decide +kernel⟩, Or.inl (HG.mem (k_in 585 (by decide +kernel) rfl))⟩, HG.mem (k_in 586 (by decide +kernel) rfl), HG.mem (k_in 587 (by decide +kernel) rfl)⟩
theorem Y_Lw_56 (HG : z_ok G) : z_Yi G "TypeKernelLaw" 56 m_TK_init := ⟨⟨cd_TK_init HG, by decide +kernel, by decide, ⟨⟨by decide +kernel, by decide +kernel⟩, by decide +kernel⟩, Or.inl (HG.mem (k_in 19 (by decide +kernel) rfl))⟩, rfl, rfl, rfl, HG.mem (k_in 21 (by decide +kernel) rfl), HG.mem (k_in 20 (by decide +kernel) rfl)⟩
theorem Y_Lw_59 (HG : z_ok G) : z_Yi G "TypeKernelLaw" 59 m_Md_init := ⟨⟨cd_Md_init HG, by decide +kernel, by decide, ⟨⟨by decide +kernel, by decide +kernel⟩, by decide +kernel⟩, Or.inl (HG.mem (k_in 591 (by decide +kernel) rfl))⟩, rfl, rfl, rfl, HG.mem (k_in 593 (by decide +kernel) rfl), HG.mem (k_in 592 (by decide +kernel) rfl)⟩
theorem Y_Lw_60 (HG : z_ok G) : z_Ys G "TypeKernelLaw" 60 m_Lw_sort 1 := ⟨⟨cd_Lw_sort HG, by decide +kernel, by decide, ⟨⟨by decide +kernel, by decide +kernel⟩, by decide +kernel⟩, Or.inl (HG.mem (k_in 232 (by decide +kernel) rfl))⟩, HG.mem (k_in 233 (by decide +kernel) rfl), HG.mem (k_in 0 (by decide +kernel) rfl)⟩
theorem Y_Lw_65 (HG : z_ok G) : z_Yv G "TypeKernelLaw" 65 m_Md_sort 0 := ⟨⟨cd_Md_sort HG, by decide +kernel, by decide, ⟨⟨by decide +kernel, by decide +kernel⟩, by decide +kernel⟩, Or.inl (HG.mem (k_in 648 (by decide +kernel) rfl))⟩, HG.mem (k_in 649 (by decide +kernel) rfl), HG.mem (k_in 650 (by decide +kernel) rfl)⟩
theorem Y_Lw_66 (HG : z_ok G) : z_Yv G "TypeKernelLaw" 66 m_Md_thrown 0 := ⟨⟨cd_Md_thrown HG, by decide +kernel, by decide, ⟨⟨by decide +kernel, by decide +kernel⟩, by decide +kernel⟩, Or.inl (HG.mem (k_in 644 (by decide +kernel) rfl))⟩, HG.mem (k_in 645 (by decide +kernel) rfl), HG.mem (k_in 646 (by decide +kernel) rfl)⟩
theorem Y_Lw_69 (HG : z_ok G) : z_Ys G "TypeKernelLaw" 69 m_Lw_constant 2 := ⟨⟨cd_Lw_constant HG, by decide +kernel, by decide, ⟨⟨by decide +kernel, by decide +kernel⟩, by decide +kernel⟩, Or.inl (HG.mem (k_in 336 (by decide +kernel) rfl))⟩, HG.mem (k_in 337 (by decide +kernel) rfl), HG.mem (k_in 0 (by decide +kernel) rfl)⟩
theorem Y_Lw_72 (HG : z_ok G) : z_Yv G "TypeKernelLaw" 72 m_Md_constant 1 := ⟨⟨cd_Md_constant HG, by decide +kernel, by decide, ⟨⟨by decide +kernel, by decide +kernel⟩, by decide +kernel⟩, Or.inl (HG.mem (k_in 660 (by decide +kernel) rfl))⟩, HG.mem (k_in 661 (by decide +kernel) rfl), HG.mem (k_in 662 (by decide +kernel) rfl)⟩
theorem Y_Lw_73 (HG : z_ok G) : z_Ys G "TypeKernelLaw" 73 m_Lw_variable 2 := ⟨⟨cd_Lw_variable HG, by decide +kernel, by decide, ⟨⟨by decide +kernel, by decide +kernel⟩, by decide +kernel⟩, Or.inl (HG.mem (k_in 366 (by decide +kernel) rfl))⟩, HG.mem (k_in 367 (by decide +kernel) rfl), HG.mem (k_in 0 (by decide +kernel) rfl)⟩
theorem Y_Lw_75 (HG : z_ok G) : z_Yv G "TypeKernelLaw" 75 m_Md_variable 1 := ⟨⟨cd_Md_variable HG, by decide +kernel, by decide, ⟨⟨by decide +kernel, by decide +kernel⟩, by decide +kernel⟩, Or.inl (HG.mem (k_in 672 (by decide +kernel) rfl))⟩, HG.mem (k_in 673 (by decide +kernel) rfl), HG.mem (k_in 674 (by decide +kernel) rfl)⟩
theorem Y_Lw_76 (HG : z_ok G) : z_Ys G "TypeKernelLaw" 76 m_Lw_apply 1 := ⟨⟨cd_Lw_apply HG, by decide +kernel, by decide, ⟨⟨by decide +kernel, by decide +kernel⟩, by decide +kernel⟩, Or.inl (HG.mem (k_in 392 (by decide +kernel) rfl))⟩, HG.mem (k_in 393 (by decide +kernel) rfl), HG.mem (k_in 0 (by decide +kernel) rfl)⟩
theorem Y_Lw_78 (HG : z_ok G) : z_Yv G "TypeKernelLaw" 78 m_Md_apply 0 := ⟨⟨cd_Md_apply HG, by decide +kernel, by decide, ⟨⟨by decide +kernel, by decide +kernel⟩, by decide +kernel⟩, Or.inl (HG.mem (k_in 687 (by decide +kernel) rfl))⟩, HG.mem (k_in 688 (by decide +kernel) rfl), HG.mem (k_in 689 (by decide +kernel) rfl)⟩
theorem Y_Lw_79 (HG : z_ok G) : z_Ys G "TypeKernelLaw" 79 m_Lw_assume 1 := ⟨⟨cd_Lw_assume HG, by decide +kernel, by decide, ⟨⟨by decide +kernel, by decide +kernel⟩, by decide +kernel⟩, Or.inl (HG.mem (k_in 501 (by decide +kernel) rfl))⟩, HG.mem (k_in 502 (by decide +kernel) rfl), HG.mem (k_in 0 (by decide +kernel) rfl)⟩
theorem Y_Lw_81 (HG : z_ok G) : z_Yv G "TypeKernelLaw" 81 m_Md_assume 0 := ⟨⟨cd_Md_assume HG, by decide +kernel, by decide, ⟨⟨by decide +kernel, by decide +kernel⟩, by decide +kernel⟩, Or.inl (HG.mem (k_in 739 (by decide +kernel) rfl))⟩, HG.mem (k_in 740 (by decide +kernel) rfl), HG.mem (k_in 741 (by decide +kernel) rfl)⟩
theorem Y_Lw_82 (HG : z_ok G) : z_Ys G "TypeKernelLaw" 82 m_Lw_lambda 1 := ⟨⟨cd_Lw_lambda HG, by decide +kernel, by decide, ⟨⟨by decide +kernel, by decide +kernel⟩, by decide +kernel⟩, Or.inl (HG.mem (k_in 512 (by decide +kernel) rfl))⟩, HG.mem (k_in 513 (by decide +kernel) rfl), HG.mem (k_in 0 (by decide +kernel) rfl)⟩
theorem Y_Lw_84 (HG : z_ok G) : z_Yv G "TypeKernelLaw" 84 m_Md_lambda 0 := ⟨⟨cd_Md_lambda HG, by decide +kernel, by decide, ⟨⟨by decide +kernel, by decide +kernel⟩, by decide +kernel⟩, Or.inl (HG.mem (k_in 747 (by decide +kernel) rfl))⟩, HG.mem (k_in 748 (by decide +kernel) rfl), HG.mem (k_in 749 (by decide +kernel) rfl)⟩
theorem Y_Lw_85 (HG : z_ok G) : z_Ys G "TypeKernelLaw" 85 m_Lw_product 1 := ⟨⟨cd_Lw_product HG, by decide +kernel, by decide, ⟨⟨by decide +kernel, by decide +kernel⟩, by decide +kernel⟩, Or.inl (HG.mem (k_in 527 (by decide +kernel) rfl))⟩, HG.mem (k_in 528 (by decide +kernel) rfl), HG.mem (k_in 0 (by decide +kernel) rfl)⟩
theorem Y_Lw_87 (HG : z_ok G) : z_Yv G "TypeKernelLaw" 87 m_Md_product 0 := ⟨⟨cd_Md_product HG, by decide +kernel, by decide, ⟨⟨by decide +kernel, by decide +kernel⟩, by decide +kernel⟩, Or.inl (HG.mem (k_in 767 (by decide +kernel) rfl))⟩, HG.mem (k_in 768 (by decide +kernel) rfl), HG.mem (k_in 769 (by decide +kernel) rfl)⟩
theorem Y_Lw_88 (HG : z_ok G) : z_Ys G "TypeKernelLaw" 88 m_Lw_declare 3 := ⟨⟨cd_Lw_declare HG, by decide +kernel, by decide, ⟨⟨by decide +kernel, by decide +kernel⟩, by decide +kernel⟩, Or.inl (HG.mem (k_in 537 (by decide +kernel) rfl))⟩, HG.mem (k_in 538 (by decide +kernel) rfl), HG.mem (k_in 0 (by decide +kernel) rfl)⟩
theorem Y_Lw_91 (HG : z_ok G) : z_Yv G "TypeKernelLaw" 91 m_Md_declare 1 := ⟨⟨cd_Md_declare HG, by decide +kernel, by decide, ⟨⟨by decide +kernel, by decide +kernel⟩, by decide +kernel⟩, Or.inl (HG.mem (k_in 771 (by decide +kernel) rfl))⟩, HG.mem (k_in 772 (by decide +kernel) rfl), HG.mem (k_in 773 (by decide +kernel) rfl)⟩
theorem Y_Lw_92 (HG : z_ok G) : z_Ys G "TypeKernelLaw" 92 m_Lw_rule 2 := ⟨⟨cd_Lw_rule HG, by decide +kernel, by decide, ⟨⟨by decide +kernel, by decide +kernel⟩, by decide +kernel⟩, Or.inl (HG.mem (k_in 544 (by decide +kernel) rfl))⟩, HG.mem (k_in 545 (by decide +kernel) rfl), HG.mem (k_in 0 (by decide +kernel) rfl)⟩
theorem Y_Lw_95 (HG : z_ok G) : z_Yv G "TypeKernelLaw" 95 m_Md_rule 0 := ⟨⟨cd_Md_rule HG, by decide +kernel, by decide, ⟨⟨by decide +kernel, by decide +kernel⟩, by decide +kernel⟩, Or.inl (HG.mem (k_in 775 (by decide +kernel) rfl))⟩, HG.mem (k_in 776 (by decide +kernel) rfl), HG.mem (k_in 777 (by decide +kernel) rfl)⟩
theorem Y_Lw_96 (HG : z_ok G) : z_Ys G "TypeKernelLaw" 96 m_Lw_normal 2 := ⟨⟨cd_Lw_normal HG, by decide +kernel, by decide, ⟨⟨by decide +kernel, by decide +kernel⟩, by decide +kernel⟩, Or.inl (HG.mem (k_in 575 (by decide +kernel) rfl))⟩, HG.mem (k_in 576 (by decide +kernel) rfl), HG.mem (k_in 0 (by decide +kernel) rfl)⟩
theorem Y_Lw_98 (HG : z_ok G) : z_Yv G "TypeKernelLaw" 98 m_Md_normal 0 := ⟨⟨cd_Md_normal HG, by decide +kernel, by decide, ⟨⟨by decide +kernel, by decide +kernel⟩, by decide +kernel⟩, Or.inl (HG.mem (k_in 791 (by decide +kernel) rfl))⟩, HG.mem (k_in 792 (by decide +kernel) rfl), HG.mem (k_in 793 (by decide +kernel) rfl)⟩
theorem Y_Lw_99 (HG : z_ok G) : z_Ys G "TypeKernelLaw" 99 m_Lw_same 2 := ⟨⟨cd_Lw_same HG, by decide +kernel, by decide, ⟨⟨by decide +kernel, by decide +kernel⟩, by decide +kernel⟩, Or.inl (HG.mem (k_in 582 (by decide +kernel) rfl))⟩, HG.mem (k_in 583 (by decide +kernel) rfl), HG.mem (k_in 0 (by decide +kernel) rfl)⟩
theorem Y_Lw_101 (HG : z_ok G) : z_Yv G "TypeKernelLaw" 101 m_Md_same 0 := ⟨⟨cd_Md_same HG, by decide +kernel, by decide, ⟨⟨by decide +kernel, by decide +kernel⟩, by decide +kernel⟩, Or.inl (HG.mem (k_in 799 (by decide +kernel) rfl))⟩, HG.mem (k_in 800 (by decide +kernel) rfl), HG.mem (k_in 801 (by decide +kernel) rfl)⟩
theorem Y_Lw_102 (HG : z_ok G) : z_Yv G "TypeKernelLaw" 102 m_TK_drop 0 := ⟨⟨cd_TK_drop HG, by decide +kernel, by decide, ⟨⟨by decide +kernel, by decide +kernel⟩, by decide +kernel⟩, Or.inl (HG.mem (k_in 172 (by decide +kernel) rfl))⟩, HG.mem (k_in 173 (by decide +kernel) rfl), HG.mem (k_in 174 (by decide +kernel) rfl)⟩
theorem Y_Lw_105 (HG : z_ok G) : z_Yv G "TypeKernelLaw" 105 m_Md_drop 0 := ⟨⟨cd_Md_drop HG, by decide +kernel, by decide, ⟨⟨by decide +kernel, by decide +kernel⟩, by decide +kernel⟩, Or.inl (HG.mem (k_in 803 (by decide +kernel) rfl))⟩, HG.mem (k_in 804 (by decide +kernel) rfl), HG.mem (k_in 805 (by decide +kernel) rfl)⟩
theorem Y_Lw_106 (HG : z_ok G) : z_Yv G "TypeKernelLaw" 106 m_TK_leave 0 := ⟨⟨cd_TK_leave HG, by decide +kernel, by decide, ⟨⟨by decide +kernel, by decide +kernel⟩, by decide +kernel⟩, Or.inl (HG.mem (k_in 176 (by decide +kernel) rfl))⟩, HG.mem (k_in 177 (by decide +kernel) rfl), HG.mem (k_in 178 (by decide +kernel) rfl)⟩
theorem Y_Lw_109 (HG : z_ok G) : z_Yv G "TypeKernelLaw" 109 m_Md_leave 0 := ⟨⟨cd_Md_leave HG, by decide +kernel, by decide, ⟨⟨by decide +kernel, by decide +kernel⟩, by decide +kernel⟩, Or.inl (HG.mem (k_in 807 (by decide +kernel) rfl))⟩, HG.mem (k_in 808 (by decide +kernel) rfl), HG.mem (k_in 809 (by decide +kernel) rfl)⟩
theorem Y_Lw_110 (HG : z_ok G) : z_Yv G "TypeKernelLaw" 110 m_TK_counts 0 := ⟨⟨cd_TK_counts HG, by decide +kernel, by decide, ⟨⟨by decide +kernel, by decide +kernel⟩, by decide +kernel⟩, Or.inl (HG.mem (k_in 184 (by decide +kernel) rfl))⟩, HG.mem (k_in 185 (by decide +kernel) rfl), HG.mem (k_in 186 (by decide +kernel) rfl)⟩
theorem Y_Lw_113 (HG : z_ok G) : z_Yv G "TypeKernelLaw" 113 m_Md_counts 0 := ⟨⟨cd_Md_counts HG, by decide +kernel, by decide, ⟨⟨by decide +kernel, by decide +kernel⟩, by decide +kernel⟩, Or.inl (HG.mem (k_in 811 (by decide +kernel) rfl))⟩, HG.mem (k_in 812 (by decide +kernel) rfl), HG.mem (k_in 813 (by decide +kernel) rfl)⟩
theorem Y_Lw_114 (HG : z_ok G) : z_Yv G "TypeKernelLaw" 114 m_TK_judgement 3 := ⟨⟨cd_TK_judgement HG, by decide +kernel, by decide, ⟨⟨by decide +kernel, by decide +kernel⟩, by decide +kernel⟩, Or.inl (HG.mem (k_in 188 (by decide +kernel) rfl))⟩, HG.mem (k_in 189 (by decide +kernel) rfl), HG.mem (k_in 190 (by decide +kernel) rfl)⟩
theorem Y_Lw_118 (HG : z_ok G) : z_Yv G "TypeKernelLaw" 118 m_Md_judgement 3 := ⟨⟨cd_Md_judgement HG, by decide +kernel, by decide, ⟨⟨by decide +kernel, by decide +kernel⟩, by decide +kernel⟩, Or.inl (HG.mem (k_in 815 (by decide +kernel) rfl))⟩, HG.mem (k_in 816 (by decide +kernel) rfl), HG.mem (k_in 817 (by decide +kernel) rfl)⟩
theorem Y_Lw_119 (HG : z_ok G) : z_Yv G "TypeKernelLaw" 119 m_TK_made 1 := ⟨⟨cd_TK_made HG, by decide +kernel, by decide, ⟨⟨by decide +kernel, by decide +kernel⟩, by decide +kernel⟩, Or.inl (HG.mem (k_in 204 (by decide +kernel) rfl))⟩, HG.mem (k_in 205 (by decide +kernel) rfl), HG.mem (k_in 206 (by decide +kernel) rfl)⟩
theorem Y_Lw_123 (HG : z_ok G) : z_Yv G "TypeKernelLaw" 123 m_Md_made 1 := ⟨⟨cd_Md_made HG, by decide +kernel, by decide, ⟨⟨by decide +kernel, by decide +kernel⟩, by decide +kernel⟩, Or.inl (HG.mem (k_in 823 (by decide +kernel) rfl))⟩, HG.mem (k_in 824 (by decide +kernel) rfl), HG.mem (k_in 825 (by decide +kernel) rfl)⟩
theorem Y_Lw_124 (HG : z_ok G) : z_Yv G "TypeKernelLaw" 124 m_TK_entry 2 := ⟨⟨cd_TK_entry HG, by decide +kernel, by decide, ⟨⟨by decide +kernel, by decide +kernel⟩, by decide +kernel⟩, Or.inl (HG.mem (k_in 208 (by decide +kernel) rfl))⟩, HG.mem (k_in 209 (by decide +kernel) rfl), HG.mem (k_in 210 (by decide +kernel) rfl)⟩
theorem Y_Lw_128 (HG : z_ok G) : z_Yv G "TypeKernelLaw" 128 m_Md_entry 2 := ⟨⟨cd_Md_entry HG, by decide +kernel, by decide, ⟨⟨by decide +kernel, by decide +kernel⟩, by decide +kernel⟩, Or.inl (HG.mem (k_in 827 (by decide +kernel) rfl))⟩, HG.mem (k_in 828 (by decide +kernel) rfl), HG.mem (k_in 829 (by decide +kernel) rfl)⟩
theorem Y_Lw_129 (HG : z_ok G) : z_Yv G "TypeKernelLaw" 129 m_TK_type 2 := ⟨⟨cd_TK_type HG, by decide +kernel, by decide, ⟨⟨by decide +kernel, by decide +kernel⟩, by decide +kernel⟩, Or.inl (HG.mem (k_in 220 (by decide +kernel) rfl))⟩, HG.mem (k_in 221 (by decide +kernel) rfl), HG.mem (k_in 222 (by decide +kernel) rfl)⟩
theorem Y_Lw_132 (HG : z_ok G) : z_Yv G "TypeKernelLaw" 132 m_Md_type 2 := ⟨⟨cd_Md_type HG, by decide +kernel, by decide, ⟨⟨by decide +kernel, by decide +kernel⟩, by decide +kernel⟩, Or.inl (HG.mem (k_in 831 (by decide +kernel) rfl))⟩, HG.mem (k_in 832 (by decide +kernel) rfl), HG.mem (k_in 833 (by decide +kernel) rfl)⟩
theorem Y_Lw_133 (HG : z_ok G) : z_Yv G "TypeKernelLaw" 133 m_TK_side 3 := ⟨⟨cd_TK_side HG, by decide +kernel, by decide, ⟨⟨by decide +kernel, by decide +kernel⟩, by decide +kernel⟩, Or.inl (HG.mem (k_in 228 (by decide +kernel) rfl))⟩, HG.mem (k_in 229 (by decide +kernel) rfl), HG.mem (k_in 230 (by decide +kernel) rfl)⟩
theorem Y_Lw_136 (HG : z_ok G) : z_Yv G "TypeKernelLaw" 136 m_Md_side 3 := ⟨⟨cd_Md_side HG, by decide +kernel, by decide, ⟨⟨by decide +kernel, by decide +kernel⟩, by decide +kernel⟩, Or.inl (HG.mem (k_in 835 (by decide +kernel) rfl))⟩, HG.mem (k_in 836 (by decide +kernel) rfl), HG.mem (k_in 837 (by decide +kernel) rfl)⟩
theorem t_TK_78 (HG : z_ok G) : ∀ w ∈ z_thr "TypeKernel" 78 80 "java/lang/IndexOutOfBoundsException", w ∈ G.Ts := fun w h => HG.mem (of_decide_eq_true (List.all_eq_true.mp (by decide +kernel : (z_thr "TypeKernel" 78 80 "java/lang/IndexOutOfBoundsException").all (fun w => decide (w ∈ k_ws)) = true) w h))
theorem t_TK_111 (HG : z_ok G) : ∀ w ∈ z_thr "TypeKernel" 111 113 "java/lang/IllegalArgumentException", w ∈ G.Ts := fun w h => HG.mem (of_decide_eq_true (List.all_eq_true.mp (by decide +kernel : (z_thr "TypeKernel" 111 113 "java/lang/IllegalArgumentException").all (fun w => decide (w ∈ k_ws)) = true) w h))
theorem t_TK_129 (HG : z_ok G) : ∀ w ∈ z_thr "TypeKernel" 129 131 "java/lang/UnsupportedOperationException", w ∈ G.Ts := fun w h => HG.mem (of_decide_eq_true (List.all_eq_true.mp (by decide +kernel : (z_thr "TypeKernel" 129 131 "java/lang/UnsupportedOperationException").all (fun w => decide (w ∈ k_ws)) = true) w h))
theorem t_TK_146 (HG : z_ok G) : ∀ w ∈ z_thr "TypeKernel" 146 148 "java/lang/IllegalStateException", w ∈ G.Ts := fun w h => HG.mem (of_decide_eq_true (List.all_eq_true.mp (by decide +kernel : (z_thr "TypeKernel" 146 148 "java/lang/IllegalStateException").all (fun w => decide (w ∈ k_ws)) = true) w h))
theorem t_Rw_63 (HG : z_ok G) : ∀ w ∈ z_thr "TypeKernel$Rewriter" 63 65 "java/lang/ArithmeticException", w ∈ G.Ts := fun w h => HG.mem (of_decide_eq_true (List.all_eq_true.mp (by decide +kernel : (z_thr "TypeKernel$Rewriter" 63 65 "java/lang/ArithmeticException").all (fun w => decide (w ∈ k_ws)) = true) w h))
theorem t_Row_19 (HG : z_ok G) : ∀ w ∈ z_thr "TypeKernel$Row" 19 21 "java/lang/ArithmeticException", w ∈ G.Ts := fun w h => HG.mem (of_decide_eq_true (List.all_eq_true.mp (by decide +kernel : (z_thr "TypeKernel$Row" 19 21 "java/lang/ArithmeticException").all (fun w => decide (w ∈ k_ws)) = true) w h))
end ZN
end
section
theorem d_Row_init_0 : decode m_Row_init.2.1 0 = .ok (.aload_n 0, 1) := by decide +kernel
theorem d_Row_init_1 : decode m_Row_init.2.1 1 = .ok (.invokespecial 3, 3) := by decide +kernel
theorem d_Row_init_4 : decode m_Row_init.2.1 4 = .ok (.aload_n 0, 1) := by decide +kernel
theorem d_Row_init_5 : decode m_Row_init.2.1 5 = .ok (.bipush 40, 2) := by decide +kernel
theorem d_Row_init_7 : decode m_Row_init.2.1 7 = .ok (.newarray .int, 2) := by decide +kernel
theorem d_Row_init_9 : decode m_Row_init.2.1 9 = .ok (.putfield 9, 3) := by decide +kernel
theorem d_Row_init_12 : decode m_Row_init.2.1 12 = .ok (.aload_n 0, 1) := by decide +kernel
theorem d_Row_init_13 : decode m_Row_init.2.1 13 = .ok (.iconst 0, 1) := by decide +kernel
theorem d_Row_init_14 : decode m_Row_init.2.1 14 = .ok (.putfield 15, 3) := by decide +kernel
theorem d_Row_init_17 : decode m_Row_init.2.1 17 = .ok (.return_, 1) := by decide +kernel
theorem d_Row_at_0 : decode m_Row_at.2.1 0 = .ok (.iload_n 1, 1) := by decide +kernel
theorem d_Row_at_1 : decode m_Row_at.2.1 1 = .ok (.ifCond .lt 20, 3) := by decide +kernel
theorem d_Row_at_4 : decode m_Row_at.2.1 4 = .ok (.iload_n 1, 1) := by decide +kernel
theorem d_Row_at_5 : decode m_Row_at.2.1 5 = .ok (.aload_n 0, 1) := by decide +kernel
theorem d_Row_at_6 : decode m_Row_at.2.1 6 = .ok (.getfield 15, 3) := by decide +kernel
theorem d_Row_at_9 : decode m_Row_at.2.1 9 = .ok (.if_icmp .ge 12, 3) := by decide +kernel
theorem d_Row_at_12 : decode m_Row_at.2.1 12 = .ok (.aload_n 0, 1) := by decide +kernel
theorem d_Row_at_13 : decode m_Row_at.2.1 13 = .ok (.getfield 9, 3) := by decide +kernel
theorem d_Row_at_16 : decode m_Row_at.2.1 16 = .ok (.iload_n 1, 1) := by decide +kernel
theorem d_Row_at_17 : decode m_Row_at.2.1 17 = .ok (.iaload, 1) := by decide +kernel
theorem d_Row_at_18 : decode m_Row_at.2.1 18 = .ok (.goto 4, 3) := by decide +kernel
theorem d_Row_at_21 : decode m_Row_at.2.1 21 = .ok (.iconst (-1), 1) := by decide +kernel
theorem d_Row_at_22 : decode m_Row_at.2.1 22 = .ok (.ireturn, 1) := by decide +kernel
theorem d_Row_is_0 : decode m_Row_is.2.1 0 = .ok (.aload_n 0, 1) := by decide +kernel
theorem d_Row_is_1 : decode m_Row_is.2.1 1 = .ok (.getfield 15, 3) := by decide +kernel
theorem d_Row_is_4 : decode m_Row_is.2.1 4 = .ok (.iconst 1, 1) := by decide +kernel
theorem d_Row_is_5 : decode m_Row_is.2.1 5 = .ok (.if_icmp .ne 17, 3) := by decide +kernel
theorem d_Row_is_8 : decode m_Row_is.2.1 8 = .ok (.aload_n 0, 1) := by decide +kernel
theorem d_Row_is_9 : decode m_Row_is.2.1 9 = .ok (.getfield 9, 3) := by decide +kernel
theorem d_Row_is_12 : decode m_Row_is.2.1 12 = .ok (.iconst 0, 1) := by decide +kernel
theorem d_Row_is_13 : decode m_Row_is.2.1 13 = .ok (.iaload, 1) := by decide +kernel
theorem d_Row_is_14 : decode m_Row_is.2.1 14 = .ok (.iload_n 1, 1) := by decide +kernel
theorem d_Row_is_15 : decode m_Row_is.2.1 15 = .ok (.if_icmp .ne 7, 3) := by decide +kernel
theorem d_Row_is_18 : decode m_Row_is.2.1 18 = .ok (.iconst 1, 1) := by decide +kernel
theorem d_Row_is_19 : decode m_Row_is.2.1 19 = .ok (.goto 4, 3) := by decide +kernel
theorem d_Row_is_22 : decode m_Row_is.2.1 22 = .ok (.iconst 0, 1) := by decide +kernel
theorem d_Row_is_23 : decode m_Row_is.2.1 23 = .ok (.ireturn, 1) := by decide +kernel
theorem d_Row_clear_0 : decode m_Row_clear.2.1 0 = .ok (.aload_n 0, 1) := by decide +kernel
theorem d_Row_clear_1 : decode m_Row_clear.2.1 1 = .ok (.iconst 0, 1) := by decide +kernel
theorem d_Row_clear_2 : decode m_Row_clear.2.1 2 = .ok (.putfield 15, 3) := by decide +kernel
theorem d_Row_clear_5 : decode m_Row_clear.2.1 5 = .ok (.return_, 1) := by decide +kernel
theorem d_Row_append_0 : decode m_Row_append.2.1 0 = .ok (.aload_n 0, 1) := by decide +kernel
theorem d_Row_append_1 : decode m_Row_append.2.1 1 = .ok (.getfield 15, 3) := by decide +kernel
theorem d_Row_append_4 : decode m_Row_append.2.1 4 = .ok (.bipush 40, 2) := by decide +kernel
theorem d_Row_append_6 : decode m_Row_append.2.1 6 = .ok (.if_icmp .ne 11, 3) := by decide +kernel
theorem d_Row_append_9 : decode m_Row_append.2.1 9 = .ok (.new 19, 3) := by decide +kernel
theorem d_Row_append_12 : decode m_Row_append.2.1 12 = .ok (.dup, 1) := by decide +kernel
theorem d_Row_append_13 : decode m_Row_append.2.1 13 = .ok (.invokespecial 21, 3) := by decide +kernel
theorem d_Row_append_16 : decode m_Row_append.2.1 16 = .ok (.athrow, 1) := by decide +kernel
theorem d_Row_append_17 : decode m_Row_append.2.1 17 = .ok (.aload_n 0, 1) := by decide +kernel
theorem d_Row_append_18 : decode m_Row_append.2.1 18 = .ok (.getfield 9, 3) := by decide +kernel
theorem d_Row_append_21 : decode m_Row_append.2.1 21 = .ok (.aload_n 0, 1) := by decide +kernel
theorem d_Row_append_22 : decode m_Row_append.2.1 22 = .ok (.getfield 15, 3) := by decide +kernel
theorem d_Row_append_25 : decode m_Row_append.2.1 25 = .ok (.iload_n 1, 1) := by decide +kernel
theorem d_Row_append_26 : decode m_Row_append.2.1 26 = .ok (.iastore, 1) := by decide +kernel
theorem d_Row_append_27 : decode m_Row_append.2.1 27 = .ok (.aload_n 0, 1) := by decide +kernel
theorem d_Row_append_28 : decode m_Row_append.2.1 28 = .ok (.dup, 1) := by decide +kernel
theorem d_Row_append_29 : decode m_Row_append.2.1 29 = .ok (.getfield 15, 3) := by decide +kernel
theorem d_Row_append_32 : decode m_Row_append.2.1 32 = .ok (.iconst 1, 1) := by decide +kernel
theorem d_Row_append_33 : decode m_Row_append.2.1 33 = .ok (.iadd, 1) := by decide +kernel
theorem d_Row_append_34 : decode m_Row_append.2.1 34 = .ok (.putfield 15, 3) := by decide +kernel
theorem d_Row_append_37 : decode m_Row_append.2.1 37 = .ok (.return_, 1) := by decide +kernel
theorem d_Row_appendPart_0 : decode m_Row_appendPart.2.1 0 = .ok (.iload_n 2, 1) := by decide +kernel
theorem d_Row_appendPart_1 : decode m_Row_appendPart.2.1 1 = .ok (.istore 4, 2) := by decide +kernel
theorem d_Row_appendPart_3 : decode m_Row_appendPart.2.1 3 = .ok (.iload 4, 2) := by decide +kernel
theorem d_Row_appendPart_5 : decode m_Row_appendPart.2.1 5 = .ok (.iload_n 3, 1) := by decide +kernel
theorem d_Row_appendPart_6 : decode m_Row_appendPart.2.1 6 = .ok (.if_icmp .ge 19, 3) := by decide +kernel
theorem d_Row_appendPart_9 : decode m_Row_appendPart.2.1 9 = .ok (.aload_n 0, 1) := by decide +kernel
theorem d_Row_appendPart_10 : decode m_Row_appendPart.2.1 10 = .ok (.aload_n 1, 1) := by decide +kernel
theorem d_Row_appendPart_11 : decode m_Row_appendPart.2.1 11 = .ok (.iload 4, 2) := by decide +kernel
theorem d_Row_appendPart_13 : decode m_Row_appendPart.2.1 13 = .ok (.invokevirtual 22, 3) := by decide +kernel
theorem d_Row_appendPart_16 : decode m_Row_appendPart.2.1 16 = .ok (.invokevirtual 26, 3) := by decide +kernel
theorem d_Row_appendPart_19 : decode m_Row_appendPart.2.1 19 = .ok (.iinc 4 1, 3) := by decide +kernel
theorem d_Row_appendPart_22 : decode m_Row_appendPart.2.1 22 = .ok (.goto (-19), 3) := by decide +kernel
theorem d_Row_appendPart_25 : decode m_Row_appendPart.2.1 25 = .ok (.return_, 1) := by decide +kernel
theorem d_Row_become_0 : decode m_Row_become.2.1 0 = .ok (.aload_n 0, 1) := by decide +kernel
theorem d_Row_become_1 : decode m_Row_become.2.1 1 = .ok (.invokevirtual 30, 3) := by decide +kernel
theorem d_Row_become_4 : decode m_Row_become.2.1 4 = .ok (.aload_n 0, 1) := by decide +kernel
theorem d_Row_become_5 : decode m_Row_become.2.1 5 = .ok (.iload_n 1, 1) := by decide +kernel
theorem d_Row_become_6 : decode m_Row_become.2.1 6 = .ok (.invokevirtual 26, 3) := by decide +kernel
theorem d_Row_become_9 : decode m_Row_become.2.1 9 = .ok (.return_, 1) := by decide +kernel
theorem d_Row_copy_0 : decode m_Row_copy.2.1 0 = .ok (.aload_n 1, 1) := by decide +kernel
theorem d_Row_copy_1 : decode m_Row_copy.2.1 1 = .ok (.getfield 9, 3) := by decide +kernel
theorem d_Row_copy_4 : decode m_Row_copy.2.1 4 = .ok (.iconst 0, 1) := by decide +kernel
theorem d_Row_copy_5 : decode m_Row_copy.2.1 5 = .ok (.aload_n 0, 1) := by decide +kernel
theorem d_Row_copy_6 : decode m_Row_copy.2.1 6 = .ok (.getfield 9, 3) := by decide +kernel
theorem d_Row_copy_9 : decode m_Row_copy.2.1 9 = .ok (.iconst 0, 1) := by decide +kernel
theorem d_Row_copy_10 : decode m_Row_copy.2.1 10 = .ok (.aload_n 1, 1) := by decide +kernel
theorem d_Row_copy_11 : decode m_Row_copy.2.1 11 = .ok (.getfield 15, 3) := by decide +kernel
theorem d_Row_copy_14 : decode m_Row_copy.2.1 14 = .ok (.invokestatic 33, 3) := by decide +kernel
theorem d_Row_copy_17 : decode m_Row_copy.2.1 17 = .ok (.aload_n 0, 1) := by decide +kernel
theorem d_Row_copy_18 : decode m_Row_copy.2.1 18 = .ok (.aload_n 1, 1) := by decide +kernel
theorem d_Row_copy_19 : decode m_Row_copy.2.1 19 = .ok (.getfield 15, 3) := by decide +kernel
theorem d_Row_copy_22 : decode m_Row_copy.2.1 22 = .ok (.putfield 15, 3) := by decide +kernel
theorem d_Row_copy_25 : decode m_Row_copy.2.1 25 = .ok (.return_, 1) := by decide +kernel
theorem d_Row_join_0 : decode m_Row_join.2.1 0 = .ok (.aload_n 0, 1) := by decide +kernel
theorem d_Row_join_1 : decode m_Row_join.2.1 1 = .ok (.iload_n 1, 1) := by decide +kernel
theorem d_Row_join_2 : decode m_Row_join.2.1 2 = .ok (.invokevirtual 39, 3) := by decide +kernel
theorem d_Row_join_5 : decode m_Row_join.2.1 5 = .ok (.aload_n 0, 1) := by decide +kernel
theorem d_Row_join_6 : decode m_Row_join.2.1 6 = .ok (.aload_n 2, 1) := by decide +kernel
theorem d_Row_join_7 : decode m_Row_join.2.1 7 = .ok (.iconst 0, 1) := by decide +kernel
theorem d_Row_join_8 : decode m_Row_join.2.1 8 = .ok (.aload_n 2, 1) := by decide +kernel
theorem d_Row_join_9 : decode m_Row_join.2.1 9 = .ok (.getfield 15, 3) := by decide +kernel
theorem d_Row_join_12 : decode m_Row_join.2.1 12 = .ok (.invokevirtual 42, 3) := by decide +kernel
theorem d_Row_join_15 : decode m_Row_join.2.1 15 = .ok (.aload_n 0, 1) := by decide +kernel
theorem d_Row_join_16 : decode m_Row_join.2.1 16 = .ok (.aload_n 3, 1) := by decide +kernel
theorem d_Row_join_17 : decode m_Row_join.2.1 17 = .ok (.iconst 0, 1) := by decide +kernel
theorem d_Row_join_18 : decode m_Row_join.2.1 18 = .ok (.aload_n 3, 1) := by decide +kernel
theorem d_Row_join_19 : decode m_Row_join.2.1 19 = .ok (.getfield 15, 3) := by decide +kernel
theorem d_Row_join_22 : decode m_Row_join.2.1 22 = .ok (.invokevirtual 42, 3) := by decide +kernel
theorem d_Row_join_25 : decode m_Row_join.2.1 25 = .ok (.return_, 1) := by decide +kernel
theorem d_Row_endOf_0 : decode m_Row_endOf.2.1 0 = .ok (.iconst 1, 1) := by decide +kernel
theorem d_Row_endOf_1 : decode m_Row_endOf.2.1 1 = .ok (.istore_n 2, 1) := by decide +kernel
theorem d_Row_endOf_2 : decode m_Row_endOf.2.1 2 = .ok (.iload_n 1, 1) := by decide +kernel
theorem d_Row_endOf_3 : decode m_Row_endOf.2.1 3 = .ok (.istore_n 3, 1) := by decide +kernel
theorem d_Row_endOf_4 : decode m_Row_endOf.2.1 4 = .ok (.iload_n 3, 1) := by decide +kernel
theorem d_Row_endOf_5 : decode m_Row_endOf.2.1 5 = .ok (.aload_n 0, 1) := by decide +kernel
theorem d_Row_endOf_6 : decode m_Row_endOf.2.1 6 = .ok (.getfield 15, 3) := by decide +kernel
theorem d_Row_endOf_9 : decode m_Row_endOf.2.1 9 = .ok (.if_icmp .ge 33, 3) := by decide +kernel
theorem d_Row_endOf_12 : decode m_Row_endOf.2.1 12 = .ok (.iload_n 2, 1) := by decide +kernel
theorem d_Row_endOf_13 : decode m_Row_endOf.2.1 13 = .ok (.ifCond .le 29, 3) := by decide +kernel
theorem d_Row_endOf_16 : decode m_Row_endOf.2.1 16 = .ok (.iload_n 2, 1) := by decide +kernel
theorem d_Row_endOf_17 : decode m_Row_endOf.2.1 17 = .ok (.aload_n 0, 1) := by decide +kernel
theorem d_Row_endOf_18 : decode m_Row_endOf.2.1 18 = .ok (.getfield 9, 3) := by decide +kernel
theorem d_Row_endOf_21 : decode m_Row_endOf.2.1 21 = .ok (.iload_n 3, 1) := by decide +kernel
theorem d_Row_endOf_22 : decode m_Row_endOf.2.1 22 = .ok (.iaload, 1) := by decide +kernel
theorem d_Row_endOf_23 : decode m_Row_endOf.2.1 23 = .ok (.invokestatic 46, 3) := by decide +kernel
theorem d_Row_endOf_26 : decode m_Row_endOf.2.1 26 = .ok (.ifCond .eq 7, 3) := by decide +kernel
theorem d_Row_endOf_29 : decode m_Row_endOf.2.1 29 = .ok (.iconst 1, 1) := by decide +kernel
theorem d_Row_endOf_30 : decode m_Row_endOf.2.1 30 = .ok (.goto 4, 3) := by decide +kernel
theorem d_Row_endOf_33 : decode m_Row_endOf.2.1 33 = .ok (.iconst (-1), 1) := by decide +kernel
theorem d_Row_endOf_34 : decode m_Row_endOf.2.1 34 = .ok (.iadd, 1) := by decide +kernel
theorem d_Row_endOf_35 : decode m_Row_endOf.2.1 35 = .ok (.istore_n 2, 1) := by decide +kernel
theorem d_Row_endOf_36 : decode m_Row_endOf.2.1 36 = .ok (.iinc 3 1, 3) := by decide +kernel
theorem d_Row_endOf_39 : decode m_Row_endOf.2.1 39 = .ok (.goto (-35), 3) := by decide +kernel
theorem d_Row_endOf_42 : decode m_Row_endOf.2.1 42 = .ok (.iload_n 3, 1) := by decide +kernel
theorem d_Row_endOf_43 : decode m_Row_endOf.2.1 43 = .ok (.ireturn, 1) := by decide +kernel
theorem d_Row_headOf_0 : decode m_Row_headOf.2.1 0 = .ok (.iload_n 1, 1) := by decide +kernel
theorem d_Row_headOf_1 : decode m_Row_headOf.2.1 1 = .ok (.istore_n 2, 1) := by decide +kernel
theorem d_Row_headOf_2 : decode m_Row_headOf.2.1 2 = .ok (.iload_n 2, 1) := by decide +kernel
theorem d_Row_headOf_3 : decode m_Row_headOf.2.1 3 = .ok (.aload_n 0, 1) := by decide +kernel
theorem d_Row_headOf_4 : decode m_Row_headOf.2.1 4 = .ok (.getfield 15, 3) := by decide +kernel
theorem d_Row_headOf_7 : decode m_Row_headOf.2.1 7 = .ok (.if_icmp .ge 19, 3) := by decide +kernel
theorem d_Row_headOf_10 : decode m_Row_headOf.2.1 10 = .ok (.aload_n 0, 1) := by decide +kernel
theorem d_Row_headOf_11 : decode m_Row_headOf.2.1 11 = .ok (.getfield 9, 3) := by decide +kernel
theorem d_Row_headOf_14 : decode m_Row_headOf.2.1 14 = .ok (.iload_n 2, 1) := by decide +kernel
theorem d_Row_headOf_15 : decode m_Row_headOf.2.1 15 = .ok (.iaload, 1) := by decide +kernel
theorem d_Row_headOf_16 : decode m_Row_headOf.2.1 16 = .ok (.iconst 2, 1) := by decide +kernel
theorem d_Row_headOf_17 : decode m_Row_headOf.2.1 17 = .ok (.if_icmp .ne 9, 3) := by decide +kernel
theorem d_Row_headOf_20 : decode m_Row_headOf.2.1 20 = .ok (.iinc 2 1, 3) := by decide +kernel
theorem d_Row_headOf_23 : decode m_Row_headOf.2.1 23 = .ok (.goto (-21), 3) := by decide +kernel
theorem d_Row_headOf_26 : decode m_Row_headOf.2.1 26 = .ok (.iload_n 2, 1) := by decide +kernel
theorem d_Row_headOf_27 : decode m_Row_headOf.2.1 27 = .ok (.ireturn, 1) := by decide +kernel
theorem d_Row_countOf_0 : decode m_Row_countOf.2.1 0 = .ok (.iconst 0, 1) := by decide +kernel
theorem d_Row_countOf_1 : decode m_Row_countOf.2.1 1 = .ok (.istore_n 2, 1) := by decide +kernel
theorem d_Row_countOf_2 : decode m_Row_countOf.2.1 2 = .ok (.iconst 0, 1) := by decide +kernel
theorem d_Row_countOf_3 : decode m_Row_countOf.2.1 3 = .ok (.istore_n 3, 1) := by decide +kernel
theorem d_Row_countOf_4 : decode m_Row_countOf.2.1 4 = .ok (.iload_n 3, 1) := by decide +kernel
theorem d_Row_countOf_5 : decode m_Row_countOf.2.1 5 = .ok (.aload_n 0, 1) := by decide +kernel
theorem d_Row_countOf_6 : decode m_Row_countOf.2.1 6 = .ok (.getfield 15, 3) := by decide +kernel
theorem d_Row_countOf_9 : decode m_Row_countOf.2.1 9 = .ok (.if_icmp .ge 22, 3) := by decide +kernel
theorem d_Row_countOf_12 : decode m_Row_countOf.2.1 12 = .ok (.aload_n 0, 1) := by decide +kernel
theorem d_Row_countOf_13 : decode m_Row_countOf.2.1 13 = .ok (.getfield 9, 3) := by decide +kernel
theorem d_Row_countOf_16 : decode m_Row_countOf.2.1 16 = .ok (.iload_n 3, 1) := by decide +kernel
theorem d_Row_countOf_17 : decode m_Row_countOf.2.1 17 = .ok (.iaload, 1) := by decide +kernel
theorem d_Row_countOf_18 : decode m_Row_countOf.2.1 18 = .ok (.iload_n 1, 1) := by decide +kernel
theorem d_Row_countOf_19 : decode m_Row_countOf.2.1 19 = .ok (.if_icmp .ne 6, 3) := by decide +kernel
theorem d_Row_countOf_22 : decode m_Row_countOf.2.1 22 = .ok (.iinc 2 1, 3) := by decide +kernel
theorem d_Row_countOf_25 : decode m_Row_countOf.2.1 25 = .ok (.iinc 3 1, 3) := by decide +kernel
theorem d_Row_countOf_28 : decode m_Row_countOf.2.1 28 = .ok (.goto (-24), 3) := by decide +kernel
theorem d_Row_countOf_31 : decode m_Row_countOf.2.1 31 = .ok (.iload_n 2, 1) := by decide +kernel
theorem d_Row_countOf_32 : decode m_Row_countOf.2.1 32 = .ok (.ireturn, 1) := by decide +kernel
theorem d_Row_isPart_0 : decode m_Row_isPart.2.1 0 = .ok (.aload_n 0, 1) := by decide +kernel
theorem d_Row_isPart_1 : decode m_Row_isPart.2.1 1 = .ok (.getfield 15, 3) := by decide +kernel
theorem d_Row_isPart_4 : decode m_Row_isPart.2.1 4 = .ok (.iload_n 3, 1) := by decide +kernel
theorem d_Row_isPart_5 : decode m_Row_isPart.2.1 5 = .ok (.iload_n 2, 1) := by decide +kernel
theorem d_Row_isPart_6 : decode m_Row_isPart.2.1 6 = .ok (.isub, 1) := by decide +kernel
theorem d_Row_isPart_7 : decode m_Row_isPart.2.1 7 = .ok (.if_icmp .eq 5, 3) := by decide +kernel
theorem d_Row_isPart_10 : decode m_Row_isPart.2.1 10 = .ok (.iconst 0, 1) := by decide +kernel
theorem d_Row_isPart_11 : decode m_Row_isPart.2.1 11 = .ok (.ireturn, 1) := by decide +kernel
theorem d_Row_isPart_12 : decode m_Row_isPart.2.1 12 = .ok (.iconst 0, 1) := by decide +kernel
theorem d_Row_isPart_13 : decode m_Row_isPart.2.1 13 = .ok (.istore 4, 2) := by decide +kernel
theorem d_Row_isPart_15 : decode m_Row_isPart.2.1 15 = .ok (.iload 4, 2) := by decide +kernel
theorem d_Row_isPart_17 : decode m_Row_isPart.2.1 17 = .ok (.aload_n 0, 1) := by decide +kernel
theorem d_Row_isPart_18 : decode m_Row_isPart.2.1 18 = .ok (.getfield 15, 3) := by decide +kernel
theorem d_Row_isPart_21 : decode m_Row_isPart.2.1 21 = .ok (.if_icmp .ge 29, 3) := by decide +kernel
theorem d_Row_isPart_24 : decode m_Row_isPart.2.1 24 = .ok (.aload_n 0, 1) := by decide +kernel
theorem d_Row_isPart_25 : decode m_Row_isPart.2.1 25 = .ok (.getfield 9, 3) := by decide +kernel
theorem d_Row_isPart_28 : decode m_Row_isPart.2.1 28 = .ok (.iload 4, 2) := by decide +kernel
theorem d_Row_isPart_30 : decode m_Row_isPart.2.1 30 = .ok (.iaload, 1) := by decide +kernel
theorem d_Row_isPart_31 : decode m_Row_isPart.2.1 31 = .ok (.aload_n 1, 1) := by decide +kernel
theorem d_Row_isPart_32 : decode m_Row_isPart.2.1 32 = .ok (.iload_n 2, 1) := by decide +kernel
theorem d_Row_isPart_33 : decode m_Row_isPart.2.1 33 = .ok (.iload 4, 2) := by decide +kernel
theorem d_Row_isPart_35 : decode m_Row_isPart.2.1 35 = .ok (.iadd, 1) := by decide +kernel
theorem d_Row_isPart_36 : decode m_Row_isPart.2.1 36 = .ok (.invokevirtual 22, 3) := by decide +kernel
theorem d_Row_isPart_39 : decode m_Row_isPart.2.1 39 = .ok (.if_icmp .eq 5, 3) := by decide +kernel
theorem d_Row_isPart_42 : decode m_Row_isPart.2.1 42 = .ok (.iconst 0, 1) := by decide +kernel
theorem d_Row_isPart_43 : decode m_Row_isPart.2.1 43 = .ok (.ireturn, 1) := by decide +kernel
theorem d_Row_isPart_44 : decode m_Row_isPart.2.1 44 = .ok (.iinc 4 1, 3) := by decide +kernel
theorem d_Row_isPart_47 : decode m_Row_isPart.2.1 47 = .ok (.goto (-32), 3) := by decide +kernel
theorem d_Row_isPart_50 : decode m_Row_isPart.2.1 50 = .ok (.iconst 1, 1) := by decide +kernel
theorem d_Row_isPart_51 : decode m_Row_isPart.2.1 51 = .ok (.ireturn, 1) := by decide +kernel
theorem d_Row_equalsRow_0 : decode m_Row_equalsRow.2.1 0 = .ok (.aload_n 0, 1) := by decide +kernel
theorem d_Row_equalsRow_1 : decode m_Row_equalsRow.2.1 1 = .ok (.aload_n 1, 1) := by decide +kernel
theorem d_Row_equalsRow_2 : decode m_Row_equalsRow.2.1 2 = .ok (.iconst 0, 1) := by decide +kernel
theorem d_Row_equalsRow_3 : decode m_Row_equalsRow.2.1 3 = .ok (.aload_n 1, 1) := by decide +kernel
theorem d_Row_equalsRow_4 : decode m_Row_equalsRow.2.1 4 = .ok (.getfield 15, 3) := by decide +kernel
theorem d_Row_equalsRow_7 : decode m_Row_equalsRow.2.1 7 = .ok (.invokevirtual 50, 3) := by decide +kernel
theorem d_Row_equalsRow_10 : decode m_Row_equalsRow.2.1 10 = .ok (.ireturn, 1) := by decide +kernel
theorem d_Row_hasParts_0 : decode m_Row_hasParts.2.1 0 = .ok (.iload_n 0, 1) := by decide +kernel
theorem d_Row_hasParts_1 : decode m_Row_hasParts.2.1 1 = .ok (.iconst 2, 1) := by decide +kernel
theorem d_Row_hasParts_2 : decode m_Row_hasParts.2.1 2 = .ok (.if_icmp .eq 13, 3) := by decide +kernel
theorem d_Row_hasParts_5 : decode m_Row_hasParts.2.1 5 = .ok (.iload_n 0, 1) := by decide +kernel
theorem d_Row_hasParts_6 : decode m_Row_hasParts.2.1 6 = .ok (.iconst 3, 1) := by decide +kernel
theorem d_Row_hasParts_7 : decode m_Row_hasParts.2.1 7 = .ok (.if_icmp .eq 8, 3) := by decide +kernel
theorem d_Row_hasParts_10 : decode m_Row_hasParts.2.1 10 = .ok (.iload_n 0, 1) := by decide +kernel
theorem d_Row_hasParts_11 : decode m_Row_hasParts.2.1 11 = .ok (.iconst 4, 1) := by decide +kernel
theorem d_Row_hasParts_12 : decode m_Row_hasParts.2.1 12 = .ok (.if_icmp .ne 7, 3) := by decide +kernel
theorem d_Row_hasParts_15 : decode m_Row_hasParts.2.1 15 = .ok (.iconst 1, 1) := by decide +kernel
theorem d_Row_hasParts_16 : decode m_Row_hasParts.2.1 16 = .ok (.goto 4, 3) := by decide +kernel
theorem d_Row_hasParts_19 : decode m_Row_hasParts.2.1 19 = .ok (.iconst 0, 1) := by decide +kernel
theorem d_Row_hasParts_20 : decode m_Row_hasParts.2.1 20 = .ok (.ireturn, 1) := by decide +kernel
theorem d_Wk_init_0 : decode m_Wk_init.2.1 0 = .ok (.aload_n 0, 1) := by decide +kernel
theorem d_Wk_init_1 : decode m_Wk_init.2.1 1 = .ok (.invokespecial 3, 3) := by decide +kernel
theorem d_Wk_init_4 : decode m_Wk_init.2.1 4 = .ok (.aload_n 0, 1) := by decide +kernel
theorem d_Wk_init_5 : decode m_Wk_init.2.1 5 = .ok (.bipush 41, 2) := by decide +kernel
theorem d_Wk_init_7 : decode m_Wk_init.2.1 7 = .ok (.newarray .int, 2) := by decide +kernel
theorem d_Wk_init_9 : decode m_Wk_init.2.1 9 = .ok (.putfield 9, 3) := by decide +kernel
theorem d_Wk_init_12 : decode m_Wk_init.2.1 12 = .ok (.aload_n 0, 1) := by decide +kernel
theorem d_Wk_init_13 : decode m_Wk_init.2.1 13 = .ok (.iconst 0, 1) := by decide +kernel
theorem d_Wk_init_14 : decode m_Wk_init.2.1 14 = .ok (.putfield 15, 3) := by decide +kernel
theorem d_Wk_init_17 : decode m_Wk_init.2.1 17 = .ok (.return_, 1) := by decide +kernel
theorem d_Wk_begin_0 : decode m_Wk_begin.2.1 0 = .ok (.aload_n 0, 1) := by decide +kernel
theorem d_Wk_begin_1 : decode m_Wk_begin.2.1 1 = .ok (.getfield 9, 3) := by decide +kernel
theorem d_Wk_begin_4 : decode m_Wk_begin.2.1 4 = .ok (.iconst 0, 1) := by decide +kernel
theorem d_Wk_begin_5 : decode m_Wk_begin.2.1 5 = .ok (.iconst 0, 1) := by decide +kernel
theorem d_Wk_begin_6 : decode m_Wk_begin.2.1 6 = .ok (.iastore, 1) := by decide +kernel
theorem d_Wk_begin_7 : decode m_Wk_begin.2.1 7 = .ok (.aload_n 0, 1) := by decide +kernel
theorem d_Wk_begin_8 : decode m_Wk_begin.2.1 8 = .ok (.iconst 1, 1) := by decide +kernel
theorem d_Wk_begin_9 : decode m_Wk_begin.2.1 9 = .ok (.putfield 15, 3) := by decide +kernel
theorem d_Wk_begin_12 : decode m_Wk_begin.2.1 12 = .ok (.return_, 1) := by decide +kernel
theorem d_Wk_goesOn_0 : decode m_Wk_goesOn.2.1 0 = .ok (.aload_n 0, 1) := by decide +kernel
theorem d_Wk_goesOn_1 : decode m_Wk_goesOn.2.1 1 = .ok (.getfield 15, 3) := by decide +kernel
theorem d_Wk_goesOn_4 : decode m_Wk_goesOn.2.1 4 = .ok (.ifCond .le 7, 3) := by decide +kernel
theorem d_Wk_goesOn_7 : decode m_Wk_goesOn.2.1 7 = .ok (.iconst 1, 1) := by decide +kernel
theorem d_Wk_goesOn_8 : decode m_Wk_goesOn.2.1 8 = .ok (.goto 4, 3) := by decide +kernel
theorem d_Wk_goesOn_11 : decode m_Wk_goesOn.2.1 11 = .ok (.iconst 0, 1) := by decide +kernel
theorem d_Wk_goesOn_12 : decode m_Wk_goesOn.2.1 12 = .ok (.ireturn, 1) := by decide +kernel
theorem d_Wk_depthOf_0 : decode m_Wk_depthOf.2.1 0 = .ok (.aload_n 0, 1) := by decide +kernel
theorem d_Wk_depthOf_1 : decode m_Wk_depthOf.2.1 1 = .ok (.dup, 1) := by decide +kernel
theorem d_Wk_depthOf_2 : decode m_Wk_depthOf.2.1 2 = .ok (.getfield 15, 3) := by decide +kernel
theorem d_Wk_depthOf_5 : decode m_Wk_depthOf.2.1 5 = .ok (.iconst 1, 1) := by decide +kernel
theorem d_Wk_depthOf_6 : decode m_Wk_depthOf.2.1 6 = .ok (.isub, 1) := by decide +kernel
theorem d_Wk_depthOf_7 : decode m_Wk_depthOf.2.1 7 = .ok (.putfield 15, 3) := by decide +kernel
theorem d_Wk_depthOf_10 : decode m_Wk_depthOf.2.1 10 = .ok (.aload_n 0, 1) := by decide +kernel
theorem d_Wk_depthOf_11 : decode m_Wk_depthOf.2.1 11 = .ok (.getfield 9, 3) := by decide +kernel
theorem d_Wk_depthOf_14 : decode m_Wk_depthOf.2.1 14 = .ok (.aload_n 0, 1) := by decide +kernel
theorem d_Wk_depthOf_15 : decode m_Wk_depthOf.2.1 15 = .ok (.getfield 15, 3) := by decide +kernel
theorem d_Wk_depthOf_18 : decode m_Wk_depthOf.2.1 18 = .ok (.iaload, 1) := by decide +kernel
theorem d_Wk_depthOf_19 : decode m_Wk_depthOf.2.1 19 = .ok (.istore_n 2, 1) := by decide +kernel
theorem d_Wk_depthOf_20 : decode m_Wk_depthOf.2.1 20 = .ok (.iload_n 1, 1) := by decide +kernel
theorem d_Wk_depthOf_21 : decode m_Wk_depthOf.2.1 21 = .ok (.iconst 2, 1) := by decide +kernel
theorem d_Wk_depthOf_22 : decode m_Wk_depthOf.2.1 22 = .ok (.if_icmp .eq 13, 3) := by decide +kernel
theorem d_Wk_depthOf_25 : decode m_Wk_depthOf.2.1 25 = .ok (.iload_n 1, 1) := by decide +kernel
theorem d_Wk_depthOf_26 : decode m_Wk_depthOf.2.1 26 = .ok (.iconst 3, 1) := by decide +kernel
theorem d_Wk_depthOf_27 : decode m_Wk_depthOf.2.1 27 = .ok (.if_icmp .eq 8, 3) := by decide +kernel
theorem d_Wk_depthOf_30 : decode m_Wk_depthOf.2.1 30 = .ok (.iload_n 1, 1) := by decide +kernel
theorem d_Wk_depthOf_31 : decode m_Wk_depthOf.2.1 31 = .ok (.iconst 4, 1) := by decide +kernel
theorem d_Wk_depthOf_32 : decode m_Wk_depthOf.2.1 32 = .ok (.if_icmp .ne 46, 3) := by decide +kernel
theorem d_Wk_depthOf_35 : decode m_Wk_depthOf.2.1 35 = .ok (.aload_n 0, 1) := by decide +kernel
theorem d_Wk_depthOf_36 : decode m_Wk_depthOf.2.1 36 = .ok (.getfield 9, 3) := by decide +kernel
theorem d_Wk_depthOf_39 : decode m_Wk_depthOf.2.1 39 = .ok (.aload_n 0, 1) := by decide +kernel
theorem d_Wk_depthOf_40 : decode m_Wk_depthOf.2.1 40 = .ok (.getfield 15, 3) := by decide +kernel
theorem d_Wk_depthOf_43 : decode m_Wk_depthOf.2.1 43 = .ok (.iload_n 1, 1) := by decide +kernel
theorem d_Wk_depthOf_44 : decode m_Wk_depthOf.2.1 44 = .ok (.iconst 2, 1) := by decide +kernel
theorem d_Wk_depthOf_45 : decode m_Wk_depthOf.2.1 45 = .ok (.if_icmp .ne 7, 3) := by decide +kernel
theorem d_Wk_depthOf_48 : decode m_Wk_depthOf.2.1 48 = .ok (.iload_n 2, 1) := by decide +kernel
theorem d_Wk_depthOf_49 : decode m_Wk_depthOf.2.1 49 = .ok (.goto 6, 3) := by decide +kernel
theorem d_Wk_depthOf_52 : decode m_Wk_depthOf.2.1 52 = .ok (.iload_n 2, 1) := by decide +kernel
theorem d_Wk_depthOf_53 : decode m_Wk_depthOf.2.1 53 = .ok (.iconst 1, 1) := by decide +kernel
theorem d_Wk_depthOf_54 : decode m_Wk_depthOf.2.1 54 = .ok (.iadd, 1) := by decide +kernel
theorem d_Wk_depthOf_55 : decode m_Wk_depthOf.2.1 55 = .ok (.iastore, 1) := by decide +kernel
theorem d_Wk_depthOf_56 : decode m_Wk_depthOf.2.1 56 = .ok (.aload_n 0, 1) := by decide +kernel
theorem d_Wk_depthOf_57 : decode m_Wk_depthOf.2.1 57 = .ok (.getfield 9, 3) := by decide +kernel
theorem d_Wk_depthOf_60 : decode m_Wk_depthOf.2.1 60 = .ok (.aload_n 0, 1) := by decide +kernel
theorem d_Wk_depthOf_61 : decode m_Wk_depthOf.2.1 61 = .ok (.getfield 15, 3) := by decide +kernel
theorem d_Wk_depthOf_64 : decode m_Wk_depthOf.2.1 64 = .ok (.iconst 1, 1) := by decide +kernel
theorem d_Wk_depthOf_65 : decode m_Wk_depthOf.2.1 65 = .ok (.iadd, 1) := by decide +kernel
theorem d_Wk_depthOf_66 : decode m_Wk_depthOf.2.1 66 = .ok (.iload_n 2, 1) := by decide +kernel
theorem d_Wk_depthOf_67 : decode m_Wk_depthOf.2.1 67 = .ok (.iastore, 1) := by decide +kernel
theorem d_Wk_depthOf_68 : decode m_Wk_depthOf.2.1 68 = .ok (.aload_n 0, 1) := by decide +kernel
theorem d_Wk_depthOf_69 : decode m_Wk_depthOf.2.1 69 = .ok (.dup, 1) := by decide +kernel
theorem d_Wk_depthOf_70 : decode m_Wk_depthOf.2.1 70 = .ok (.getfield 15, 3) := by decide +kernel
theorem d_Wk_depthOf_73 : decode m_Wk_depthOf.2.1 73 = .ok (.iconst 2, 1) := by decide +kernel
theorem d_Wk_depthOf_74 : decode m_Wk_depthOf.2.1 74 = .ok (.iadd, 1) := by decide +kernel
theorem d_Wk_depthOf_75 : decode m_Wk_depthOf.2.1 75 = .ok (.putfield 15, 3) := by decide +kernel
theorem d_Wk_depthOf_78 : decode m_Wk_depthOf.2.1 78 = .ok (.iload_n 2, 1) := by decide +kernel
theorem d_Wk_depthOf_79 : decode m_Wk_depthOf.2.1 79 = .ok (.ireturn, 1) := by decide +kernel
theorem d_Jd_init_0 : decode m_Jd_init.2.1 0 = .ok (.aload_n 0, 1) := by decide +kernel
theorem d_Jd_init_1 : decode m_Jd_init.2.1 1 = .ok (.invokespecial 1, 3) := by decide +kernel
theorem d_Jd_init_4 : decode m_Jd_init.2.1 4 = .ok (.aload_n 0, 1) := by decide +kernel
theorem d_Jd_init_5 : decode m_Jd_init.2.1 5 = .ok (.new 7, 3) := by decide +kernel
theorem d_Jd_init_8 : decode m_Jd_init.2.1 8 = .ok (.dup, 1) := by decide +kernel
theorem d_Jd_init_9 : decode m_Jd_init.2.1 9 = .ok (.invokespecial 9, 3) := by decide +kernel
theorem d_Jd_init_12 : decode m_Jd_init.2.1 12 = .ok (.putfield 10, 3) := by decide +kernel
theorem d_Jd_init_15 : decode m_Jd_init.2.1 15 = .ok (.aload_n 0, 1) := by decide +kernel
theorem d_Jd_init_16 : decode m_Jd_init.2.1 16 = .ok (.new 7, 3) := by decide +kernel
theorem d_Jd_init_19 : decode m_Jd_init.2.1 19 = .ok (.dup, 1) := by decide +kernel
theorem d_Jd_init_20 : decode m_Jd_init.2.1 20 = .ok (.invokespecial 9, 3) := by decide +kernel
theorem d_Jd_init_23 : decode m_Jd_init.2.1 23 = .ok (.putfield 16, 3) := by decide +kernel
theorem d_Jd_init_26 : decode m_Jd_init.2.1 26 = .ok (.aload_n 0, 1) := by decide +kernel
theorem d_Jd_init_27 : decode m_Jd_init.2.1 27 = .ok (.iconst 0, 1) := by decide +kernel
theorem d_Jd_init_28 : decode m_Jd_init.2.1 28 = .ok (.putfield 19, 3) := by decide +kernel
theorem d_Jd_init_31 : decode m_Jd_init.2.1 31 = .ok (.return_, 1) := by decide +kernel
theorem d_Ru_init_0 : decode m_Ru_init.2.1 0 = .ok (.aload_n 0, 1) := by decide +kernel
theorem d_Ru_init_1 : decode m_Ru_init.2.1 1 = .ok (.invokespecial 1, 3) := by decide +kernel
theorem d_Ru_init_4 : decode m_Ru_init.2.1 4 = .ok (.aload_n 0, 1) := by decide +kernel
theorem d_Ru_init_5 : decode m_Ru_init.2.1 5 = .ok (.new 7, 3) := by decide +kernel
theorem d_Ru_init_8 : decode m_Ru_init.2.1 8 = .ok (.dup, 1) := by decide +kernel
theorem d_Ru_init_9 : decode m_Ru_init.2.1 9 = .ok (.invokespecial 9, 3) := by decide +kernel
theorem d_Ru_init_12 : decode m_Ru_init.2.1 12 = .ok (.putfield 10, 3) := by decide +kernel
theorem d_Ru_init_15 : decode m_Ru_init.2.1 15 = .ok (.aload_n 0, 1) := by decide +kernel
theorem d_Ru_init_16 : decode m_Ru_init.2.1 16 = .ok (.new 7, 3) := by decide +kernel
theorem d_Ru_init_19 : decode m_Ru_init.2.1 19 = .ok (.dup, 1) := by decide +kernel
theorem d_Ru_init_20 : decode m_Ru_init.2.1 20 = .ok (.invokespecial 9, 3) := by decide +kernel
theorem d_Ru_init_23 : decode m_Ru_init.2.1 23 = .ok (.putfield 16, 3) := by decide +kernel
theorem d_Ru_init_26 : decode m_Ru_init.2.1 26 = .ok (.aload_n 0, 1) := by decide +kernel
theorem d_Ru_init_27 : decode m_Ru_init.2.1 27 = .ok (.iconst 0, 1) := by decide +kernel
theorem d_Ru_init_28 : decode m_Ru_init.2.1 28 = .ok (.putfield 19, 3) := by decide +kernel
theorem d_Ru_init_31 : decode m_Ru_init.2.1 31 = .ok (.return_, 1) := by decide +kernel
end
section
theorem d_Rw_init_0 : decode m_Rw_init.2.1 0 = .ok (.aload_n 0, 1) := by decide +kernel
theorem d_Rw_init_1 : decode m_Rw_init.2.1 1 = .ok (.invokespecial 3, 3) := by decide +kernel
theorem d_Rw_init_4 : decode m_Rw_init.2.1 4 = .ok (.aload_n 0, 1) := by decide +kernel
theorem d_Rw_init_5 : decode m_Rw_init.2.1 5 = .ok (.bipush 8, 2) := by decide +kernel
theorem d_Rw_init_7 : decode m_Rw_init.2.1 7 = .ok (.anewarray 9, 3) := by decide +kernel
theorem d_Rw_init_10 : decode m_Rw_init.2.1 10 = .ok (.putfield 11, 3) := by decide +kernel
theorem d_Rw_init_13 : decode m_Rw_init.2.1 13 = .ok (.aload_n 0, 1) := by decide +kernel
theorem d_Rw_init_14 : decode m_Rw_init.2.1 14 = .ok (.iconst 0, 1) := by decide +kernel
theorem d_Rw_init_15 : decode m_Rw_init.2.1 15 = .ok (.putfield 17, 3) := by decide +kernel
theorem d_Rw_init_18 : decode m_Rw_init.2.1 18 = .ok (.aload_n 0, 1) := by decide +kernel
theorem d_Rw_init_19 : decode m_Rw_init.2.1 19 = .ok (.new 21, 3) := by decide +kernel
theorem d_Rw_init_22 : decode m_Rw_init.2.1 22 = .ok (.dup, 1) := by decide +kernel
theorem d_Rw_init_23 : decode m_Rw_init.2.1 23 = .ok (.invokespecial 23, 3) := by decide +kernel
theorem d_Rw_init_26 : decode m_Rw_init.2.1 26 = .ok (.putfield 24, 3) := by decide +kernel
theorem d_Rw_init_29 : decode m_Rw_init.2.1 29 = .ok (.aload_n 0, 1) := by decide +kernel
theorem d_Rw_init_30 : decode m_Rw_init.2.1 30 = .ok (.new 21, 3) := by decide +kernel
theorem d_Rw_init_33 : decode m_Rw_init.2.1 33 = .ok (.dup, 1) := by decide +kernel
theorem d_Rw_init_34 : decode m_Rw_init.2.1 34 = .ok (.invokespecial 23, 3) := by decide +kernel
theorem d_Rw_init_37 : decode m_Rw_init.2.1 37 = .ok (.putfield 28, 3) := by decide +kernel
theorem d_Rw_init_40 : decode m_Rw_init.2.1 40 = .ok (.aload_n 0, 1) := by decide +kernel
theorem d_Rw_init_41 : decode m_Rw_init.2.1 41 = .ok (.iconst 4, 1) := by decide +kernel
theorem d_Rw_init_42 : decode m_Rw_init.2.1 42 = .ok (.newarray .int, 2) := by decide +kernel
theorem d_Rw_init_44 : decode m_Rw_init.2.1 44 = .ok (.putfield 31, 3) := by decide +kernel
theorem d_Rw_init_47 : decode m_Rw_init.2.1 47 = .ok (.aload_n 0, 1) := by decide +kernel
theorem d_Rw_init_48 : decode m_Rw_init.2.1 48 = .ok (.new 35, 3) := by decide +kernel
theorem d_Rw_init_51 : decode m_Rw_init.2.1 51 = .ok (.dup, 1) := by decide +kernel
theorem d_Rw_init_52 : decode m_Rw_init.2.1 52 = .ok (.invokespecial 37, 3) := by decide +kernel
theorem d_Rw_init_55 : decode m_Rw_init.2.1 55 = .ok (.putfield 38, 3) := by decide +kernel
theorem d_Rw_init_58 : decode m_Rw_init.2.1 58 = .ok (.aload_n 0, 1) := by decide +kernel
theorem d_Rw_init_59 : decode m_Rw_init.2.1 59 = .ok (.new 35, 3) := by decide +kernel
theorem d_Rw_init_62 : decode m_Rw_init.2.1 62 = .ok (.dup, 1) := by decide +kernel
theorem d_Rw_init_63 : decode m_Rw_init.2.1 63 = .ok (.invokespecial 37, 3) := by decide +kernel
theorem d_Rw_init_66 : decode m_Rw_init.2.1 66 = .ok (.putfield 42, 3) := by decide +kernel
theorem d_Rw_init_69 : decode m_Rw_init.2.1 69 = .ok (.iconst 0, 1) := by decide +kernel
theorem d_Rw_init_70 : decode m_Rw_init.2.1 70 = .ok (.istore_n 1, 1) := by decide +kernel
theorem d_Rw_init_71 : decode m_Rw_init.2.1 71 = .ok (.iload_n 1, 1) := by decide +kernel
theorem d_Rw_init_72 : decode m_Rw_init.2.1 72 = .ok (.bipush 8, 2) := by decide +kernel
theorem d_Rw_init_74 : decode m_Rw_init.2.1 74 = .ok (.if_icmp .ge 22, 3) := by decide +kernel
theorem d_Rw_init_77 : decode m_Rw_init.2.1 77 = .ok (.aload_n 0, 1) := by decide +kernel
theorem d_Rw_init_78 : decode m_Rw_init.2.1 78 = .ok (.getfield 11, 3) := by decide +kernel
theorem d_Rw_init_81 : decode m_Rw_init.2.1 81 = .ok (.iload_n 1, 1) := by decide +kernel
theorem d_Rw_init_82 : decode m_Rw_init.2.1 82 = .ok (.new 9, 3) := by decide +kernel
theorem d_Rw_init_85 : decode m_Rw_init.2.1 85 = .ok (.dup, 1) := by decide +kernel
theorem d_Rw_init_86 : decode m_Rw_init.2.1 86 = .ok (.invokespecial 45, 3) := by decide +kernel
theorem d_Rw_init_89 : decode m_Rw_init.2.1 89 = .ok (.aastore, 1) := by decide +kernel
theorem d_Rw_init_90 : decode m_Rw_init.2.1 90 = .ok (.iinc 1 1, 3) := by decide +kernel
theorem d_Rw_init_93 : decode m_Rw_init.2.1 93 = .ok (.goto (-22), 3) := by decide +kernel
theorem d_Rw_init_96 : decode m_Rw_init.2.1 96 = .ok (.return_, 1) := by decide +kernel
theorem d_Rw_addRule_0 : decode m_Rw_addRule.2.1 0 = .ok (.aload_n 0, 1) := by decide +kernel
theorem d_Rw_addRule_1 : decode m_Rw_addRule.2.1 1 = .ok (.getfield 11, 3) := by decide +kernel
theorem d_Rw_addRule_4 : decode m_Rw_addRule.2.1 4 = .ok (.aload_n 0, 1) := by decide +kernel
theorem d_Rw_addRule_5 : decode m_Rw_addRule.2.1 5 = .ok (.getfield 17, 3) := by decide +kernel
theorem d_Rw_addRule_8 : decode m_Rw_addRule.2.1 8 = .ok (.aaload, 1) := by decide +kernel
theorem d_Rw_addRule_9 : decode m_Rw_addRule.2.1 9 = .ok (.astore 4, 2) := by decide +kernel
theorem d_Rw_addRule_11 : decode m_Rw_addRule.2.1 11 = .ok (.aload 4, 2) := by decide +kernel
theorem d_Rw_addRule_13 : decode m_Rw_addRule.2.1 13 = .ok (.getfield 46, 3) := by decide +kernel
theorem d_Rw_addRule_16 : decode m_Rw_addRule.2.1 16 = .ok (.aload_n 1, 1) := by decide +kernel
theorem d_Rw_addRule_17 : decode m_Rw_addRule.2.1 17 = .ok (.invokevirtual 49, 3) := by decide +kernel
theorem d_Rw_addRule_20 : decode m_Rw_addRule.2.1 20 = .ok (.aload 4, 2) := by decide +kernel
theorem d_Rw_addRule_22 : decode m_Rw_addRule.2.1 22 = .ok (.getfield 53, 3) := by decide +kernel
theorem d_Rw_addRule_25 : decode m_Rw_addRule.2.1 25 = .ok (.aload_n 2, 1) := by decide +kernel
theorem d_Rw_addRule_26 : decode m_Rw_addRule.2.1 26 = .ok (.invokevirtual 49, 3) := by decide +kernel
theorem d_Rw_addRule_29 : decode m_Rw_addRule.2.1 29 = .ok (.aload 4, 2) := by decide +kernel
theorem d_Rw_addRule_31 : decode m_Rw_addRule.2.1 31 = .ok (.iload_n 3, 1) := by decide +kernel
theorem d_Rw_addRule_32 : decode m_Rw_addRule.2.1 32 = .ok (.putfield 56, 3) := by decide +kernel
theorem d_Rw_addRule_35 : decode m_Rw_addRule.2.1 35 = .ok (.aload_n 0, 1) := by decide +kernel
theorem d_Rw_addRule_36 : decode m_Rw_addRule.2.1 36 = .ok (.dup, 1) := by decide +kernel
theorem d_Rw_addRule_37 : decode m_Rw_addRule.2.1 37 = .ok (.getfield 17, 3) := by decide +kernel
theorem d_Rw_addRule_40 : decode m_Rw_addRule.2.1 40 = .ok (.iconst 1, 1) := by decide +kernel
theorem d_Rw_addRule_41 : decode m_Rw_addRule.2.1 41 = .ok (.iadd, 1) := by decide +kernel
theorem d_Rw_addRule_42 : decode m_Rw_addRule.2.1 42 = .ok (.putfield 17, 3) := by decide +kernel
theorem d_Rw_addRule_45 : decode m_Rw_addRule.2.1 45 = .ok (.return_, 1) := by decide +kernel
theorem d_Rw_normalize_0 : decode m_Rw_normalize.2.1 0 = .ok (.aload_n 0, 1) := by decide +kernel
theorem d_Rw_normalize_1 : decode m_Rw_normalize.2.1 1 = .ok (.getfield 24, 3) := by decide +kernel
theorem d_Rw_normalize_4 : decode m_Rw_normalize.2.1 4 = .ok (.aload_n 1, 1) := by decide +kernel
theorem d_Rw_normalize_5 : decode m_Rw_normalize.2.1 5 = .ok (.invokevirtual 49, 3) := by decide +kernel
theorem d_Rw_normalize_8 : decode m_Rw_normalize.2.1 8 = .ok (.iconst 0, 1) := by decide +kernel
theorem d_Rw_normalize_9 : decode m_Rw_normalize.2.1 9 = .ok (.istore_n 3, 1) := by decide +kernel
theorem d_Rw_normalize_10 : decode m_Rw_normalize.2.1 10 = .ok (.iload_n 3, 1) := by decide +kernel
theorem d_Rw_normalize_11 : decode m_Rw_normalize.2.1 11 = .ok (.bipush 50, 2) := by decide +kernel
theorem d_Rw_normalize_13 : decode m_Rw_normalize.2.1 13 = .ok (.if_icmp .gt 26, 3) := by decide +kernel
theorem d_Rw_normalize_16 : decode m_Rw_normalize.2.1 16 = .ok (.aload_n 0, 1) := by decide +kernel
theorem d_Rw_normalize_17 : decode m_Rw_normalize.2.1 17 = .ok (.invokevirtual 59, 3) := by decide +kernel
theorem d_Rw_normalize_20 : decode m_Rw_normalize.2.1 20 = .ok (.ifCond .ne 13, 3) := by decide +kernel
theorem d_Rw_normalize_23 : decode m_Rw_normalize.2.1 23 = .ok (.aload_n 2, 1) := by decide +kernel
theorem d_Rw_normalize_24 : decode m_Rw_normalize.2.1 24 = .ok (.aload_n 0, 1) := by decide +kernel
theorem d_Rw_normalize_25 : decode m_Rw_normalize.2.1 25 = .ok (.getfield 24, 3) := by decide +kernel
theorem d_Rw_normalize_28 : decode m_Rw_normalize.2.1 28 = .ok (.invokevirtual 49, 3) := by decide +kernel
theorem d_Rw_normalize_31 : decode m_Rw_normalize.2.1 31 = .ok (.iload_n 3, 1) := by decide +kernel
theorem d_Rw_normalize_32 : decode m_Rw_normalize.2.1 32 = .ok (.ireturn, 1) := by decide +kernel
theorem d_Rw_normalize_33 : decode m_Rw_normalize.2.1 33 = .ok (.iinc 3 1, 3) := by decide +kernel
theorem d_Rw_normalize_36 : decode m_Rw_normalize.2.1 36 = .ok (.goto (-26), 3) := by decide +kernel
theorem d_Rw_normalize_39 : decode m_Rw_normalize.2.1 39 = .ok (.new 63, 3) := by decide +kernel
theorem d_Rw_normalize_42 : decode m_Rw_normalize.2.1 42 = .ok (.dup, 1) := by decide +kernel
theorem d_Rw_normalize_43 : decode m_Rw_normalize.2.1 43 = .ok (.invokespecial 65, 3) := by decide +kernel
theorem d_Rw_normalize_46 : decode m_Rw_normalize.2.1 46 = .ok (.athrow, 1) := by decide +kernel
theorem d_Rw_step_0 : decode m_Rw_step.2.1 0 = .ok (.iconst 0, 1) := by decide +kernel
theorem d_Rw_step_1 : decode m_Rw_step.2.1 1 = .ok (.istore_n 1, 1) := by decide +kernel
theorem d_Rw_step_2 : decode m_Rw_step.2.1 2 = .ok (.iload_n 1, 1) := by decide +kernel
theorem d_Rw_step_3 : decode m_Rw_step.2.1 3 = .ok (.aload_n 0, 1) := by decide +kernel
theorem d_Rw_step_4 : decode m_Rw_step.2.1 4 = .ok (.getfield 24, 3) := by decide +kernel
theorem d_Rw_step_7 : decode m_Rw_step.2.1 7 = .ok (.getfield 66, 3) := by decide +kernel
theorem d_Rw_step_10 : decode m_Rw_step.2.1 10 = .ok (.if_icmp .ge 66, 3) := by decide +kernel
theorem d_Rw_step_13 : decode m_Rw_step.2.1 13 = .ok (.aload_n 0, 1) := by decide +kernel
theorem d_Rw_step_14 : decode m_Rw_step.2.1 14 = .ok (.getfield 24, 3) := by decide +kernel
theorem d_Rw_step_17 : decode m_Rw_step.2.1 17 = .ok (.iload_n 1, 1) := by decide +kernel
theorem d_Rw_step_18 : decode m_Rw_step.2.1 18 = .ok (.invokevirtual 69, 3) := by decide +kernel
theorem d_Rw_step_21 : decode m_Rw_step.2.1 21 = .ok (.iconst 2, 1) := by decide +kernel
theorem d_Rw_step_22 : decode m_Rw_step.2.1 22 = .ok (.if_icmp .ne 24, 3) := by decide +kernel
theorem d_Rw_step_25 : decode m_Rw_step.2.1 25 = .ok (.aload_n 0, 1) := by decide +kernel
theorem d_Rw_step_26 : decode m_Rw_step.2.1 26 = .ok (.getfield 24, 3) := by decide +kernel
theorem d_Rw_step_29 : decode m_Rw_step.2.1 29 = .ok (.iload_n 1, 1) := by decide +kernel
theorem d_Rw_step_30 : decode m_Rw_step.2.1 30 = .ok (.iconst 1, 1) := by decide +kernel
theorem d_Rw_step_31 : decode m_Rw_step.2.1 31 = .ok (.iadd, 1) := by decide +kernel
theorem d_Rw_step_32 : decode m_Rw_step.2.1 32 = .ok (.invokevirtual 69, 3) := by decide +kernel
theorem d_Rw_step_35 : decode m_Rw_step.2.1 35 = .ok (.iconst 3, 1) := by decide +kernel
theorem d_Rw_step_36 : decode m_Rw_step.2.1 36 = .ok (.if_icmp .ne 10, 3) := by decide +kernel
theorem d_Rw_step_39 : decode m_Rw_step.2.1 39 = .ok (.aload_n 0, 1) := by decide +kernel
theorem d_Rw_step_40 : decode m_Rw_step.2.1 40 = .ok (.iload_n 1, 1) := by decide +kernel
theorem d_Rw_step_41 : decode m_Rw_step.2.1 41 = .ok (.invokevirtual 73, 3) := by decide +kernel
theorem d_Rw_step_44 : decode m_Rw_step.2.1 44 = .ok (.iconst 1, 1) := by decide +kernel
theorem d_Rw_step_45 : decode m_Rw_step.2.1 45 = .ok (.ireturn, 1) := by decide +kernel
theorem d_Rw_step_46 : decode m_Rw_step.2.1 46 = .ok (.aload_n 0, 1) := by decide +kernel
theorem d_Rw_step_47 : decode m_Rw_step.2.1 47 = .ok (.iload_n 1, 1) := by decide +kernel
theorem d_Rw_step_48 : decode m_Rw_step.2.1 48 = .ok (.invokevirtual 77, 3) := by decide +kernel
theorem d_Rw_step_51 : decode m_Rw_step.2.1 51 = .ok (.istore_n 2, 1) := by decide +kernel
theorem d_Rw_step_52 : decode m_Rw_step.2.1 52 = .ok (.iload_n 2, 1) := by decide +kernel
theorem d_Rw_step_53 : decode m_Rw_step.2.1 53 = .ok (.iconst (-1), 1) := by decide +kernel
theorem d_Rw_step_54 : decode m_Rw_step.2.1 54 = .ok (.if_icmp .eq 16, 3) := by decide +kernel
theorem d_Rw_step_57 : decode m_Rw_step.2.1 57 = .ok (.aload_n 0, 1) := by decide +kernel
theorem d_Rw_step_58 : decode m_Rw_step.2.1 58 = .ok (.aload_n 0, 1) := by decide +kernel
theorem d_Rw_step_59 : decode m_Rw_step.2.1 59 = .ok (.getfield 11, 3) := by decide +kernel
theorem d_Rw_step_62 : decode m_Rw_step.2.1 62 = .ok (.iload_n 2, 1) := by decide +kernel
theorem d_Rw_step_63 : decode m_Rw_step.2.1 63 = .ok (.aaload, 1) := by decide +kernel
theorem d_Rw_step_64 : decode m_Rw_step.2.1 64 = .ok (.iload_n 1, 1) := by decide +kernel
theorem d_Rw_step_65 : decode m_Rw_step.2.1 65 = .ok (.invokevirtual 80, 3) := by decide +kernel
theorem d_Rw_step_68 : decode m_Rw_step.2.1 68 = .ok (.iconst 1, 1) := by decide +kernel
theorem d_Rw_step_69 : decode m_Rw_step.2.1 69 = .ok (.ireturn, 1) := by decide +kernel
theorem d_Rw_step_70 : decode m_Rw_step.2.1 70 = .ok (.iinc 1 1, 3) := by decide +kernel
theorem d_Rw_step_73 : decode m_Rw_step.2.1 73 = .ok (.goto (-71), 3) := by decide +kernel
theorem d_Rw_step_76 : decode m_Rw_step.2.1 76 = .ok (.iconst 0, 1) := by decide +kernel
theorem d_Rw_step_77 : decode m_Rw_step.2.1 77 = .ok (.ireturn, 1) := by decide +kernel
theorem d_Rw_doLambda_0 : decode m_Rw_doLambda.2.1 0 = .ok (.aload_n 0, 1) := by decide +kernel
theorem d_Rw_doLambda_1 : decode m_Rw_doLambda.2.1 1 = .ok (.getfield 24, 3) := by decide +kernel
theorem d_Rw_doLambda_4 : decode m_Rw_doLambda.2.1 4 = .ok (.iload_n 1, 1) := by decide +kernel
theorem d_Rw_doLambda_5 : decode m_Rw_doLambda.2.1 5 = .ok (.iconst 2, 1) := by decide +kernel
theorem d_Rw_doLambda_6 : decode m_Rw_doLambda.2.1 6 = .ok (.iadd, 1) := by decide +kernel
theorem d_Rw_doLambda_7 : decode m_Rw_doLambda.2.1 7 = .ok (.invokevirtual 84, 3) := by decide +kernel
theorem d_Rw_doLambda_10 : decode m_Rw_doLambda.2.1 10 = .ok (.istore_n 2, 1) := by decide +kernel
theorem d_Rw_doLambda_11 : decode m_Rw_doLambda.2.1 11 = .ok (.aload_n 0, 1) := by decide +kernel
theorem d_Rw_doLambda_12 : decode m_Rw_doLambda.2.1 12 = .ok (.getfield 24, 3) := by decide +kernel
theorem d_Rw_doLambda_15 : decode m_Rw_doLambda.2.1 15 = .ok (.iload_n 2, 1) := by decide +kernel
theorem d_Rw_doLambda_16 : decode m_Rw_doLambda.2.1 16 = .ok (.invokevirtual 84, 3) := by decide +kernel
theorem d_Rw_doLambda_19 : decode m_Rw_doLambda.2.1 19 = .ok (.istore_n 3, 1) := by decide +kernel
theorem d_Rw_doLambda_20 : decode m_Rw_doLambda.2.1 20 = .ok (.aload_n 0, 1) := by decide +kernel
theorem d_Rw_doLambda_21 : decode m_Rw_doLambda.2.1 21 = .ok (.getfield 28, 3) := by decide +kernel
theorem d_Rw_doLambda_24 : decode m_Rw_doLambda.2.1 24 = .ok (.invokevirtual 87, 3) := by decide +kernel
theorem d_Rw_doLambda_27 : decode m_Rw_doLambda.2.1 27 = .ok (.aload_n 0, 1) := by decide +kernel
theorem d_Rw_doLambda_28 : decode m_Rw_doLambda.2.1 28 = .ok (.getfield 28, 3) := by decide +kernel
theorem d_Rw_doLambda_31 : decode m_Rw_doLambda.2.1 31 = .ok (.aload_n 0, 1) := by decide +kernel
theorem d_Rw_doLambda_32 : decode m_Rw_doLambda.2.1 32 = .ok (.getfield 24, 3) := by decide +kernel
theorem d_Rw_doLambda_35 : decode m_Rw_doLambda.2.1 35 = .ok (.iconst 0, 1) := by decide +kernel
theorem d_Rw_doLambda_36 : decode m_Rw_doLambda.2.1 36 = .ok (.iload_n 1, 1) := by decide +kernel
theorem d_Rw_doLambda_37 : decode m_Rw_doLambda.2.1 37 = .ok (.invokevirtual 90, 3) := by decide +kernel
theorem d_Rw_doLambda_40 : decode m_Rw_doLambda.2.1 40 = .ok (.aload_n 0, 1) := by decide +kernel
theorem d_Rw_doLambda_41 : decode m_Rw_doLambda.2.1 41 = .ok (.aload_n 0, 1) := by decide +kernel
theorem d_Rw_doLambda_42 : decode m_Rw_doLambda.2.1 42 = .ok (.getfield 24, 3) := by decide +kernel
theorem d_Rw_doLambda_45 : decode m_Rw_doLambda.2.1 45 = .ok (.iload_n 3, 1) := by decide +kernel
theorem d_Rw_doLambda_46 : decode m_Rw_doLambda.2.1 46 = .ok (.aload_n 0, 1) := by decide +kernel
theorem d_Rw_doLambda_47 : decode m_Rw_doLambda.2.1 47 = .ok (.getfield 24, 3) := by decide +kernel
theorem d_Rw_doLambda_50 : decode m_Rw_doLambda.2.1 50 = .ok (.iload_n 2, 1) := by decide +kernel
theorem d_Rw_doLambda_51 : decode m_Rw_doLambda.2.1 51 = .ok (.aload_n 0, 1) := by decide +kernel
theorem d_Rw_doLambda_52 : decode m_Rw_doLambda.2.1 52 = .ok (.getfield 28, 3) := by decide +kernel
theorem d_Rw_doLambda_55 : decode m_Rw_doLambda.2.1 55 = .ok (.invokevirtual 94, 3) := by decide +kernel
theorem d_Rw_doLambda_58 : decode m_Rw_doLambda.2.1 58 = .ok (.aload_n 0, 1) := by decide +kernel
theorem d_Rw_doLambda_59 : decode m_Rw_doLambda.2.1 59 = .ok (.getfield 28, 3) := by decide +kernel
theorem d_Rw_doLambda_62 : decode m_Rw_doLambda.2.1 62 = .ok (.aload_n 0, 1) := by decide +kernel
theorem d_Rw_doLambda_63 : decode m_Rw_doLambda.2.1 63 = .ok (.getfield 24, 3) := by decide +kernel
theorem d_Rw_doLambda_66 : decode m_Rw_doLambda.2.1 66 = .ok (.aload_n 0, 1) := by decide +kernel
theorem d_Rw_doLambda_67 : decode m_Rw_doLambda.2.1 67 = .ok (.getfield 24, 3) := by decide +kernel
theorem d_Rw_doLambda_70 : decode m_Rw_doLambda.2.1 70 = .ok (.iload_n 3, 1) := by decide +kernel
theorem d_Rw_doLambda_71 : decode m_Rw_doLambda.2.1 71 = .ok (.invokevirtual 84, 3) := by decide +kernel
theorem d_Rw_doLambda_74 : decode m_Rw_doLambda.2.1 74 = .ok (.aload_n 0, 1) := by decide +kernel
theorem d_Rw_doLambda_75 : decode m_Rw_doLambda.2.1 75 = .ok (.getfield 24, 3) := by decide +kernel
theorem d_Rw_doLambda_78 : decode m_Rw_doLambda.2.1 78 = .ok (.getfield 66, 3) := by decide +kernel
theorem d_Rw_doLambda_81 : decode m_Rw_doLambda.2.1 81 = .ok (.invokevirtual 90, 3) := by decide +kernel
theorem d_Rw_doLambda_84 : decode m_Rw_doLambda.2.1 84 = .ok (.aload_n 0, 1) := by decide +kernel
theorem d_Rw_doLambda_85 : decode m_Rw_doLambda.2.1 85 = .ok (.invokevirtual 98, 3) := by decide +kernel
theorem d_Rw_doLambda_88 : decode m_Rw_doLambda.2.1 88 = .ok (.return_, 1) := by decide +kernel
theorem d_Rw_doRule_0 : decode m_Rw_doRule.2.1 0 = .ok (.aload_n 0, 1) := by decide +kernel
theorem d_Rw_doRule_1 : decode m_Rw_doRule.2.1 1 = .ok (.getfield 28, 3) := by decide +kernel
theorem d_Rw_doRule_4 : decode m_Rw_doRule.2.1 4 = .ok (.invokevirtual 87, 3) := by decide +kernel
theorem d_Rw_doRule_7 : decode m_Rw_doRule.2.1 7 = .ok (.aload_n 0, 1) := by decide +kernel
theorem d_Rw_doRule_8 : decode m_Rw_doRule.2.1 8 = .ok (.getfield 28, 3) := by decide +kernel
theorem d_Rw_doRule_11 : decode m_Rw_doRule.2.1 11 = .ok (.aload_n 0, 1) := by decide +kernel
theorem d_Rw_doRule_12 : decode m_Rw_doRule.2.1 12 = .ok (.getfield 24, 3) := by decide +kernel
theorem d_Rw_doRule_15 : decode m_Rw_doRule.2.1 15 = .ok (.iconst 0, 1) := by decide +kernel
theorem d_Rw_doRule_16 : decode m_Rw_doRule.2.1 16 = .ok (.iload_n 2, 1) := by decide +kernel
theorem d_Rw_doRule_17 : decode m_Rw_doRule.2.1 17 = .ok (.invokevirtual 90, 3) := by decide +kernel
theorem d_Rw_doRule_20 : decode m_Rw_doRule.2.1 20 = .ok (.aload_n 0, 1) := by decide +kernel
theorem d_Rw_doRule_21 : decode m_Rw_doRule.2.1 21 = .ok (.getfield 38, 3) := by decide +kernel
theorem d_Rw_doRule_24 : decode m_Rw_doRule.2.1 24 = .ok (.invokevirtual 101, 3) := by decide +kernel
theorem d_Rw_doRule_27 : decode m_Rw_doRule.2.1 27 = .ok (.iconst 0, 1) := by decide +kernel
theorem d_Rw_doRule_28 : decode m_Rw_doRule.2.1 28 = .ok (.istore_n 3, 1) := by decide +kernel
theorem d_Rw_doRule_29 : decode m_Rw_doRule.2.1 29 = .ok (.iload_n 3, 1) := by decide +kernel
theorem d_Rw_doRule_30 : decode m_Rw_doRule.2.1 30 = .ok (.aload_n 1, 1) := by decide +kernel
theorem d_Rw_doRule_31 : decode m_Rw_doRule.2.1 31 = .ok (.getfield 53, 3) := by decide +kernel
theorem d_Rw_doRule_34 : decode m_Rw_doRule.2.1 34 = .ok (.getfield 66, 3) := by decide +kernel
theorem d_Rw_doRule_37 : decode m_Rw_doRule.2.1 37 = .ok (.if_icmp .ge 97, 3) := by decide +kernel
theorem d_Rw_doRule_40 : decode m_Rw_doRule.2.1 40 = .ok (.aload_n 0, 1) := by decide +kernel
theorem d_Rw_doRule_41 : decode m_Rw_doRule.2.1 41 = .ok (.getfield 38, 3) := by decide +kernel
theorem d_Rw_doRule_44 : decode m_Rw_doRule.2.1 44 = .ok (.invokevirtual 104, 3) := by decide +kernel
theorem d_Rw_doRule_47 : decode m_Rw_doRule.2.1 47 = .ok (.ifCond .eq 87, 3) := by decide +kernel
theorem d_Rw_doRule_50 : decode m_Rw_doRule.2.1 50 = .ok (.aload_n 1, 1) := by decide +kernel
theorem d_Rw_doRule_51 : decode m_Rw_doRule.2.1 51 = .ok (.getfield 53, 3) := by decide +kernel
theorem d_Rw_doRule_54 : decode m_Rw_doRule.2.1 54 = .ok (.iload_n 3, 1) := by decide +kernel
theorem d_Rw_doRule_55 : decode m_Rw_doRule.2.1 55 = .ok (.invokevirtual 69, 3) := by decide +kernel
theorem d_Rw_doRule_58 : decode m_Rw_doRule.2.1 58 = .ok (.istore 4, 2) := by decide +kernel
theorem d_Rw_doRule_60 : decode m_Rw_doRule.2.1 60 = .ok (.aload_n 0, 1) := by decide +kernel
theorem d_Rw_doRule_61 : decode m_Rw_doRule.2.1 61 = .ok (.getfield 38, 3) := by decide +kernel
theorem d_Rw_doRule_64 : decode m_Rw_doRule.2.1 64 = .ok (.iload 4, 2) := by decide +kernel
theorem d_Rw_doRule_66 : decode m_Rw_doRule.2.1 66 = .ok (.invokevirtual 107, 3) := by decide +kernel
theorem d_Rw_doRule_69 : decode m_Rw_doRule.2.1 69 = .ok (.istore 5, 2) := by decide +kernel
theorem d_Rw_doRule_71 : decode m_Rw_doRule.2.1 71 = .ok (.iload 4, 2) := by decide +kernel
theorem d_Rw_doRule_73 : decode m_Rw_doRule.2.1 73 = .ok (.bipush 100, 2) := by decide +kernel
theorem d_Rw_doRule_75 : decode m_Rw_doRule.2.1 75 = .ok (.isub, 1) := by decide +kernel
theorem d_Rw_doRule_76 : decode m_Rw_doRule.2.1 76 = .ok (.iload 5, 2) := by decide +kernel
theorem d_Rw_doRule_78 : decode m_Rw_doRule.2.1 78 = .ok (.isub, 1) := by decide +kernel
theorem d_Rw_doRule_79 : decode m_Rw_doRule.2.1 79 = .ok (.istore 6, 2) := by decide +kernel
theorem d_Rw_doRule_81 : decode m_Rw_doRule.2.1 81 = .ok (.iload 6, 2) := by decide +kernel
theorem d_Rw_doRule_83 : decode m_Rw_doRule.2.1 83 = .ok (.ifCond .lt 36, 3) := by decide +kernel
theorem d_Rw_doRule_86 : decode m_Rw_doRule.2.1 86 = .ok (.iload 6, 2) := by decide +kernel
theorem d_Rw_doRule_88 : decode m_Rw_doRule.2.1 88 = .ok (.aload_n 1, 1) := by decide +kernel
theorem d_Rw_doRule_89 : decode m_Rw_doRule.2.1 89 = .ok (.getfield 56, 3) := by decide +kernel
theorem d_Rw_doRule_92 : decode m_Rw_doRule.2.1 92 = .ok (.if_icmp .ge 27, 3) := by decide +kernel
theorem d_Rw_doRule_95 : decode m_Rw_doRule.2.1 95 = .ok (.aload_n 0, 1) := by decide +kernel
theorem d_Rw_doRule_96 : decode m_Rw_doRule.2.1 96 = .ok (.aload_n 0, 1) := by decide +kernel
theorem d_Rw_doRule_97 : decode m_Rw_doRule.2.1 97 = .ok (.getfield 24, 3) := by decide +kernel
theorem d_Rw_doRule_100 : decode m_Rw_doRule.2.1 100 = .ok (.aload_n 0, 1) := by decide +kernel
theorem d_Rw_doRule_101 : decode m_Rw_doRule.2.1 101 = .ok (.getfield 31, 3) := by decide +kernel
theorem d_Rw_doRule_104 : decode m_Rw_doRule.2.1 104 = .ok (.iload 6, 2) := by decide +kernel
theorem d_Rw_doRule_106 : decode m_Rw_doRule.2.1 106 = .ok (.iaload, 1) := by decide +kernel
theorem d_Rw_doRule_107 : decode m_Rw_doRule.2.1 107 = .ok (.iload 5, 2) := by decide +kernel
theorem d_Rw_doRule_109 : decode m_Rw_doRule.2.1 109 = .ok (.aload_n 0, 1) := by decide +kernel
theorem d_Rw_doRule_110 : decode m_Rw_doRule.2.1 110 = .ok (.getfield 28, 3) := by decide +kernel
theorem d_Rw_doRule_113 : decode m_Rw_doRule.2.1 113 = .ok (.invokevirtual 110, 3) := by decide +kernel
theorem d_Rw_doRule_116 : decode m_Rw_doRule.2.1 116 = .ok (.goto 12, 3) := by decide +kernel
theorem d_Rw_doRule_119 : decode m_Rw_doRule.2.1 119 = .ok (.aload_n 0, 1) := by decide +kernel
theorem d_Rw_doRule_120 : decode m_Rw_doRule.2.1 120 = .ok (.getfield 28, 3) := by decide +kernel
theorem d_Rw_doRule_123 : decode m_Rw_doRule.2.1 123 = .ok (.iload 4, 2) := by decide +kernel
theorem d_Rw_doRule_125 : decode m_Rw_doRule.2.1 125 = .ok (.invokevirtual 114, 3) := by decide +kernel
theorem d_Rw_doRule_128 : decode m_Rw_doRule.2.1 128 = .ok (.iinc 3 1, 3) := by decide +kernel
theorem d_Rw_doRule_131 : decode m_Rw_doRule.2.1 131 = .ok (.goto (-102), 3) := by decide +kernel
theorem d_Rw_doRule_134 : decode m_Rw_doRule.2.1 134 = .ok (.aload_n 0, 1) := by decide +kernel
theorem d_Rw_doRule_135 : decode m_Rw_doRule.2.1 135 = .ok (.getfield 28, 3) := by decide +kernel
theorem d_Rw_doRule_138 : decode m_Rw_doRule.2.1 138 = .ok (.aload_n 0, 1) := by decide +kernel
theorem d_Rw_doRule_139 : decode m_Rw_doRule.2.1 139 = .ok (.getfield 24, 3) := by decide +kernel
theorem d_Rw_doRule_142 : decode m_Rw_doRule.2.1 142 = .ok (.aload_n 0, 1) := by decide +kernel
theorem d_Rw_doRule_143 : decode m_Rw_doRule.2.1 143 = .ok (.getfield 24, 3) := by decide +kernel
theorem d_Rw_doRule_146 : decode m_Rw_doRule.2.1 146 = .ok (.iload_n 2, 1) := by decide +kernel
theorem d_Rw_doRule_147 : decode m_Rw_doRule.2.1 147 = .ok (.invokevirtual 84, 3) := by decide +kernel
theorem d_Rw_doRule_150 : decode m_Rw_doRule.2.1 150 = .ok (.aload_n 0, 1) := by decide +kernel
theorem d_Rw_doRule_151 : decode m_Rw_doRule.2.1 151 = .ok (.getfield 24, 3) := by decide +kernel
theorem d_Rw_doRule_154 : decode m_Rw_doRule.2.1 154 = .ok (.getfield 66, 3) := by decide +kernel
theorem d_Rw_doRule_157 : decode m_Rw_doRule.2.1 157 = .ok (.invokevirtual 90, 3) := by decide +kernel
theorem d_Rw_doRule_160 : decode m_Rw_doRule.2.1 160 = .ok (.aload_n 0, 1) := by decide +kernel
theorem d_Rw_doRule_161 : decode m_Rw_doRule.2.1 161 = .ok (.invokevirtual 98, 3) := by decide +kernel
theorem d_Rw_doRule_164 : decode m_Rw_doRule.2.1 164 = .ok (.return_, 1) := by decide +kernel
theorem d_Rw_takeNext_0 : decode m_Rw_takeNext.2.1 0 = .ok (.aload_n 0, 1) := by decide +kernel
theorem d_Rw_takeNext_1 : decode m_Rw_takeNext.2.1 1 = .ok (.getfield 24, 3) := by decide +kernel
theorem d_Rw_takeNext_4 : decode m_Rw_takeNext.2.1 4 = .ok (.astore_n 1, 1) := by decide +kernel
theorem d_Rw_takeNext_5 : decode m_Rw_takeNext.2.1 5 = .ok (.aload_n 0, 1) := by decide +kernel
theorem d_Rw_takeNext_6 : decode m_Rw_takeNext.2.1 6 = .ok (.aload_n 0, 1) := by decide +kernel
theorem d_Rw_takeNext_7 : decode m_Rw_takeNext.2.1 7 = .ok (.getfield 28, 3) := by decide +kernel
theorem d_Rw_takeNext_10 : decode m_Rw_takeNext.2.1 10 = .ok (.putfield 24, 3) := by decide +kernel
theorem d_Rw_takeNext_13 : decode m_Rw_takeNext.2.1 13 = .ok (.aload_n 0, 1) := by decide +kernel
theorem d_Rw_takeNext_14 : decode m_Rw_takeNext.2.1 14 = .ok (.aload_n 1, 1) := by decide +kernel
theorem d_Rw_takeNext_15 : decode m_Rw_takeNext.2.1 15 = .ok (.putfield 28, 3) := by decide +kernel
theorem d_Rw_takeNext_18 : decode m_Rw_takeNext.2.1 18 = .ok (.return_, 1) := by decide +kernel
theorem d_Rw_firstMatch_0 : decode m_Rw_firstMatch.2.1 0 = .ok (.iconst 0, 1) := by decide +kernel
theorem d_Rw_firstMatch_1 : decode m_Rw_firstMatch.2.1 1 = .ok (.istore_n 2, 1) := by decide +kernel
theorem d_Rw_firstMatch_2 : decode m_Rw_firstMatch.2.1 2 = .ok (.iload_n 2, 1) := by decide +kernel
theorem d_Rw_firstMatch_3 : decode m_Rw_firstMatch.2.1 3 = .ok (.aload_n 0, 1) := by decide +kernel
theorem d_Rw_firstMatch_4 : decode m_Rw_firstMatch.2.1 4 = .ok (.getfield 17, 3) := by decide +kernel
theorem d_Rw_firstMatch_7 : decode m_Rw_firstMatch.2.1 7 = .ok (.if_icmp .ge 25, 3) := by decide +kernel
theorem d_Rw_firstMatch_10 : decode m_Rw_firstMatch.2.1 10 = .ok (.aload_n 0, 1) := by decide +kernel
theorem d_Rw_firstMatch_11 : decode m_Rw_firstMatch.2.1 11 = .ok (.aload_n 0, 1) := by decide +kernel
theorem d_Rw_firstMatch_12 : decode m_Rw_firstMatch.2.1 12 = .ok (.getfield 11, 3) := by decide +kernel
theorem d_Rw_firstMatch_15 : decode m_Rw_firstMatch.2.1 15 = .ok (.iload_n 2, 1) := by decide +kernel
theorem d_Rw_firstMatch_16 : decode m_Rw_firstMatch.2.1 16 = .ok (.aaload, 1) := by decide +kernel
theorem d_Rw_firstMatch_17 : decode m_Rw_firstMatch.2.1 17 = .ok (.iload_n 1, 1) := by decide +kernel
theorem d_Rw_firstMatch_18 : decode m_Rw_firstMatch.2.1 18 = .ok (.invokevirtual 117, 3) := by decide +kernel
theorem d_Rw_firstMatch_21 : decode m_Rw_firstMatch.2.1 21 = .ok (.ifCond .eq 5, 3) := by decide +kernel
theorem d_Rw_firstMatch_24 : decode m_Rw_firstMatch.2.1 24 = .ok (.iload_n 2, 1) := by decide +kernel
theorem d_Rw_firstMatch_25 : decode m_Rw_firstMatch.2.1 25 = .ok (.ireturn, 1) := by decide +kernel
theorem d_Rw_firstMatch_26 : decode m_Rw_firstMatch.2.1 26 = .ok (.iinc 2 1, 3) := by decide +kernel
theorem d_Rw_firstMatch_29 : decode m_Rw_firstMatch.2.1 29 = .ok (.goto (-27), 3) := by decide +kernel
theorem d_Rw_firstMatch_32 : decode m_Rw_firstMatch.2.1 32 = .ok (.iconst (-1), 1) := by decide +kernel
theorem d_Rw_firstMatch_33 : decode m_Rw_firstMatch.2.1 33 = .ok (.ireturn, 1) := by decide +kernel
theorem d_Rw_matches_0 : decode m_Rw_matches.2.1 0 = .ok (.iload_n 2, 1) := by decide +kernel
theorem d_Rw_matches_1 : decode m_Rw_matches.2.1 1 = .ok (.istore_n 3, 1) := by decide +kernel
theorem d_Rw_matches_2 : decode m_Rw_matches.2.1 2 = .ok (.iconst 0, 1) := by decide +kernel
theorem d_Rw_matches_3 : decode m_Rw_matches.2.1 3 = .ok (.istore 4, 2) := by decide +kernel
theorem d_Rw_matches_5 : decode m_Rw_matches.2.1 5 = .ok (.iload 4, 2) := by decide +kernel
theorem d_Rw_matches_7 : decode m_Rw_matches.2.1 7 = .ok (.aload_n 1, 1) := by decide +kernel
theorem d_Rw_matches_8 : decode m_Rw_matches.2.1 8 = .ok (.getfield 46, 3) := by decide +kernel
theorem d_Rw_matches_11 : decode m_Rw_matches.2.1 11 = .ok (.getfield 66, 3) := by decide +kernel
theorem d_Rw_matches_14 : decode m_Rw_matches.2.1 14 = .ok (.if_icmp .ge 82, 3) := by decide +kernel
theorem d_Rw_matches_17 : decode m_Rw_matches.2.1 17 = .ok (.aload_n 1, 1) := by decide +kernel
theorem d_Rw_matches_18 : decode m_Rw_matches.2.1 18 = .ok (.getfield 46, 3) := by decide +kernel
theorem d_Rw_matches_21 : decode m_Rw_matches.2.1 21 = .ok (.iload 4, 2) := by decide +kernel
theorem d_Rw_matches_23 : decode m_Rw_matches.2.1 23 = .ok (.invokevirtual 69, 3) := by decide +kernel
theorem d_Rw_matches_26 : decode m_Rw_matches.2.1 26 = .ok (.istore 5, 2) := by decide +kernel
theorem d_Rw_matches_28 : decode m_Rw_matches.2.1 28 = .ok (.iload 5, 2) := by decide +kernel
theorem d_Rw_matches_30 : decode m_Rw_matches.2.1 30 = .ok (.bipush 100, 2) := by decide +kernel
theorem d_Rw_matches_32 : decode m_Rw_matches.2.1 32 = .ok (.isub, 1) := by decide +kernel
theorem d_Rw_matches_33 : decode m_Rw_matches.2.1 33 = .ok (.istore 6, 2) := by decide +kernel
theorem d_Rw_matches_35 : decode m_Rw_matches.2.1 35 = .ok (.iload 6, 2) := by decide +kernel
theorem d_Rw_matches_37 : decode m_Rw_matches.2.1 37 = .ok (.ifCond .lt 32, 3) := by decide +kernel
theorem d_Rw_matches_40 : decode m_Rw_matches.2.1 40 = .ok (.iload 6, 2) := by decide +kernel
theorem d_Rw_matches_42 : decode m_Rw_matches.2.1 42 = .ok (.aload_n 1, 1) := by decide +kernel
theorem d_Rw_matches_43 : decode m_Rw_matches.2.1 43 = .ok (.getfield 56, 3) := by decide +kernel
theorem d_Rw_matches_46 : decode m_Rw_matches.2.1 46 = .ok (.if_icmp .ge 23, 3) := by decide +kernel
theorem d_Rw_matches_49 : decode m_Rw_matches.2.1 49 = .ok (.aload_n 0, 1) := by decide +kernel
theorem d_Rw_matches_50 : decode m_Rw_matches.2.1 50 = .ok (.getfield 31, 3) := by decide +kernel
theorem d_Rw_matches_53 : decode m_Rw_matches.2.1 53 = .ok (.iload 6, 2) := by decide +kernel
theorem d_Rw_matches_55 : decode m_Rw_matches.2.1 55 = .ok (.iload_n 3, 1) := by decide +kernel
theorem d_Rw_matches_56 : decode m_Rw_matches.2.1 56 = .ok (.iastore, 1) := by decide +kernel
theorem d_Rw_matches_57 : decode m_Rw_matches.2.1 57 = .ok (.aload_n 0, 1) := by decide +kernel
theorem d_Rw_matches_58 : decode m_Rw_matches.2.1 58 = .ok (.getfield 24, 3) := by decide +kernel
theorem d_Rw_matches_61 : decode m_Rw_matches.2.1 61 = .ok (.iload_n 3, 1) := by decide +kernel
theorem d_Rw_matches_62 : decode m_Rw_matches.2.1 62 = .ok (.invokevirtual 84, 3) := by decide +kernel
theorem d_Rw_matches_65 : decode m_Rw_matches.2.1 65 = .ok (.istore_n 3, 1) := by decide +kernel
theorem d_Rw_matches_66 : decode m_Rw_matches.2.1 66 = .ok (.goto 24, 3) := by decide +kernel
theorem d_Rw_matches_69 : decode m_Rw_matches.2.1 69 = .ok (.aload_n 0, 1) := by decide +kernel
theorem d_Rw_matches_70 : decode m_Rw_matches.2.1 70 = .ok (.getfield 24, 3) := by decide +kernel
theorem d_Rw_matches_73 : decode m_Rw_matches.2.1 73 = .ok (.iload_n 3, 1) := by decide +kernel
theorem d_Rw_matches_74 : decode m_Rw_matches.2.1 74 = .ok (.invokevirtual 69, 3) := by decide +kernel
theorem d_Rw_matches_77 : decode m_Rw_matches.2.1 77 = .ok (.iload 5, 2) := by decide +kernel
theorem d_Rw_matches_79 : decode m_Rw_matches.2.1 79 = .ok (.if_icmp .ne 9, 3) := by decide +kernel
theorem d_Rw_matches_82 : decode m_Rw_matches.2.1 82 = .ok (.iinc 3 1, 3) := by decide +kernel
theorem d_Rw_matches_85 : decode m_Rw_matches.2.1 85 = .ok (.goto 5, 3) := by decide +kernel
theorem d_Rw_matches_88 : decode m_Rw_matches.2.1 88 = .ok (.iconst 0, 1) := by decide +kernel
theorem d_Rw_matches_89 : decode m_Rw_matches.2.1 89 = .ok (.ireturn, 1) := by decide +kernel
theorem d_Rw_matches_90 : decode m_Rw_matches.2.1 90 = .ok (.iinc 4 1, 3) := by decide +kernel
theorem d_Rw_matches_93 : decode m_Rw_matches.2.1 93 = .ok (.goto (-88), 3) := by decide +kernel
theorem d_Rw_matches_96 : decode m_Rw_matches.2.1 96 = .ok (.iconst 1, 1) := by decide +kernel
theorem d_Rw_matches_97 : decode m_Rw_matches.2.1 97 = .ok (.ireturn, 1) := by decide +kernel
theorem d_Rw_appendBodyWith_0 : decode m_Rw_appendBodyWith.2.1 0 = .ok (.aload_n 0, 1) := by decide +kernel
theorem d_Rw_appendBodyWith_1 : decode m_Rw_appendBodyWith.2.1 1 = .ok (.getfield 38, 3) := by decide +kernel
theorem d_Rw_appendBodyWith_4 : decode m_Rw_appendBodyWith.2.1 4 = .ok (.invokevirtual 101, 3) := by decide +kernel
theorem d_Rw_appendBodyWith_7 : decode m_Rw_appendBodyWith.2.1 7 = .ok (.iload 4, 2) := by decide +kernel
theorem d_Rw_appendBodyWith_9 : decode m_Rw_appendBodyWith.2.1 9 = .ok (.istore 6, 2) := by decide +kernel
theorem d_Rw_appendBodyWith_11 : decode m_Rw_appendBodyWith.2.1 11 = .ok (.iload 6, 2) := by decide +kernel
theorem d_Rw_appendBodyWith_13 : decode m_Rw_appendBodyWith.2.1 13 = .ok (.aload_n 3, 1) := by decide +kernel
theorem d_Rw_appendBodyWith_14 : decode m_Rw_appendBodyWith.2.1 14 = .ok (.getfield 66, 3) := by decide +kernel
theorem d_Rw_appendBodyWith_17 : decode m_Rw_appendBodyWith.2.1 17 = .ok (.if_icmp .ge 85, 3) := by decide +kernel
theorem d_Rw_appendBodyWith_20 : decode m_Rw_appendBodyWith.2.1 20 = .ok (.aload_n 0, 1) := by decide +kernel
theorem d_Rw_appendBodyWith_21 : decode m_Rw_appendBodyWith.2.1 21 = .ok (.getfield 38, 3) := by decide +kernel
theorem d_Rw_appendBodyWith_24 : decode m_Rw_appendBodyWith.2.1 24 = .ok (.invokevirtual 104, 3) := by decide +kernel
theorem d_Rw_appendBodyWith_27 : decode m_Rw_appendBodyWith.2.1 27 = .ok (.ifCond .eq 75, 3) := by decide +kernel
theorem d_Rw_appendBodyWith_30 : decode m_Rw_appendBodyWith.2.1 30 = .ok (.aload_n 3, 1) := by decide +kernel
theorem d_Rw_appendBodyWith_31 : decode m_Rw_appendBodyWith.2.1 31 = .ok (.iload 6, 2) := by decide +kernel
theorem d_Rw_appendBodyWith_33 : decode m_Rw_appendBodyWith.2.1 33 = .ok (.invokevirtual 69, 3) := by decide +kernel
theorem d_Rw_appendBodyWith_36 : decode m_Rw_appendBodyWith.2.1 36 = .ok (.istore 7, 2) := by decide +kernel
theorem d_Rw_appendBodyWith_38 : decode m_Rw_appendBodyWith.2.1 38 = .ok (.aload_n 0, 1) := by decide +kernel
theorem d_Rw_appendBodyWith_39 : decode m_Rw_appendBodyWith.2.1 39 = .ok (.getfield 38, 3) := by decide +kernel
theorem d_Rw_appendBodyWith_42 : decode m_Rw_appendBodyWith.2.1 42 = .ok (.iload 7, 2) := by decide +kernel
theorem d_Rw_appendBodyWith_44 : decode m_Rw_appendBodyWith.2.1 44 = .ok (.invokevirtual 107, 3) := by decide +kernel
theorem d_Rw_appendBodyWith_47 : decode m_Rw_appendBodyWith.2.1 47 = .ok (.istore 8, 2) := by decide +kernel
theorem d_Rw_appendBodyWith_49 : decode m_Rw_appendBodyWith.2.1 49 = .ok (.iload 7, 2) := by decide +kernel
theorem d_Rw_appendBodyWith_51 : decode m_Rw_appendBodyWith.2.1 51 = .ok (.bipush 100, 2) := by decide +kernel
theorem d_Rw_appendBodyWith_53 : decode m_Rw_appendBodyWith.2.1 53 = .ok (.iload 8, 2) := by decide +kernel
theorem d_Rw_appendBodyWith_55 : decode m_Rw_appendBodyWith.2.1 55 = .ok (.iadd, 1) := by decide +kernel
theorem d_Rw_appendBodyWith_56 : decode m_Rw_appendBodyWith.2.1 56 = .ok (.if_icmp .ne 16, 3) := by decide +kernel
theorem d_Rw_appendBodyWith_59 : decode m_Rw_appendBodyWith.2.1 59 = .ok (.aload_n 0, 1) := by decide +kernel
theorem d_Rw_appendBodyWith_60 : decode m_Rw_appendBodyWith.2.1 60 = .ok (.aload_n 1, 1) := by decide +kernel
theorem d_Rw_appendBodyWith_61 : decode m_Rw_appendBodyWith.2.1 61 = .ok (.iload_n 2, 1) := by decide +kernel
theorem d_Rw_appendBodyWith_62 : decode m_Rw_appendBodyWith.2.1 62 = .ok (.iload 8, 2) := by decide +kernel
theorem d_Rw_appendBodyWith_64 : decode m_Rw_appendBodyWith.2.1 64 = .ok (.aload 5, 2) := by decide +kernel
theorem d_Rw_appendBodyWith_66 : decode m_Rw_appendBodyWith.2.1 66 = .ok (.invokevirtual 110, 3) := by decide +kernel
theorem d_Rw_appendBodyWith_69 : decode m_Rw_appendBodyWith.2.1 69 = .ok (.goto 27, 3) := by decide +kernel
theorem d_Rw_appendBodyWith_72 : decode m_Rw_appendBodyWith.2.1 72 = .ok (.aload 5, 2) := by decide +kernel
theorem d_Rw_appendBodyWith_74 : decode m_Rw_appendBodyWith.2.1 74 = .ok (.iload 7, 2) := by decide +kernel
theorem d_Rw_appendBodyWith_76 : decode m_Rw_appendBodyWith.2.1 76 = .ok (.bipush 100, 2) := by decide +kernel
theorem d_Rw_appendBodyWith_78 : decode m_Rw_appendBodyWith.2.1 78 = .ok (.iload 8, 2) := by decide +kernel
theorem d_Rw_appendBodyWith_80 : decode m_Rw_appendBodyWith.2.1 80 = .ok (.iadd, 1) := by decide +kernel
theorem d_Rw_appendBodyWith_81 : decode m_Rw_appendBodyWith.2.1 81 = .ok (.if_icmp .le 10, 3) := by decide +kernel
theorem d_Rw_appendBodyWith_84 : decode m_Rw_appendBodyWith.2.1 84 = .ok (.iload 7, 2) := by decide +kernel
theorem d_Rw_appendBodyWith_86 : decode m_Rw_appendBodyWith.2.1 86 = .ok (.iconst 1, 1) := by decide +kernel
theorem d_Rw_appendBodyWith_87 : decode m_Rw_appendBodyWith.2.1 87 = .ok (.isub, 1) := by decide +kernel
theorem d_Rw_appendBodyWith_88 : decode m_Rw_appendBodyWith.2.1 88 = .ok (.goto 5, 3) := by decide +kernel
theorem d_Rw_appendBodyWith_91 : decode m_Rw_appendBodyWith.2.1 91 = .ok (.iload 7, 2) := by decide +kernel
theorem d_Rw_appendBodyWith_93 : decode m_Rw_appendBodyWith.2.1 93 = .ok (.invokevirtual 114, 3) := by decide +kernel
theorem d_Rw_appendBodyWith_96 : decode m_Rw_appendBodyWith.2.1 96 = .ok (.iinc 6 1, 3) := by decide +kernel
theorem d_Rw_appendBodyWith_99 : decode m_Rw_appendBodyWith.2.1 99 = .ok (.goto (-88), 3) := by decide +kernel
theorem d_Rw_appendBodyWith_102 : decode m_Rw_appendBodyWith.2.1 102 = .ok (.return_, 1) := by decide +kernel
theorem d_Rw_appendLifted_0 : decode m_Rw_appendLifted.2.1 0 = .ok (.aload_n 0, 1) := by decide +kernel
theorem d_Rw_appendLifted_1 : decode m_Rw_appendLifted.2.1 1 = .ok (.getfield 42, 3) := by decide +kernel
theorem d_Rw_appendLifted_4 : decode m_Rw_appendLifted.2.1 4 = .ok (.invokevirtual 101, 3) := by decide +kernel
theorem d_Rw_appendLifted_7 : decode m_Rw_appendLifted.2.1 7 = .ok (.iload_n 2, 1) := by decide +kernel
theorem d_Rw_appendLifted_8 : decode m_Rw_appendLifted.2.1 8 = .ok (.istore 5, 2) := by decide +kernel
theorem d_Rw_appendLifted_10 : decode m_Rw_appendLifted.2.1 10 = .ok (.iload 5, 2) := by decide +kernel
theorem d_Rw_appendLifted_12 : decode m_Rw_appendLifted.2.1 12 = .ok (.aload_n 1, 1) := by decide +kernel
theorem d_Rw_appendLifted_13 : decode m_Rw_appendLifted.2.1 13 = .ok (.getfield 66, 3) := by decide +kernel
theorem d_Rw_appendLifted_16 : decode m_Rw_appendLifted.2.1 16 = .ok (.if_icmp .ge 62, 3) := by decide +kernel
theorem d_Rw_appendLifted_19 : decode m_Rw_appendLifted.2.1 19 = .ok (.aload_n 0, 1) := by decide +kernel
theorem d_Rw_appendLifted_20 : decode m_Rw_appendLifted.2.1 20 = .ok (.getfield 42, 3) := by decide +kernel
theorem d_Rw_appendLifted_23 : decode m_Rw_appendLifted.2.1 23 = .ok (.invokevirtual 104, 3) := by decide +kernel
theorem d_Rw_appendLifted_26 : decode m_Rw_appendLifted.2.1 26 = .ok (.ifCond .eq 52, 3) := by decide +kernel
theorem d_Rw_appendLifted_29 : decode m_Rw_appendLifted.2.1 29 = .ok (.aload_n 1, 1) := by decide +kernel
theorem d_Rw_appendLifted_30 : decode m_Rw_appendLifted.2.1 30 = .ok (.iload 5, 2) := by decide +kernel
theorem d_Rw_appendLifted_32 : decode m_Rw_appendLifted.2.1 32 = .ok (.invokevirtual 69, 3) := by decide +kernel
theorem d_Rw_appendLifted_35 : decode m_Rw_appendLifted.2.1 35 = .ok (.istore 6, 2) := by decide +kernel
theorem d_Rw_appendLifted_37 : decode m_Rw_appendLifted.2.1 37 = .ok (.aload_n 0, 1) := by decide +kernel
theorem d_Rw_appendLifted_38 : decode m_Rw_appendLifted.2.1 38 = .ok (.getfield 42, 3) := by decide +kernel
theorem d_Rw_appendLifted_41 : decode m_Rw_appendLifted.2.1 41 = .ok (.iload 6, 2) := by decide +kernel
theorem d_Rw_appendLifted_43 : decode m_Rw_appendLifted.2.1 43 = .ok (.invokevirtual 107, 3) := by decide +kernel
theorem d_Rw_appendLifted_46 : decode m_Rw_appendLifted.2.1 46 = .ok (.istore 7, 2) := by decide +kernel
theorem d_Rw_appendLifted_48 : decode m_Rw_appendLifted.2.1 48 = .ok (.aload 4, 2) := by decide +kernel
theorem d_Rw_appendLifted_50 : decode m_Rw_appendLifted.2.1 50 = .ok (.iload 6, 2) := by decide +kernel
theorem d_Rw_appendLifted_52 : decode m_Rw_appendLifted.2.1 52 = .ok (.bipush 100, 2) := by decide +kernel
theorem d_Rw_appendLifted_54 : decode m_Rw_appendLifted.2.1 54 = .ok (.iload 7, 2) := by decide +kernel
theorem d_Rw_appendLifted_56 : decode m_Rw_appendLifted.2.1 56 = .ok (.iadd, 1) := by decide +kernel
theorem d_Rw_appendLifted_57 : decode m_Rw_appendLifted.2.1 57 = .ok (.if_icmp .lt 10, 3) := by decide +kernel
theorem d_Rw_appendLifted_60 : decode m_Rw_appendLifted.2.1 60 = .ok (.iload 6, 2) := by decide +kernel
theorem d_Rw_appendLifted_62 : decode m_Rw_appendLifted.2.1 62 = .ok (.iload_n 3, 1) := by decide +kernel
theorem d_Rw_appendLifted_63 : decode m_Rw_appendLifted.2.1 63 = .ok (.iadd, 1) := by decide +kernel
theorem d_Rw_appendLifted_64 : decode m_Rw_appendLifted.2.1 64 = .ok (.goto 5, 3) := by decide +kernel
theorem d_Rw_appendLifted_67 : decode m_Rw_appendLifted.2.1 67 = .ok (.iload 6, 2) := by decide +kernel
theorem d_Rw_appendLifted_69 : decode m_Rw_appendLifted.2.1 69 = .ok (.invokevirtual 114, 3) := by decide +kernel
theorem d_Rw_appendLifted_72 : decode m_Rw_appendLifted.2.1 72 = .ok (.iinc 5 1, 3) := by decide +kernel
theorem d_Rw_appendLifted_75 : decode m_Rw_appendLifted.2.1 75 = .ok (.goto (-65), 3) := by decide +kernel
theorem d_Rw_appendLifted_78 : decode m_Rw_appendLifted.2.1 78 = .ok (.return_, 1) := by decide +kernel
end
section
theorem d_TK_init_0 : decode m_TK_init.2.1 0 = .ok (.aload_n 0, 1) := by decide +kernel
theorem d_TK_init_1 : decode m_TK_init.2.1 1 = .ok (.invokespecial 1, 3) := by decide +kernel
theorem d_TK_init_4 : decode m_TK_init.2.1 4 = .ok (.aload_n 0, 1) := by decide +kernel
theorem d_TK_init_5 : decode m_TK_init.2.1 5 = .ok (.bipush 6, 2) := by decide +kernel
theorem d_TK_init_7 : decode m_TK_init.2.1 7 = .ok (.anewarray 9, 3) := by decide +kernel
theorem d_TK_init_10 : decode m_TK_init.2.1 10 = .ok (.putfield 11, 3) := by decide +kernel
theorem d_TK_init_13 : decode m_TK_init.2.1 13 = .ok (.aload_n 0, 1) := by decide +kernel
theorem d_TK_init_14 : decode m_TK_init.2.1 14 = .ok (.iconst 0, 1) := by decide +kernel
theorem d_TK_init_15 : decode m_TK_init.2.1 15 = .ok (.putfield 15, 3) := by decide +kernel
theorem d_TK_init_18 : decode m_TK_init.2.1 18 = .ok (.aload_n 0, 1) := by decide +kernel
theorem d_TK_init_19 : decode m_TK_init.2.1 19 = .ok (.iconst 4, 1) := by decide +kernel
theorem d_TK_init_20 : decode m_TK_init.2.1 20 = .ok (.anewarray 19, 3) := by decide +kernel
theorem d_TK_init_23 : decode m_TK_init.2.1 23 = .ok (.putfield 21, 3) := by decide +kernel
theorem d_TK_init_26 : decode m_TK_init.2.1 26 = .ok (.aload_n 0, 1) := by decide +kernel
theorem d_TK_init_27 : decode m_TK_init.2.1 27 = .ok (.iconst 0, 1) := by decide +kernel
theorem d_TK_init_28 : decode m_TK_init.2.1 28 = .ok (.putfield 25, 3) := by decide +kernel
theorem d_TK_init_31 : decode m_TK_init.2.1 31 = .ok (.aload_n 0, 1) := by decide +kernel
theorem d_TK_init_32 : decode m_TK_init.2.1 32 = .ok (.bipush 8, 2) := by decide +kernel
theorem d_TK_init_34 : decode m_TK_init.2.1 34 = .ok (.anewarray 19, 3) := by decide +kernel
theorem d_TK_init_37 : decode m_TK_init.2.1 37 = .ok (.putfield 28, 3) := by decide +kernel
theorem d_TK_init_40 : decode m_TK_init.2.1 40 = .ok (.aload_n 0, 1) := by decide +kernel
theorem d_TK_init_41 : decode m_TK_init.2.1 41 = .ok (.bipush 8, 2) := by decide +kernel
theorem d_TK_init_43 : decode m_TK_init.2.1 43 = .ok (.newarray .boolean, 2) := by decide +kernel
theorem d_TK_init_45 : decode m_TK_init.2.1 45 = .ok (.putfield 31, 3) := by decide +kernel
theorem d_TK_init_48 : decode m_TK_init.2.1 48 = .ok (.aload_n 0, 1) := by decide +kernel
theorem d_TK_init_49 : decode m_TK_init.2.1 49 = .ok (.iconst 0, 1) := by decide +kernel
theorem d_TK_init_50 : decode m_TK_init.2.1 50 = .ok (.putfield 35, 3) := by decide +kernel
theorem d_TK_init_53 : decode m_TK_init.2.1 53 = .ok (.aload_n 0, 1) := by decide +kernel
theorem d_TK_init_54 : decode m_TK_init.2.1 54 = .ok (.new 38, 3) := by decide +kernel
theorem d_TK_init_57 : decode m_TK_init.2.1 57 = .ok (.dup, 1) := by decide +kernel
theorem d_TK_init_58 : decode m_TK_init.2.1 58 = .ok (.invokespecial 40, 3) := by decide +kernel
theorem d_TK_init_61 : decode m_TK_init.2.1 61 = .ok (.putfield 41, 3) := by decide +kernel
theorem d_TK_init_64 : decode m_TK_init.2.1 64 = .ok (.aload_n 0, 1) := by decide +kernel
theorem d_TK_init_65 : decode m_TK_init.2.1 65 = .ok (.new 19, 3) := by decide +kernel
theorem d_TK_init_68 : decode m_TK_init.2.1 68 = .ok (.dup, 1) := by decide +kernel
theorem d_TK_init_69 : decode m_TK_init.2.1 69 = .ok (.invokespecial 45, 3) := by decide +kernel
theorem d_TK_init_72 : decode m_TK_init.2.1 72 = .ok (.putfield 46, 3) := by decide +kernel
theorem d_TK_init_75 : decode m_TK_init.2.1 75 = .ok (.aload_n 0, 1) := by decide +kernel
theorem d_TK_init_76 : decode m_TK_init.2.1 76 = .ok (.new 19, 3) := by decide +kernel
theorem d_TK_init_79 : decode m_TK_init.2.1 79 = .ok (.dup, 1) := by decide +kernel
theorem d_TK_init_80 : decode m_TK_init.2.1 80 = .ok (.invokespecial 45, 3) := by decide +kernel
theorem d_TK_init_83 : decode m_TK_init.2.1 83 = .ok (.putfield 50, 3) := by decide +kernel
theorem d_TK_init_86 : decode m_TK_init.2.1 86 = .ok (.aload_n 0, 1) := by decide +kernel
theorem d_TK_init_87 : decode m_TK_init.2.1 87 = .ok (.new 19, 3) := by decide +kernel
theorem d_TK_init_90 : decode m_TK_init.2.1 90 = .ok (.dup, 1) := by decide +kernel
theorem d_TK_init_91 : decode m_TK_init.2.1 91 = .ok (.invokespecial 45, 3) := by decide +kernel
theorem d_TK_init_94 : decode m_TK_init.2.1 94 = .ok (.putfield 53, 3) := by decide +kernel
theorem d_TK_init_97 : decode m_TK_init.2.1 97 = .ok (.aload_n 0, 1) := by decide +kernel
theorem d_TK_init_98 : decode m_TK_init.2.1 98 = .ok (.new 19, 3) := by decide +kernel
theorem d_TK_init_101 : decode m_TK_init.2.1 101 = .ok (.dup, 1) := by decide +kernel
theorem d_TK_init_102 : decode m_TK_init.2.1 102 = .ok (.invokespecial 45, 3) := by decide +kernel
theorem d_TK_init_105 : decode m_TK_init.2.1 105 = .ok (.putfield 56, 3) := by decide +kernel
theorem d_TK_init_108 : decode m_TK_init.2.1 108 = .ok (.iconst 0, 1) := by decide +kernel
theorem d_TK_init_109 : decode m_TK_init.2.1 109 = .ok (.istore_n 1, 1) := by decide +kernel
theorem d_TK_init_110 : decode m_TK_init.2.1 110 = .ok (.iload_n 1, 1) := by decide +kernel
theorem d_TK_init_111 : decode m_TK_init.2.1 111 = .ok (.bipush 6, 2) := by decide +kernel
theorem d_TK_init_113 : decode m_TK_init.2.1 113 = .ok (.if_icmp .ge 22, 3) := by decide +kernel
theorem d_TK_init_116 : decode m_TK_init.2.1 116 = .ok (.aload_n 0, 1) := by decide +kernel
theorem d_TK_init_117 : decode m_TK_init.2.1 117 = .ok (.getfield 11, 3) := by decide +kernel
theorem d_TK_init_120 : decode m_TK_init.2.1 120 = .ok (.iload_n 1, 1) := by decide +kernel
theorem d_TK_init_121 : decode m_TK_init.2.1 121 = .ok (.new 9, 3) := by decide +kernel
theorem d_TK_init_124 : decode m_TK_init.2.1 124 = .ok (.dup, 1) := by decide +kernel
theorem d_TK_init_125 : decode m_TK_init.2.1 125 = .ok (.invokespecial 59, 3) := by decide +kernel
theorem d_TK_init_128 : decode m_TK_init.2.1 128 = .ok (.aastore, 1) := by decide +kernel
theorem d_TK_init_129 : decode m_TK_init.2.1 129 = .ok (.iinc 1 1, 3) := by decide +kernel
theorem d_TK_init_132 : decode m_TK_init.2.1 132 = .ok (.goto (-22), 3) := by decide +kernel
theorem d_TK_init_135 : decode m_TK_init.2.1 135 = .ok (.iconst 0, 1) := by decide +kernel
theorem d_TK_init_136 : decode m_TK_init.2.1 136 = .ok (.istore_n 1, 1) := by decide +kernel
theorem d_TK_init_137 : decode m_TK_init.2.1 137 = .ok (.iload_n 1, 1) := by decide +kernel
theorem d_TK_init_138 : decode m_TK_init.2.1 138 = .ok (.iconst 4, 1) := by decide +kernel
theorem d_TK_init_139 : decode m_TK_init.2.1 139 = .ok (.if_icmp .ge 22, 3) := by decide +kernel
theorem d_TK_init_142 : decode m_TK_init.2.1 142 = .ok (.aload_n 0, 1) := by decide +kernel
theorem d_TK_init_143 : decode m_TK_init.2.1 143 = .ok (.getfield 21, 3) := by decide +kernel
theorem d_TK_init_146 : decode m_TK_init.2.1 146 = .ok (.iload_n 1, 1) := by decide +kernel
theorem d_TK_init_147 : decode m_TK_init.2.1 147 = .ok (.new 19, 3) := by decide +kernel
theorem d_TK_init_150 : decode m_TK_init.2.1 150 = .ok (.dup, 1) := by decide +kernel
theorem d_TK_init_151 : decode m_TK_init.2.1 151 = .ok (.invokespecial 45, 3) := by decide +kernel
theorem d_TK_init_154 : decode m_TK_init.2.1 154 = .ok (.aastore, 1) := by decide +kernel
theorem d_TK_init_155 : decode m_TK_init.2.1 155 = .ok (.iinc 1 1, 3) := by decide +kernel
theorem d_TK_init_158 : decode m_TK_init.2.1 158 = .ok (.goto (-21), 3) := by decide +kernel
theorem d_TK_init_161 : decode m_TK_init.2.1 161 = .ok (.iconst 0, 1) := by decide +kernel
theorem d_TK_init_162 : decode m_TK_init.2.1 162 = .ok (.istore_n 1, 1) := by decide +kernel
theorem d_TK_init_163 : decode m_TK_init.2.1 163 = .ok (.iload_n 1, 1) := by decide +kernel
theorem d_TK_init_164 : decode m_TK_init.2.1 164 = .ok (.bipush 8, 2) := by decide +kernel
theorem d_TK_init_166 : decode m_TK_init.2.1 166 = .ok (.if_icmp .ge 22, 3) := by decide +kernel
theorem d_TK_init_169 : decode m_TK_init.2.1 169 = .ok (.aload_n 0, 1) := by decide +kernel
theorem d_TK_init_170 : decode m_TK_init.2.1 170 = .ok (.getfield 28, 3) := by decide +kernel
theorem d_TK_init_173 : decode m_TK_init.2.1 173 = .ok (.iload_n 1, 1) := by decide +kernel
theorem d_TK_init_174 : decode m_TK_init.2.1 174 = .ok (.new 19, 3) := by decide +kernel
theorem d_TK_init_177 : decode m_TK_init.2.1 177 = .ok (.dup, 1) := by decide +kernel
theorem d_TK_init_178 : decode m_TK_init.2.1 178 = .ok (.invokespecial 45, 3) := by decide +kernel
theorem d_TK_init_181 : decode m_TK_init.2.1 181 = .ok (.aastore, 1) := by decide +kernel
theorem d_TK_init_182 : decode m_TK_init.2.1 182 = .ok (.iinc 1 1, 3) := by decide +kernel
theorem d_TK_init_185 : decode m_TK_init.2.1 185 = .ok (.goto (-22), 3) := by decide +kernel
theorem d_TK_init_188 : decode m_TK_init.2.1 188 = .ok (.return_, 1) := by decide +kernel
theorem d_TK_sort_0 : decode m_TK_sort.2.1 0 = .ok (.aload_n 0, 1) := by decide +kernel
theorem d_TK_sort_1 : decode m_TK_sort.2.1 1 = .ok (.invokevirtual 60, 3) := by decide +kernel
theorem d_TK_sort_4 : decode m_TK_sort.2.1 4 = .ok (.astore_n 1, 1) := by decide +kernel
theorem d_TK_sort_5 : decode m_TK_sort.2.1 5 = .ok (.aload_n 1, 1) := by decide +kernel
theorem d_TK_sort_6 : decode m_TK_sort.2.1 6 = .ok (.getfield 64, 3) := by decide +kernel
theorem d_TK_sort_9 : decode m_TK_sort.2.1 9 = .ok (.iconst 0, 1) := by decide +kernel
theorem d_TK_sort_10 : decode m_TK_sort.2.1 10 = .ok (.invokevirtual 67, 3) := by decide +kernel
theorem d_TK_sort_13 : decode m_TK_sort.2.1 13 = .ok (.aload_n 1, 1) := by decide +kernel
theorem d_TK_sort_14 : decode m_TK_sort.2.1 14 = .ok (.getfield 71, 3) := by decide +kernel
theorem d_TK_sort_17 : decode m_TK_sort.2.1 17 = .ok (.iconst 1, 1) := by decide +kernel
theorem d_TK_sort_18 : decode m_TK_sort.2.1 18 = .ok (.invokevirtual 67, 3) := by decide +kernel
theorem d_TK_sort_21 : decode m_TK_sort.2.1 21 = .ok (.return_, 1) := by decide +kernel
theorem d_TK_constant_0 : decode m_TK_constant.2.1 0 = .ok (.aload_n 0, 1) := by decide +kernel
theorem d_TK_constant_1 : decode m_TK_constant.2.1 1 = .ok (.iload_n 1, 1) := by decide +kernel
theorem d_TK_constant_2 : decode m_TK_constant.2.1 2 = .ok (.invokevirtual 74, 3) := by decide +kernel
theorem d_TK_constant_5 : decode m_TK_constant.2.1 5 = .ok (.ifCond .ne 11, 3) := by decide +kernel
theorem d_TK_constant_8 : decode m_TK_constant.2.1 8 = .ok (.new 78, 3) := by decide +kernel
theorem d_TK_constant_11 : decode m_TK_constant.2.1 11 = .ok (.dup, 1) := by decide +kernel
theorem d_TK_constant_12 : decode m_TK_constant.2.1 12 = .ok (.invokespecial 80, 3) := by decide +kernel
theorem d_TK_constant_15 : decode m_TK_constant.2.1 15 = .ok (.athrow, 1) := by decide +kernel
theorem d_TK_constant_16 : decode m_TK_constant.2.1 16 = .ok (.aload_n 0, 1) := by decide +kernel
theorem d_TK_constant_17 : decode m_TK_constant.2.1 17 = .ok (.invokevirtual 60, 3) := by decide +kernel
theorem d_TK_constant_20 : decode m_TK_constant.2.1 20 = .ok (.astore_n 2, 1) := by decide +kernel
theorem d_TK_constant_21 : decode m_TK_constant.2.1 21 = .ok (.aload_n 2, 1) := by decide +kernel
theorem d_TK_constant_22 : decode m_TK_constant.2.1 22 = .ok (.getfield 64, 3) := by decide +kernel
theorem d_TK_constant_25 : decode m_TK_constant.2.1 25 = .ok (.bipush 10, 2) := by decide +kernel
theorem d_TK_constant_27 : decode m_TK_constant.2.1 27 = .ok (.iload_n 1, 1) := by decide +kernel
theorem d_TK_constant_28 : decode m_TK_constant.2.1 28 = .ok (.iadd, 1) := by decide +kernel
theorem d_TK_constant_29 : decode m_TK_constant.2.1 29 = .ok (.invokevirtual 67, 3) := by decide +kernel
theorem d_TK_constant_32 : decode m_TK_constant.2.1 32 = .ok (.aload_n 2, 1) := by decide +kernel
theorem d_TK_constant_33 : decode m_TK_constant.2.1 33 = .ok (.getfield 71, 3) := by decide +kernel
theorem d_TK_constant_36 : decode m_TK_constant.2.1 36 = .ok (.aload_n 0, 1) := by decide +kernel
theorem d_TK_constant_37 : decode m_TK_constant.2.1 37 = .ok (.getfield 28, 3) := by decide +kernel
theorem d_TK_constant_40 : decode m_TK_constant.2.1 40 = .ok (.iload_n 1, 1) := by decide +kernel
theorem d_TK_constant_41 : decode m_TK_constant.2.1 41 = .ok (.aaload, 1) := by decide +kernel
theorem d_TK_constant_42 : decode m_TK_constant.2.1 42 = .ok (.invokevirtual 81, 3) := by decide +kernel
theorem d_TK_constant_45 : decode m_TK_constant.2.1 45 = .ok (.return_, 1) := by decide +kernel
theorem d_TK_variable_0 : decode m_TK_variable.2.1 0 = .ok (.aload_n 0, 1) := by decide +kernel
theorem d_TK_variable_1 : decode m_TK_variable.2.1 1 = .ok (.iload_n 1, 1) := by decide +kernel
theorem d_TK_variable_2 : decode m_TK_variable.2.1 2 = .ok (.invokevirtual 85, 3) := by decide +kernel
theorem d_TK_variable_5 : decode m_TK_variable.2.1 5 = .ok (.ifCond .ne 11, 3) := by decide +kernel
theorem d_TK_variable_8 : decode m_TK_variable.2.1 8 = .ok (.new 78, 3) := by decide +kernel
theorem d_TK_variable_11 : decode m_TK_variable.2.1 11 = .ok (.dup, 1) := by decide +kernel
theorem d_TK_variable_12 : decode m_TK_variable.2.1 12 = .ok (.invokespecial 80, 3) := by decide +kernel
theorem d_TK_variable_15 : decode m_TK_variable.2.1 15 = .ok (.athrow, 1) := by decide +kernel
theorem d_TK_variable_16 : decode m_TK_variable.2.1 16 = .ok (.aload_n 0, 1) := by decide +kernel
theorem d_TK_variable_17 : decode m_TK_variable.2.1 17 = .ok (.invokevirtual 60, 3) := by decide +kernel
theorem d_TK_variable_20 : decode m_TK_variable.2.1 20 = .ok (.astore_n 2, 1) := by decide +kernel
theorem d_TK_variable_21 : decode m_TK_variable.2.1 21 = .ok (.aload_n 2, 1) := by decide +kernel
theorem d_TK_variable_22 : decode m_TK_variable.2.1 22 = .ok (.getfield 64, 3) := by decide +kernel
theorem d_TK_variable_25 : decode m_TK_variable.2.1 25 = .ok (.bipush 100, 2) := by decide +kernel
theorem d_TK_variable_27 : decode m_TK_variable.2.1 27 = .ok (.iload_n 1, 1) := by decide +kernel
theorem d_TK_variable_28 : decode m_TK_variable.2.1 28 = .ok (.iadd, 1) := by decide +kernel
theorem d_TK_variable_29 : decode m_TK_variable.2.1 29 = .ok (.invokevirtual 67, 3) := by decide +kernel
theorem d_TK_variable_32 : decode m_TK_variable.2.1 32 = .ok (.aload_n 2, 1) := by decide +kernel
theorem d_TK_variable_33 : decode m_TK_variable.2.1 33 = .ok (.getfield 71, 3) := by decide +kernel
theorem d_TK_variable_36 : decode m_TK_variable.2.1 36 = .ok (.invokevirtual 88, 3) := by decide +kernel
theorem d_TK_variable_39 : decode m_TK_variable.2.1 39 = .ok (.aload_n 0, 1) := by decide +kernel
theorem d_TK_variable_40 : decode m_TK_variable.2.1 40 = .ok (.getfield 41, 3) := by decide +kernel
theorem d_TK_variable_43 : decode m_TK_variable.2.1 43 = .ok (.aload_n 0, 1) := by decide +kernel
theorem d_TK_variable_44 : decode m_TK_variable.2.1 44 = .ok (.iload_n 1, 1) := by decide +kernel
theorem d_TK_variable_45 : decode m_TK_variable.2.1 45 = .ok (.invokevirtual 91, 3) := by decide +kernel
theorem d_TK_variable_48 : decode m_TK_variable.2.1 48 = .ok (.iconst 0, 1) := by decide +kernel
theorem d_TK_variable_49 : decode m_TK_variable.2.1 49 = .ok (.iload_n 1, 1) := by decide +kernel
theorem d_TK_variable_50 : decode m_TK_variable.2.1 50 = .ok (.iconst 1, 1) := by decide +kernel
theorem d_TK_variable_51 : decode m_TK_variable.2.1 51 = .ok (.iadd, 1) := by decide +kernel
theorem d_TK_variable_52 : decode m_TK_variable.2.1 52 = .ok (.aload_n 2, 1) := by decide +kernel
theorem d_TK_variable_53 : decode m_TK_variable.2.1 53 = .ok (.getfield 71, 3) := by decide +kernel
theorem d_TK_variable_56 : decode m_TK_variable.2.1 56 = .ok (.invokevirtual 95, 3) := by decide +kernel
theorem d_TK_variable_59 : decode m_TK_variable.2.1 59 = .ok (.return_, 1) := by decide +kernel
theorem d_TK_apply_0 : decode m_TK_apply.2.1 0 = .ok (.aload_n 0, 1) := by decide +kernel
theorem d_TK_apply_1 : decode m_TK_apply.2.1 1 = .ok (.iconst 0, 1) := by decide +kernel
theorem d_TK_apply_2 : decode m_TK_apply.2.1 2 = .ok (.invokevirtual 99, 3) := by decide +kernel
theorem d_TK_apply_5 : decode m_TK_apply.2.1 5 = .ok (.astore_n 1, 1) := by decide +kernel
theorem d_TK_apply_6 : decode m_TK_apply.2.1 6 = .ok (.aload_n 0, 1) := by decide +kernel
theorem d_TK_apply_7 : decode m_TK_apply.2.1 7 = .ok (.iconst 1, 1) := by decide +kernel
theorem d_TK_apply_8 : decode m_TK_apply.2.1 8 = .ok (.invokevirtual 99, 3) := by decide +kernel
theorem d_TK_apply_11 : decode m_TK_apply.2.1 11 = .ok (.astore_n 2, 1) := by decide +kernel
theorem d_TK_apply_12 : decode m_TK_apply.2.1 12 = .ok (.aload_n 0, 1) := by decide +kernel
theorem d_TK_apply_13 : decode m_TK_apply.2.1 13 = .ok (.getfield 41, 3) := by decide +kernel
theorem d_TK_apply_16 : decode m_TK_apply.2.1 16 = .ok (.aload_n 2, 1) := by decide +kernel
theorem d_TK_apply_17 : decode m_TK_apply.2.1 17 = .ok (.getfield 71, 3) := by decide +kernel
theorem d_TK_apply_20 : decode m_TK_apply.2.1 20 = .ok (.aload_n 0, 1) := by decide +kernel
theorem d_TK_apply_21 : decode m_TK_apply.2.1 21 = .ok (.getfield 46, 3) := by decide +kernel
theorem d_TK_apply_24 : decode m_TK_apply.2.1 24 = .ok (.invokevirtual 103, 3) := by decide +kernel
theorem d_TK_apply_27 : decode m_TK_apply.2.1 27 = .ok (.pop, 1) := by decide +kernel
theorem d_TK_apply_28 : decode m_TK_apply.2.1 28 = .ok (.aload_n 0, 1) := by decide +kernel
theorem d_TK_apply_29 : decode m_TK_apply.2.1 29 = .ok (.getfield 46, 3) := by decide +kernel
theorem d_TK_apply_32 : decode m_TK_apply.2.1 32 = .ok (.iconst 0, 1) := by decide +kernel
theorem d_TK_apply_33 : decode m_TK_apply.2.1 33 = .ok (.invokevirtual 107, 3) := by decide +kernel
theorem d_TK_apply_36 : decode m_TK_apply.2.1 36 = .ok (.iconst 4, 1) := by decide +kernel
theorem d_TK_apply_37 : decode m_TK_apply.2.1 37 = .ok (.if_icmp .eq 11, 3) := by decide +kernel
theorem d_TK_apply_40 : decode m_TK_apply.2.1 40 = .ok (.new 111, 3) := by decide +kernel
theorem d_TK_apply_43 : decode m_TK_apply.2.1 43 = .ok (.dup, 1) := by decide +kernel
theorem d_TK_apply_44 : decode m_TK_apply.2.1 44 = .ok (.invokespecial 113, 3) := by decide +kernel
theorem d_TK_apply_47 : decode m_TK_apply.2.1 47 = .ok (.athrow, 1) := by decide +kernel
theorem d_TK_apply_48 : decode m_TK_apply.2.1 48 = .ok (.aload_n 0, 1) := by decide +kernel
theorem d_TK_apply_49 : decode m_TK_apply.2.1 49 = .ok (.getfield 41, 3) := by decide +kernel
theorem d_TK_apply_52 : decode m_TK_apply.2.1 52 = .ok (.aload_n 1, 1) := by decide +kernel
theorem d_TK_apply_53 : decode m_TK_apply.2.1 53 = .ok (.getfield 71, 3) := by decide +kernel
theorem d_TK_apply_56 : decode m_TK_apply.2.1 56 = .ok (.aload_n 0, 1) := by decide +kernel
theorem d_TK_apply_57 : decode m_TK_apply.2.1 57 = .ok (.getfield 50, 3) := by decide +kernel
theorem d_TK_apply_60 : decode m_TK_apply.2.1 60 = .ok (.invokevirtual 103, 3) := by decide +kernel
theorem d_TK_apply_63 : decode m_TK_apply.2.1 63 = .ok (.pop, 1) := by decide +kernel
theorem d_TK_apply_64 : decode m_TK_apply.2.1 64 = .ok (.aload_n 0, 1) := by decide +kernel
theorem d_TK_apply_65 : decode m_TK_apply.2.1 65 = .ok (.getfield 46, 3) := by decide +kernel
theorem d_TK_apply_68 : decode m_TK_apply.2.1 68 = .ok (.iconst 1, 1) := by decide +kernel
theorem d_TK_apply_69 : decode m_TK_apply.2.1 69 = .ok (.invokevirtual 114, 3) := by decide +kernel
theorem d_TK_apply_72 : decode m_TK_apply.2.1 72 = .ok (.istore_n 3, 1) := by decide +kernel
theorem d_TK_apply_73 : decode m_TK_apply.2.1 73 = .ok (.aload_n 0, 1) := by decide +kernel
theorem d_TK_apply_74 : decode m_TK_apply.2.1 74 = .ok (.getfield 50, 3) := by decide +kernel
theorem d_TK_apply_77 : decode m_TK_apply.2.1 77 = .ok (.aload_n 0, 1) := by decide +kernel
theorem d_TK_apply_78 : decode m_TK_apply.2.1 78 = .ok (.getfield 46, 3) := by decide +kernel
theorem d_TK_apply_81 : decode m_TK_apply.2.1 81 = .ok (.iconst 1, 1) := by decide +kernel
theorem d_TK_apply_82 : decode m_TK_apply.2.1 82 = .ok (.iload_n 3, 1) := by decide +kernel
theorem d_TK_apply_83 : decode m_TK_apply.2.1 83 = .ok (.invokevirtual 117, 3) := by decide +kernel
theorem d_TK_apply_86 : decode m_TK_apply.2.1 86 = .ok (.ifCond .ne 11, 3) := by decide +kernel
theorem d_TK_apply_89 : decode m_TK_apply.2.1 89 = .ok (.new 111, 3) := by decide +kernel
theorem d_TK_apply_92 : decode m_TK_apply.2.1 92 = .ok (.dup, 1) := by decide +kernel
theorem d_TK_apply_93 : decode m_TK_apply.2.1 93 = .ok (.invokespecial 113, 3) := by decide +kernel
theorem d_TK_apply_96 : decode m_TK_apply.2.1 96 = .ok (.athrow, 1) := by decide +kernel
theorem d_TK_apply_97 : decode m_TK_apply.2.1 97 = .ok (.aload_n 0, 1) := by decide +kernel
theorem d_TK_apply_98 : decode m_TK_apply.2.1 98 = .ok (.getfield 53, 3) := by decide +kernel
theorem d_TK_apply_101 : decode m_TK_apply.2.1 101 = .ok (.iconst 2, 1) := by decide +kernel
theorem d_TK_apply_102 : decode m_TK_apply.2.1 102 = .ok (.aload_n 2, 1) := by decide +kernel
theorem d_TK_apply_103 : decode m_TK_apply.2.1 103 = .ok (.getfield 64, 3) := by decide +kernel
theorem d_TK_apply_106 : decode m_TK_apply.2.1 106 = .ok (.aload_n 1, 1) := by decide +kernel
theorem d_TK_apply_107 : decode m_TK_apply.2.1 107 = .ok (.getfield 64, 3) := by decide +kernel
theorem d_TK_apply_110 : decode m_TK_apply.2.1 110 = .ok (.invokevirtual 121, 3) := by decide +kernel
theorem d_TK_apply_113 : decode m_TK_apply.2.1 113 = .ok (.aload_n 0, 1) := by decide +kernel
theorem d_TK_apply_114 : decode m_TK_apply.2.1 114 = .ok (.getfield 56, 3) := by decide +kernel
theorem d_TK_apply_117 : decode m_TK_apply.2.1 117 = .ok (.invokevirtual 88, 3) := by decide +kernel
theorem d_TK_apply_120 : decode m_TK_apply.2.1 120 = .ok (.aload_n 0, 1) := by decide +kernel
theorem d_TK_apply_121 : decode m_TK_apply.2.1 121 = .ok (.getfield 41, 3) := by decide +kernel
theorem d_TK_apply_124 : decode m_TK_apply.2.1 124 = .ok (.aload_n 1, 1) := by decide +kernel
theorem d_TK_apply_125 : decode m_TK_apply.2.1 125 = .ok (.getfield 64, 3) := by decide +kernel
theorem d_TK_apply_128 : decode m_TK_apply.2.1 128 = .ok (.iconst 0, 1) := by decide +kernel
theorem d_TK_apply_129 : decode m_TK_apply.2.1 129 = .ok (.aload_n 0, 1) := by decide +kernel
theorem d_TK_apply_130 : decode m_TK_apply.2.1 130 = .ok (.getfield 46, 3) := by decide +kernel
theorem d_TK_apply_133 : decode m_TK_apply.2.1 133 = .ok (.iload_n 3, 1) := by decide +kernel
theorem d_TK_apply_134 : decode m_TK_apply.2.1 134 = .ok (.aload_n 0, 1) := by decide +kernel
theorem d_TK_apply_135 : decode m_TK_apply.2.1 135 = .ok (.getfield 56, 3) := by decide +kernel
theorem d_TK_apply_138 : decode m_TK_apply.2.1 138 = .ok (.invokevirtual 125, 3) := by decide +kernel
theorem d_TK_apply_141 : decode m_TK_apply.2.1 141 = .ok (.aload_n 2, 1) := by decide +kernel
theorem d_TK_apply_142 : decode m_TK_apply.2.1 142 = .ok (.getfield 64, 3) := by decide +kernel
theorem d_TK_apply_145 : decode m_TK_apply.2.1 145 = .ok (.aload_n 0, 1) := by decide +kernel
theorem d_TK_apply_146 : decode m_TK_apply.2.1 146 = .ok (.getfield 53, 3) := by decide +kernel
theorem d_TK_apply_149 : decode m_TK_apply.2.1 149 = .ok (.invokevirtual 81, 3) := by decide +kernel
theorem d_TK_apply_152 : decode m_TK_apply.2.1 152 = .ok (.aload_n 2, 1) := by decide +kernel
theorem d_TK_apply_153 : decode m_TK_apply.2.1 153 = .ok (.getfield 71, 3) := by decide +kernel
theorem d_TK_apply_156 : decode m_TK_apply.2.1 156 = .ok (.aload_n 0, 1) := by decide +kernel
theorem d_TK_apply_157 : decode m_TK_apply.2.1 157 = .ok (.getfield 56, 3) := by decide +kernel
theorem d_TK_apply_160 : decode m_TK_apply.2.1 160 = .ok (.invokevirtual 81, 3) := by decide +kernel
theorem d_TK_apply_163 : decode m_TK_apply.2.1 163 = .ok (.aload_n 0, 1) := by decide +kernel
theorem d_TK_apply_164 : decode m_TK_apply.2.1 164 = .ok (.dup, 1) := by decide +kernel
theorem d_TK_apply_165 : decode m_TK_apply.2.1 165 = .ok (.getfield 15, 3) := by decide +kernel
theorem d_TK_apply_168 : decode m_TK_apply.2.1 168 = .ok (.iconst 1, 1) := by decide +kernel
theorem d_TK_apply_169 : decode m_TK_apply.2.1 169 = .ok (.isub, 1) := by decide +kernel
theorem d_TK_apply_170 : decode m_TK_apply.2.1 170 = .ok (.putfield 15, 3) := by decide +kernel
theorem d_TK_apply_173 : decode m_TK_apply.2.1 173 = .ok (.return_, 1) := by decide +kernel
theorem d_TK_assume_0 : decode m_TK_assume.2.1 0 = .ok (.aload_n 0, 1) := by decide +kernel
theorem d_TK_assume_1 : decode m_TK_assume.2.1 1 = .ok (.iconst 0, 1) := by decide +kernel
theorem d_TK_assume_2 : decode m_TK_assume.2.1 2 = .ok (.invokevirtual 99, 3) := by decide +kernel
theorem d_TK_assume_5 : decode m_TK_assume.2.1 5 = .ok (.astore_n 1, 1) := by decide +kernel
theorem d_TK_assume_6 : decode m_TK_assume.2.1 6 = .ok (.aload_n 0, 1) := by decide +kernel
theorem d_TK_assume_7 : decode m_TK_assume.2.1 7 = .ok (.getfield 25, 3) := by decide +kernel
theorem d_TK_assume_10 : decode m_TK_assume.2.1 10 = .ok (.iconst 4, 1) := by decide +kernel
theorem d_TK_assume_11 : decode m_TK_assume.2.1 11 = .ok (.if_icmp .ne 11, 3) := by decide +kernel
theorem d_TK_assume_14 : decode m_TK_assume.2.1 14 = .ok (.new 129, 3) := by decide +kernel
theorem d_TK_assume_17 : decode m_TK_assume.2.1 17 = .ok (.dup, 1) := by decide +kernel
theorem d_TK_assume_18 : decode m_TK_assume.2.1 18 = .ok (.invokespecial 131, 3) := by decide +kernel
theorem d_TK_assume_21 : decode m_TK_assume.2.1 21 = .ok (.athrow, 1) := by decide +kernel
theorem d_TK_assume_22 : decode m_TK_assume.2.1 22 = .ok (.aload_n 1, 1) := by decide +kernel
theorem d_TK_assume_23 : decode m_TK_assume.2.1 23 = .ok (.getfield 71, 3) := by decide +kernel
theorem d_TK_assume_26 : decode m_TK_assume.2.1 26 = .ok (.iconst 0, 1) := by decide +kernel
theorem d_TK_assume_27 : decode m_TK_assume.2.1 27 = .ok (.invokevirtual 132, 3) := by decide +kernel
theorem d_TK_assume_30 : decode m_TK_assume.2.1 30 = .ok (.ifCond .ne 11, 3) := by decide +kernel
theorem d_TK_assume_33 : decode m_TK_assume.2.1 33 = .ok (.new 111, 3) := by decide +kernel
theorem d_TK_assume_36 : decode m_TK_assume.2.1 36 = .ok (.dup, 1) := by decide +kernel
theorem d_TK_assume_37 : decode m_TK_assume.2.1 37 = .ok (.invokespecial 113, 3) := by decide +kernel
theorem d_TK_assume_40 : decode m_TK_assume.2.1 40 = .ok (.athrow, 1) := by decide +kernel
theorem d_TK_assume_41 : decode m_TK_assume.2.1 41 = .ok (.aload_n 0, 1) := by decide +kernel
theorem d_TK_assume_42 : decode m_TK_assume.2.1 42 = .ok (.getfield 21, 3) := by decide +kernel
theorem d_TK_assume_45 : decode m_TK_assume.2.1 45 = .ok (.aload_n 0, 1) := by decide +kernel
theorem d_TK_assume_46 : decode m_TK_assume.2.1 46 = .ok (.getfield 25, 3) := by decide +kernel
theorem d_TK_assume_49 : decode m_TK_assume.2.1 49 = .ok (.aaload, 1) := by decide +kernel
theorem d_TK_assume_50 : decode m_TK_assume.2.1 50 = .ok (.aload_n 1, 1) := by decide +kernel
theorem d_TK_assume_51 : decode m_TK_assume.2.1 51 = .ok (.getfield 64, 3) := by decide +kernel
theorem d_TK_assume_54 : decode m_TK_assume.2.1 54 = .ok (.invokevirtual 81, 3) := by decide +kernel
theorem d_TK_assume_57 : decode m_TK_assume.2.1 57 = .ok (.aload_n 0, 1) := by decide +kernel
theorem d_TK_assume_58 : decode m_TK_assume.2.1 58 = .ok (.dup, 1) := by decide +kernel
theorem d_TK_assume_59 : decode m_TK_assume.2.1 59 = .ok (.getfield 25, 3) := by decide +kernel
theorem d_TK_assume_62 : decode m_TK_assume.2.1 62 = .ok (.iconst 1, 1) := by decide +kernel
theorem d_TK_assume_63 : decode m_TK_assume.2.1 63 = .ok (.iadd, 1) := by decide +kernel
theorem d_TK_assume_64 : decode m_TK_assume.2.1 64 = .ok (.putfield 25, 3) := by decide +kernel
theorem d_TK_assume_67 : decode m_TK_assume.2.1 67 = .ok (.aload_n 0, 1) := by decide +kernel
theorem d_TK_assume_68 : decode m_TK_assume.2.1 68 = .ok (.dup, 1) := by decide +kernel
theorem d_TK_assume_69 : decode m_TK_assume.2.1 69 = .ok (.getfield 15, 3) := by decide +kernel
theorem d_TK_assume_72 : decode m_TK_assume.2.1 72 = .ok (.iconst 1, 1) := by decide +kernel
theorem d_TK_assume_73 : decode m_TK_assume.2.1 73 = .ok (.isub, 1) := by decide +kernel
theorem d_TK_assume_74 : decode m_TK_assume.2.1 74 = .ok (.putfield 15, 3) := by decide +kernel
theorem d_TK_assume_77 : decode m_TK_assume.2.1 77 = .ok (.return_, 1) := by decide +kernel
theorem d_TK_lambda_0 : decode m_TK_lambda.2.1 0 = .ok (.aload_n 0, 1) := by decide +kernel
theorem d_TK_lambda_1 : decode m_TK_lambda.2.1 1 = .ok (.invokevirtual 135, 3) := by decide +kernel
theorem d_TK_lambda_4 : decode m_TK_lambda.2.1 4 = .ok (.astore_n 1, 1) := by decide +kernel
theorem d_TK_lambda_5 : decode m_TK_lambda.2.1 5 = .ok (.aload_n 1, 1) := by decide +kernel
theorem d_TK_lambda_6 : decode m_TK_lambda.2.1 6 = .ok (.getfield 71, 3) := by decide +kernel
theorem d_TK_lambda_9 : decode m_TK_lambda.2.1 9 = .ok (.iconst 1, 1) := by decide +kernel
theorem d_TK_lambda_10 : decode m_TK_lambda.2.1 10 = .ok (.invokevirtual 132, 3) := by decide +kernel
theorem d_TK_lambda_13 : decode m_TK_lambda.2.1 13 = .ok (.ifCond .eq 11, 3) := by decide +kernel
theorem d_TK_lambda_16 : decode m_TK_lambda.2.1 16 = .ok (.new 111, 3) := by decide +kernel
theorem d_TK_lambda_19 : decode m_TK_lambda.2.1 19 = .ok (.dup, 1) := by decide +kernel
theorem d_TK_lambda_20 : decode m_TK_lambda.2.1 20 = .ok (.invokespecial 113, 3) := by decide +kernel
theorem d_TK_lambda_23 : decode m_TK_lambda.2.1 23 = .ok (.athrow, 1) := by decide +kernel
theorem d_TK_lambda_24 : decode m_TK_lambda.2.1 24 = .ok (.aload_n 0, 1) := by decide +kernel
theorem d_TK_lambda_25 : decode m_TK_lambda.2.1 25 = .ok (.getfield 53, 3) := by decide +kernel
theorem d_TK_lambda_28 : decode m_TK_lambda.2.1 28 = .ok (.iconst 3, 1) := by decide +kernel
theorem d_TK_lambda_29 : decode m_TK_lambda.2.1 29 = .ok (.aload_n 0, 1) := by decide +kernel
theorem d_TK_lambda_30 : decode m_TK_lambda.2.1 30 = .ok (.iconst 0, 1) := by decide +kernel
theorem d_TK_lambda_31 : decode m_TK_lambda.2.1 31 = .ok (.invokevirtual 91, 3) := by decide +kernel
theorem d_TK_lambda_34 : decode m_TK_lambda.2.1 34 = .ok (.aload_n 1, 1) := by decide +kernel
theorem d_TK_lambda_35 : decode m_TK_lambda.2.1 35 = .ok (.getfield 64, 3) := by decide +kernel
theorem d_TK_lambda_38 : decode m_TK_lambda.2.1 38 = .ok (.invokevirtual 121, 3) := by decide +kernel
theorem d_TK_lambda_41 : decode m_TK_lambda.2.1 41 = .ok (.aload_n 0, 1) := by decide +kernel
theorem d_TK_lambda_42 : decode m_TK_lambda.2.1 42 = .ok (.getfield 56, 3) := by decide +kernel
theorem d_TK_lambda_45 : decode m_TK_lambda.2.1 45 = .ok (.iconst 4, 1) := by decide +kernel
theorem d_TK_lambda_46 : decode m_TK_lambda.2.1 46 = .ok (.aload_n 0, 1) := by decide +kernel
theorem d_TK_lambda_47 : decode m_TK_lambda.2.1 47 = .ok (.iconst 0, 1) := by decide +kernel
theorem d_TK_lambda_48 : decode m_TK_lambda.2.1 48 = .ok (.invokevirtual 91, 3) := by decide +kernel
theorem d_TK_lambda_51 : decode m_TK_lambda.2.1 51 = .ok (.aload_n 1, 1) := by decide +kernel
theorem d_TK_lambda_52 : decode m_TK_lambda.2.1 52 = .ok (.getfield 71, 3) := by decide +kernel
theorem d_TK_lambda_55 : decode m_TK_lambda.2.1 55 = .ok (.invokevirtual 121, 3) := by decide +kernel
theorem d_TK_lambda_58 : decode m_TK_lambda.2.1 58 = .ok (.aload_n 0, 1) := by decide +kernel
theorem d_TK_lambda_59 : decode m_TK_lambda.2.1 59 = .ok (.aload_n 1, 1) := by decide +kernel
theorem d_TK_lambda_60 : decode m_TK_lambda.2.1 60 = .ok (.invokevirtual 138, 3) := by decide +kernel
theorem d_TK_lambda_63 : decode m_TK_lambda.2.1 63 = .ok (.return_, 1) := by decide +kernel
theorem d_TK_product_0 : decode m_TK_product.2.1 0 = .ok (.aload_n 0, 1) := by decide +kernel
theorem d_TK_product_1 : decode m_TK_product.2.1 1 = .ok (.invokevirtual 135, 3) := by decide +kernel
theorem d_TK_product_4 : decode m_TK_product.2.1 4 = .ok (.astore_n 1, 1) := by decide +kernel
theorem d_TK_product_5 : decode m_TK_product.2.1 5 = .ok (.aload_n 1, 1) := by decide +kernel
theorem d_TK_product_6 : decode m_TK_product.2.1 6 = .ok (.invokestatic 142, 3) := by decide +kernel
theorem d_TK_product_9 : decode m_TK_product.2.1 9 = .ok (.ifCond .ne 11, 3) := by decide +kernel
theorem d_TK_product_12 : decode m_TK_product.2.1 12 = .ok (.new 111, 3) := by decide +kernel
theorem d_TK_product_15 : decode m_TK_product.2.1 15 = .ok (.dup, 1) := by decide +kernel
theorem d_TK_product_16 : decode m_TK_product.2.1 16 = .ok (.invokespecial 113, 3) := by decide +kernel
theorem d_TK_product_19 : decode m_TK_product.2.1 19 = .ok (.athrow, 1) := by decide +kernel
theorem d_TK_product_20 : decode m_TK_product.2.1 20 = .ok (.aload_n 0, 1) := by decide +kernel
theorem d_TK_product_21 : decode m_TK_product.2.1 21 = .ok (.getfield 53, 3) := by decide +kernel
theorem d_TK_product_24 : decode m_TK_product.2.1 24 = .ok (.iconst 4, 1) := by decide +kernel
theorem d_TK_product_25 : decode m_TK_product.2.1 25 = .ok (.aload_n 0, 1) := by decide +kernel
theorem d_TK_product_26 : decode m_TK_product.2.1 26 = .ok (.iconst 0, 1) := by decide +kernel
theorem d_TK_product_27 : decode m_TK_product.2.1 27 = .ok (.invokevirtual 91, 3) := by decide +kernel
theorem d_TK_product_30 : decode m_TK_product.2.1 30 = .ok (.aload_n 1, 1) := by decide +kernel
theorem d_TK_product_31 : decode m_TK_product.2.1 31 = .ok (.getfield 64, 3) := by decide +kernel
theorem d_TK_product_34 : decode m_TK_product.2.1 34 = .ok (.invokevirtual 121, 3) := by decide +kernel
theorem d_TK_product_37 : decode m_TK_product.2.1 37 = .ok (.aload_n 0, 1) := by decide +kernel
theorem d_TK_product_38 : decode m_TK_product.2.1 38 = .ok (.getfield 56, 3) := by decide +kernel
theorem d_TK_product_41 : decode m_TK_product.2.1 41 = .ok (.aload_n 1, 1) := by decide +kernel
theorem d_TK_product_42 : decode m_TK_product.2.1 42 = .ok (.getfield 71, 3) := by decide +kernel
theorem d_TK_product_45 : decode m_TK_product.2.1 45 = .ok (.invokevirtual 81, 3) := by decide +kernel
theorem d_TK_product_48 : decode m_TK_product.2.1 48 = .ok (.aload_n 0, 1) := by decide +kernel
theorem d_TK_product_49 : decode m_TK_product.2.1 49 = .ok (.aload_n 1, 1) := by decide +kernel
theorem d_TK_product_50 : decode m_TK_product.2.1 50 = .ok (.invokevirtual 138, 3) := by decide +kernel
theorem d_TK_product_53 : decode m_TK_product.2.1 53 = .ok (.return_, 1) := by decide +kernel
theorem d_TK_declare_0 : decode m_TK_declare.2.1 0 = .ok (.aload_n 0, 1) := by decide +kernel
theorem d_TK_declare_1 : decode m_TK_declare.2.1 1 = .ok (.getfield 25, 3) := by decide +kernel
theorem d_TK_declare_4 : decode m_TK_declare.2.1 4 = .ok (.ifCond .le 11, 3) := by decide +kernel
theorem d_TK_declare_7 : decode m_TK_declare.2.1 7 = .ok (.new 146, 3) := by decide +kernel
theorem d_TK_declare_10 : decode m_TK_declare.2.1 10 = .ok (.dup, 1) := by decide +kernel
theorem d_TK_declare_11 : decode m_TK_declare.2.1 11 = .ok (.invokespecial 148, 3) := by decide +kernel
theorem d_TK_declare_14 : decode m_TK_declare.2.1 14 = .ok (.athrow, 1) := by decide +kernel
theorem d_TK_declare_15 : decode m_TK_declare.2.1 15 = .ok (.aload_n 0, 1) := by decide +kernel
theorem d_TK_declare_16 : decode m_TK_declare.2.1 16 = .ok (.iconst 0, 1) := by decide +kernel
theorem d_TK_declare_17 : decode m_TK_declare.2.1 17 = .ok (.invokevirtual 99, 3) := by decide +kernel
theorem d_TK_declare_20 : decode m_TK_declare.2.1 20 = .ok (.astore_n 2, 1) := by decide +kernel
theorem d_TK_declare_21 : decode m_TK_declare.2.1 21 = .ok (.aload_n 0, 1) := by decide +kernel
theorem d_TK_declare_22 : decode m_TK_declare.2.1 22 = .ok (.getfield 35, 3) := by decide +kernel
theorem d_TK_declare_25 : decode m_TK_declare.2.1 25 = .ok (.bipush 8, 2) := by decide +kernel
theorem d_TK_declare_27 : decode m_TK_declare.2.1 27 = .ok (.if_icmp .ne 11, 3) := by decide +kernel
theorem d_TK_declare_30 : decode m_TK_declare.2.1 30 = .ok (.new 129, 3) := by decide +kernel
theorem d_TK_declare_33 : decode m_TK_declare.2.1 33 = .ok (.dup, 1) := by decide +kernel
theorem d_TK_declare_34 : decode m_TK_declare.2.1 34 = .ok (.invokespecial 131, 3) := by decide +kernel
theorem d_TK_declare_37 : decode m_TK_declare.2.1 37 = .ok (.athrow, 1) := by decide +kernel
theorem d_TK_declare_38 : decode m_TK_declare.2.1 38 = .ok (.aload_n 2, 1) := by decide +kernel
theorem d_TK_declare_39 : decode m_TK_declare.2.1 39 = .ok (.invokestatic 142, 3) := by decide +kernel
theorem d_TK_declare_42 : decode m_TK_declare.2.1 42 = .ok (.ifCond .ne 11, 3) := by decide +kernel
theorem d_TK_declare_45 : decode m_TK_declare.2.1 45 = .ok (.new 111, 3) := by decide +kernel
theorem d_TK_declare_48 : decode m_TK_declare.2.1 48 = .ok (.dup, 1) := by decide +kernel
theorem d_TK_declare_49 : decode m_TK_declare.2.1 49 = .ok (.invokespecial 113, 3) := by decide +kernel
theorem d_TK_declare_52 : decode m_TK_declare.2.1 52 = .ok (.athrow, 1) := by decide +kernel
theorem d_TK_declare_53 : decode m_TK_declare.2.1 53 = .ok (.aload_n 0, 1) := by decide +kernel
theorem d_TK_declare_54 : decode m_TK_declare.2.1 54 = .ok (.getfield 28, 3) := by decide +kernel
theorem d_TK_declare_57 : decode m_TK_declare.2.1 57 = .ok (.aload_n 0, 1) := by decide +kernel
theorem d_TK_declare_58 : decode m_TK_declare.2.1 58 = .ok (.getfield 35, 3) := by decide +kernel
theorem d_TK_declare_61 : decode m_TK_declare.2.1 61 = .ok (.aaload, 1) := by decide +kernel
theorem d_TK_declare_62 : decode m_TK_declare.2.1 62 = .ok (.aload_n 2, 1) := by decide +kernel
theorem d_TK_declare_63 : decode m_TK_declare.2.1 63 = .ok (.getfield 64, 3) := by decide +kernel
theorem d_TK_declare_66 : decode m_TK_declare.2.1 66 = .ok (.invokevirtual 81, 3) := by decide +kernel
theorem d_TK_declare_69 : decode m_TK_declare.2.1 69 = .ok (.aload_n 0, 1) := by decide +kernel
theorem d_TK_declare_70 : decode m_TK_declare.2.1 70 = .ok (.getfield 31, 3) := by decide +kernel
theorem d_TK_declare_73 : decode m_TK_declare.2.1 73 = .ok (.aload_n 0, 1) := by decide +kernel
theorem d_TK_declare_74 : decode m_TK_declare.2.1 74 = .ok (.getfield 35, 3) := by decide +kernel
theorem d_TK_declare_77 : decode m_TK_declare.2.1 77 = .ok (.iload_n 1, 1) := by decide +kernel
theorem d_TK_declare_78 : decode m_TK_declare.2.1 78 = .ok (.bastore, 1) := by decide +kernel
theorem d_TK_declare_79 : decode m_TK_declare.2.1 79 = .ok (.aload_n 0, 1) := by decide +kernel
theorem d_TK_declare_80 : decode m_TK_declare.2.1 80 = .ok (.dup, 1) := by decide +kernel
theorem d_TK_declare_81 : decode m_TK_declare.2.1 81 = .ok (.getfield 35, 3) := by decide +kernel
theorem d_TK_declare_84 : decode m_TK_declare.2.1 84 = .ok (.iconst 1, 1) := by decide +kernel
theorem d_TK_declare_85 : decode m_TK_declare.2.1 85 = .ok (.iadd, 1) := by decide +kernel
theorem d_TK_declare_86 : decode m_TK_declare.2.1 86 = .ok (.putfield 35, 3) := by decide +kernel
theorem d_TK_declare_89 : decode m_TK_declare.2.1 89 = .ok (.aload_n 0, 1) := by decide +kernel
theorem d_TK_declare_90 : decode m_TK_declare.2.1 90 = .ok (.dup, 1) := by decide +kernel
theorem d_TK_declare_91 : decode m_TK_declare.2.1 91 = .ok (.getfield 15, 3) := by decide +kernel
theorem d_TK_declare_94 : decode m_TK_declare.2.1 94 = .ok (.iconst 1, 1) := by decide +kernel
theorem d_TK_declare_95 : decode m_TK_declare.2.1 95 = .ok (.isub, 1) := by decide +kernel
theorem d_TK_declare_96 : decode m_TK_declare.2.1 96 = .ok (.putfield 15, 3) := by decide +kernel
theorem d_TK_declare_99 : decode m_TK_declare.2.1 99 = .ok (.aload_n 0, 1) := by decide +kernel
theorem d_TK_declare_100 : decode m_TK_declare.2.1 100 = .ok (.getfield 35, 3) := by decide +kernel
theorem d_TK_declare_103 : decode m_TK_declare.2.1 103 = .ok (.iconst 1, 1) := by decide +kernel
theorem d_TK_declare_104 : decode m_TK_declare.2.1 104 = .ok (.isub, 1) := by decide +kernel
theorem d_TK_declare_105 : decode m_TK_declare.2.1 105 = .ok (.ireturn, 1) := by decide +kernel
theorem d_TK_rule_0 : decode m_TK_rule.2.1 0 = .ok (.aload_n 0, 1) := by decide +kernel
theorem d_TK_rule_1 : decode m_TK_rule.2.1 1 = .ok (.iconst 0, 1) := by decide +kernel
theorem d_TK_rule_2 : decode m_TK_rule.2.1 2 = .ok (.invokevirtual 99, 3) := by decide +kernel
theorem d_TK_rule_5 : decode m_TK_rule.2.1 5 = .ok (.astore_n 1, 1) := by decide +kernel
theorem d_TK_rule_6 : decode m_TK_rule.2.1 6 = .ok (.aload_n 0, 1) := by decide +kernel
theorem d_TK_rule_7 : decode m_TK_rule.2.1 7 = .ok (.iconst 1, 1) := by decide +kernel
theorem d_TK_rule_8 : decode m_TK_rule.2.1 8 = .ok (.invokevirtual 99, 3) := by decide +kernel
theorem d_TK_rule_11 : decode m_TK_rule.2.1 11 = .ok (.astore_n 2, 1) := by decide +kernel
theorem d_TK_rule_12 : decode m_TK_rule.2.1 12 = .ok (.aload_n 0, 1) := by decide +kernel
theorem d_TK_rule_13 : decode m_TK_rule.2.1 13 = .ok (.getfield 15, 3) := by decide +kernel
theorem d_TK_rule_16 : decode m_TK_rule.2.1 16 = .ok (.iconst 2, 1) := by decide +kernel
theorem d_TK_rule_17 : decode m_TK_rule.2.1 17 = .ok (.if_icmp .le 11, 3) := by decide +kernel
theorem d_TK_rule_20 : decode m_TK_rule.2.1 20 = .ok (.new 146, 3) := by decide +kernel
theorem d_TK_rule_23 : decode m_TK_rule.2.1 23 = .ok (.dup, 1) := by decide +kernel
theorem d_TK_rule_24 : decode m_TK_rule.2.1 24 = .ok (.invokespecial 148, 3) := by decide +kernel
theorem d_TK_rule_27 : decode m_TK_rule.2.1 27 = .ok (.athrow, 1) := by decide +kernel
theorem d_TK_rule_28 : decode m_TK_rule.2.1 28 = .ok (.aload_n 0, 1) := by decide +kernel
theorem d_TK_rule_29 : decode m_TK_rule.2.1 29 = .ok (.getfield 41, 3) := by decide +kernel
theorem d_TK_rule_32 : decode m_TK_rule.2.1 32 = .ok (.getfield 149, 3) := by decide +kernel
theorem d_TK_rule_35 : decode m_TK_rule.2.1 35 = .ok (.bipush 8, 2) := by decide +kernel
theorem d_TK_rule_37 : decode m_TK_rule.2.1 37 = .ok (.if_icmp .ne 11, 3) := by decide +kernel
theorem d_TK_rule_40 : decode m_TK_rule.2.1 40 = .ok (.new 129, 3) := by decide +kernel
theorem d_TK_rule_43 : decode m_TK_rule.2.1 43 = .ok (.dup, 1) := by decide +kernel
theorem d_TK_rule_44 : decode m_TK_rule.2.1 44 = .ok (.invokespecial 131, 3) := by decide +kernel
theorem d_TK_rule_47 : decode m_TK_rule.2.1 47 = .ok (.athrow, 1) := by decide +kernel
theorem d_TK_rule_48 : decode m_TK_rule.2.1 48 = .ok (.aload_n 0, 1) := by decide +kernel
theorem d_TK_rule_49 : decode m_TK_rule.2.1 49 = .ok (.aload_n 2, 1) := by decide +kernel
theorem d_TK_rule_50 : decode m_TK_rule.2.1 50 = .ok (.getfield 64, 3) := by decide +kernel
theorem d_TK_rule_53 : decode m_TK_rule.2.1 53 = .ok (.invokevirtual 152, 3) := by decide +kernel
theorem d_TK_rule_56 : decode m_TK_rule.2.1 56 = .ok (.ifCond .ne 11, 3) := by decide +kernel
theorem d_TK_rule_59 : decode m_TK_rule.2.1 59 = .ok (.new 111, 3) := by decide +kernel
theorem d_TK_rule_62 : decode m_TK_rule.2.1 62 = .ok (.dup, 1) := by decide +kernel
theorem d_TK_rule_63 : decode m_TK_rule.2.1 63 = .ok (.invokespecial 113, 3) := by decide +kernel
theorem d_TK_rule_66 : decode m_TK_rule.2.1 66 = .ok (.athrow, 1) := by decide +kernel
theorem d_TK_rule_67 : decode m_TK_rule.2.1 67 = .ok (.aload_n 0, 1) := by decide +kernel
theorem d_TK_rule_68 : decode m_TK_rule.2.1 68 = .ok (.getfield 41, 3) := by decide +kernel
theorem d_TK_rule_71 : decode m_TK_rule.2.1 71 = .ok (.aload_n 2, 1) := by decide +kernel
theorem d_TK_rule_72 : decode m_TK_rule.2.1 72 = .ok (.getfield 71, 3) := by decide +kernel
theorem d_TK_rule_75 : decode m_TK_rule.2.1 75 = .ok (.aload_n 0, 1) := by decide +kernel
theorem d_TK_rule_76 : decode m_TK_rule.2.1 76 = .ok (.getfield 46, 3) := by decide +kernel
theorem d_TK_rule_79 : decode m_TK_rule.2.1 79 = .ok (.invokevirtual 103, 3) := by decide +kernel
theorem d_TK_rule_82 : decode m_TK_rule.2.1 82 = .ok (.pop, 1) := by decide +kernel
theorem d_TK_rule_83 : decode m_TK_rule.2.1 83 = .ok (.aload_n 0, 1) := by decide +kernel
theorem d_TK_rule_84 : decode m_TK_rule.2.1 84 = .ok (.getfield 41, 3) := by decide +kernel
theorem d_TK_rule_87 : decode m_TK_rule.2.1 87 = .ok (.aload_n 1, 1) := by decide +kernel
theorem d_TK_rule_88 : decode m_TK_rule.2.1 88 = .ok (.getfield 71, 3) := by decide +kernel
theorem d_TK_rule_91 : decode m_TK_rule.2.1 91 = .ok (.aload_n 0, 1) := by decide +kernel
theorem d_TK_rule_92 : decode m_TK_rule.2.1 92 = .ok (.getfield 50, 3) := by decide +kernel
theorem d_TK_rule_95 : decode m_TK_rule.2.1 95 = .ok (.invokevirtual 103, 3) := by decide +kernel
theorem d_TK_rule_98 : decode m_TK_rule.2.1 98 = .ok (.pop, 1) := by decide +kernel
theorem d_TK_rule_99 : decode m_TK_rule.2.1 99 = .ok (.aload_n 0, 1) := by decide +kernel
theorem d_TK_rule_100 : decode m_TK_rule.2.1 100 = .ok (.getfield 50, 3) := by decide +kernel
theorem d_TK_rule_103 : decode m_TK_rule.2.1 103 = .ok (.aload_n 0, 1) := by decide +kernel
theorem d_TK_rule_104 : decode m_TK_rule.2.1 104 = .ok (.getfield 46, 3) := by decide +kernel
theorem d_TK_rule_107 : decode m_TK_rule.2.1 107 = .ok (.invokevirtual 156, 3) := by decide +kernel
theorem d_TK_rule_110 : decode m_TK_rule.2.1 110 = .ok (.ifCond .ne 11, 3) := by decide +kernel
theorem d_TK_rule_113 : decode m_TK_rule.2.1 113 = .ok (.new 111, 3) := by decide +kernel
theorem d_TK_rule_116 : decode m_TK_rule.2.1 116 = .ok (.dup, 1) := by decide +kernel
theorem d_TK_rule_117 : decode m_TK_rule.2.1 117 = .ok (.invokespecial 113, 3) := by decide +kernel
theorem d_TK_rule_120 : decode m_TK_rule.2.1 120 = .ok (.athrow, 1) := by decide +kernel
theorem d_TK_rule_121 : decode m_TK_rule.2.1 121 = .ok (.aload_n 0, 1) := by decide +kernel
theorem d_TK_rule_122 : decode m_TK_rule.2.1 122 = .ok (.getfield 41, 3) := by decide +kernel
theorem d_TK_rule_125 : decode m_TK_rule.2.1 125 = .ok (.aload_n 2, 1) := by decide +kernel
theorem d_TK_rule_126 : decode m_TK_rule.2.1 126 = .ok (.getfield 64, 3) := by decide +kernel
theorem d_TK_rule_129 : decode m_TK_rule.2.1 129 = .ok (.aload_n 1, 1) := by decide +kernel
theorem d_TK_rule_130 : decode m_TK_rule.2.1 130 = .ok (.getfield 64, 3) := by decide +kernel
theorem d_TK_rule_133 : decode m_TK_rule.2.1 133 = .ok (.aload_n 0, 1) := by decide +kernel
theorem d_TK_rule_134 : decode m_TK_rule.2.1 134 = .ok (.getfield 25, 3) := by decide +kernel
theorem d_TK_rule_137 : decode m_TK_rule.2.1 137 = .ok (.invokevirtual 159, 3) := by decide +kernel
theorem d_TK_rule_140 : decode m_TK_rule.2.1 140 = .ok (.aload_n 0, 1) := by decide +kernel
theorem d_TK_rule_141 : decode m_TK_rule.2.1 141 = .ok (.iconst 0, 1) := by decide +kernel
theorem d_TK_rule_142 : decode m_TK_rule.2.1 142 = .ok (.putfield 15, 3) := by decide +kernel
theorem d_TK_rule_145 : decode m_TK_rule.2.1 145 = .ok (.aload_n 0, 1) := by decide +kernel
theorem d_TK_rule_146 : decode m_TK_rule.2.1 146 = .ok (.iconst 0, 1) := by decide +kernel
theorem d_TK_rule_147 : decode m_TK_rule.2.1 147 = .ok (.putfield 25, 3) := by decide +kernel
theorem d_TK_rule_150 : decode m_TK_rule.2.1 150 = .ok (.aload_n 0, 1) := by decide +kernel
theorem d_TK_rule_151 : decode m_TK_rule.2.1 151 = .ok (.getfield 41, 3) := by decide +kernel
theorem d_TK_rule_154 : decode m_TK_rule.2.1 154 = .ok (.getfield 149, 3) := by decide +kernel
theorem d_TK_rule_157 : decode m_TK_rule.2.1 157 = .ok (.iconst 1, 1) := by decide +kernel
theorem d_TK_rule_158 : decode m_TK_rule.2.1 158 = .ok (.isub, 1) := by decide +kernel
theorem d_TK_rule_159 : decode m_TK_rule.2.1 159 = .ok (.ireturn, 1) := by decide +kernel
theorem d_TK_normal_0 : decode m_TK_normal.2.1 0 = .ok (.aload_n 0, 1) := by decide +kernel
theorem d_TK_normal_1 : decode m_TK_normal.2.1 1 = .ok (.iconst 0, 1) := by decide +kernel
theorem d_TK_normal_2 : decode m_TK_normal.2.1 2 = .ok (.invokevirtual 163, 3) := by decide +kernel
theorem d_TK_normal_5 : decode m_TK_normal.2.1 5 = .ok (.astore_n 1, 1) := by decide +kernel
theorem d_TK_normal_6 : decode m_TK_normal.2.1 6 = .ok (.aload_n 0, 1) := by decide +kernel
theorem d_TK_normal_7 : decode m_TK_normal.2.1 7 = .ok (.getfield 41, 3) := by decide +kernel
theorem d_TK_normal_10 : decode m_TK_normal.2.1 10 = .ok (.aload_n 1, 1) := by decide +kernel
theorem d_TK_normal_11 : decode m_TK_normal.2.1 11 = .ok (.getfield 64, 3) := by decide +kernel
theorem d_TK_normal_14 : decode m_TK_normal.2.1 14 = .ok (.aload_n 0, 1) := by decide +kernel
theorem d_TK_normal_15 : decode m_TK_normal.2.1 15 = .ok (.getfield 53, 3) := by decide +kernel
theorem d_TK_normal_18 : decode m_TK_normal.2.1 18 = .ok (.invokevirtual 103, 3) := by decide +kernel
theorem d_TK_normal_21 : decode m_TK_normal.2.1 21 = .ok (.istore_n 2, 1) := by decide +kernel
theorem d_TK_normal_22 : decode m_TK_normal.2.1 22 = .ok (.aload_n 1, 1) := by decide +kernel
theorem d_TK_normal_23 : decode m_TK_normal.2.1 23 = .ok (.getfield 64, 3) := by decide +kernel
theorem d_TK_normal_26 : decode m_TK_normal.2.1 26 = .ok (.aload_n 0, 1) := by decide +kernel
theorem d_TK_normal_27 : decode m_TK_normal.2.1 27 = .ok (.getfield 53, 3) := by decide +kernel
theorem d_TK_normal_30 : decode m_TK_normal.2.1 30 = .ok (.invokevirtual 81, 3) := by decide +kernel
theorem d_TK_normal_33 : decode m_TK_normal.2.1 33 = .ok (.iload_n 2, 1) := by decide +kernel
theorem d_TK_normal_34 : decode m_TK_normal.2.1 34 = .ok (.ireturn, 1) := by decide +kernel
theorem d_TK_same_0 : decode m_TK_same.2.1 0 = .ok (.aload_n 0, 1) := by decide +kernel
theorem d_TK_same_1 : decode m_TK_same.2.1 1 = .ok (.iconst 0, 1) := by decide +kernel
theorem d_TK_same_2 : decode m_TK_same.2.1 2 = .ok (.invokevirtual 163, 3) := by decide +kernel
theorem d_TK_same_5 : decode m_TK_same.2.1 5 = .ok (.astore_n 1, 1) := by decide +kernel
theorem d_TK_same_6 : decode m_TK_same.2.1 6 = .ok (.aload_n 0, 1) := by decide +kernel
theorem d_TK_same_7 : decode m_TK_same.2.1 7 = .ok (.iconst 1, 1) := by decide +kernel
theorem d_TK_same_8 : decode m_TK_same.2.1 8 = .ok (.invokevirtual 163, 3) := by decide +kernel
theorem d_TK_same_11 : decode m_TK_same.2.1 11 = .ok (.astore_n 2, 1) := by decide +kernel
theorem d_TK_same_12 : decode m_TK_same.2.1 12 = .ok (.aload_n 1, 1) := by decide +kernel
theorem d_TK_same_13 : decode m_TK_same.2.1 13 = .ok (.getfield 166, 3) := by decide +kernel
theorem d_TK_same_16 : decode m_TK_same.2.1 16 = .ok (.aload_n 2, 1) := by decide +kernel
theorem d_TK_same_17 : decode m_TK_same.2.1 17 = .ok (.getfield 166, 3) := by decide +kernel
theorem d_TK_same_20 : decode m_TK_same.2.1 20 = .ok (.if_icmp .eq 11, 3) := by decide +kernel
theorem d_TK_same_23 : decode m_TK_same.2.1 23 = .ok (.new 146, 3) := by decide +kernel
theorem d_TK_same_26 : decode m_TK_same.2.1 26 = .ok (.dup, 1) := by decide +kernel
theorem d_TK_same_27 : decode m_TK_same.2.1 27 = .ok (.invokespecial 148, 3) := by decide +kernel
theorem d_TK_same_30 : decode m_TK_same.2.1 30 = .ok (.athrow, 1) := by decide +kernel
theorem d_TK_same_31 : decode m_TK_same.2.1 31 = .ok (.aload_n 0, 1) := by decide +kernel
theorem d_TK_same_32 : decode m_TK_same.2.1 32 = .ok (.getfield 41, 3) := by decide +kernel
theorem d_TK_same_35 : decode m_TK_same.2.1 35 = .ok (.aload_n 2, 1) := by decide +kernel
theorem d_TK_same_36 : decode m_TK_same.2.1 36 = .ok (.getfield 64, 3) := by decide +kernel
theorem d_TK_same_39 : decode m_TK_same.2.1 39 = .ok (.aload_n 0, 1) := by decide +kernel
theorem d_TK_same_40 : decode m_TK_same.2.1 40 = .ok (.getfield 46, 3) := by decide +kernel
theorem d_TK_same_43 : decode m_TK_same.2.1 43 = .ok (.invokevirtual 103, 3) := by decide +kernel
theorem d_TK_same_46 : decode m_TK_same.2.1 46 = .ok (.pop, 1) := by decide +kernel
theorem d_TK_same_47 : decode m_TK_same.2.1 47 = .ok (.aload_n 0, 1) := by decide +kernel
theorem d_TK_same_48 : decode m_TK_same.2.1 48 = .ok (.getfield 41, 3) := by decide +kernel
theorem d_TK_same_51 : decode m_TK_same.2.1 51 = .ok (.aload_n 1, 1) := by decide +kernel
theorem d_TK_same_52 : decode m_TK_same.2.1 52 = .ok (.getfield 64, 3) := by decide +kernel
theorem d_TK_same_55 : decode m_TK_same.2.1 55 = .ok (.aload_n 0, 1) := by decide +kernel
theorem d_TK_same_56 : decode m_TK_same.2.1 56 = .ok (.getfield 50, 3) := by decide +kernel
theorem d_TK_same_59 : decode m_TK_same.2.1 59 = .ok (.invokevirtual 103, 3) := by decide +kernel
theorem d_TK_same_62 : decode m_TK_same.2.1 62 = .ok (.pop, 1) := by decide +kernel
theorem d_TK_same_63 : decode m_TK_same.2.1 63 = .ok (.aload_n 0, 1) := by decide +kernel
theorem d_TK_same_64 : decode m_TK_same.2.1 64 = .ok (.getfield 50, 3) := by decide +kernel
theorem d_TK_same_67 : decode m_TK_same.2.1 67 = .ok (.aload_n 0, 1) := by decide +kernel
theorem d_TK_same_68 : decode m_TK_same.2.1 68 = .ok (.getfield 46, 3) := by decide +kernel
theorem d_TK_same_71 : decode m_TK_same.2.1 71 = .ok (.invokevirtual 156, 3) := by decide +kernel
theorem d_TK_same_74 : decode m_TK_same.2.1 74 = .ok (.ireturn, 1) := by decide +kernel
theorem d_TK_drop_0 : decode m_TK_drop.2.1 0 = .ok (.aload_n 0, 1) := by decide +kernel
theorem d_TK_drop_1 : decode m_TK_drop.2.1 1 = .ok (.getfield 15, 3) := by decide +kernel
theorem d_TK_drop_4 : decode m_TK_drop.2.1 4 = .ok (.ifCond .ne 5, 3) := by decide +kernel
theorem d_TK_drop_7 : decode m_TK_drop.2.1 7 = .ok (.iconst 0, 1) := by decide +kernel
theorem d_TK_drop_8 : decode m_TK_drop.2.1 8 = .ok (.ireturn, 1) := by decide +kernel
theorem d_TK_drop_9 : decode m_TK_drop.2.1 9 = .ok (.aload_n 0, 1) := by decide +kernel
theorem d_TK_drop_10 : decode m_TK_drop.2.1 10 = .ok (.dup, 1) := by decide +kernel
theorem d_TK_drop_11 : decode m_TK_drop.2.1 11 = .ok (.getfield 15, 3) := by decide +kernel
theorem d_TK_drop_14 : decode m_TK_drop.2.1 14 = .ok (.iconst 1, 1) := by decide +kernel
theorem d_TK_drop_15 : decode m_TK_drop.2.1 15 = .ok (.isub, 1) := by decide +kernel
theorem d_TK_drop_16 : decode m_TK_drop.2.1 16 = .ok (.putfield 15, 3) := by decide +kernel
theorem d_TK_drop_19 : decode m_TK_drop.2.1 19 = .ok (.iconst 1, 1) := by decide +kernel
theorem d_TK_drop_20 : decode m_TK_drop.2.1 20 = .ok (.ireturn, 1) := by decide +kernel
theorem d_TK_leave_0 : decode m_TK_leave.2.1 0 = .ok (.aload_n 0, 1) := by decide +kernel
theorem d_TK_leave_1 : decode m_TK_leave.2.1 1 = .ok (.getfield 25, 3) := by decide +kernel
theorem d_TK_leave_4 : decode m_TK_leave.2.1 4 = .ok (.ifCond .eq 10, 3) := by decide +kernel
theorem d_TK_leave_7 : decode m_TK_leave.2.1 7 = .ok (.aload_n 0, 1) := by decide +kernel
theorem d_TK_leave_8 : decode m_TK_leave.2.1 8 = .ok (.invokevirtual 169, 3) := by decide +kernel
theorem d_TK_leave_11 : decode m_TK_leave.2.1 11 = .ok (.ifCond .le 5, 3) := by decide +kernel
theorem d_TK_leave_14 : decode m_TK_leave.2.1 14 = .ok (.iconst 0, 1) := by decide +kernel
theorem d_TK_leave_15 : decode m_TK_leave.2.1 15 = .ok (.ireturn, 1) := by decide +kernel
theorem d_TK_leave_16 : decode m_TK_leave.2.1 16 = .ok (.aload_n 0, 1) := by decide +kernel
theorem d_TK_leave_17 : decode m_TK_leave.2.1 17 = .ok (.dup, 1) := by decide +kernel
theorem d_TK_leave_18 : decode m_TK_leave.2.1 18 = .ok (.getfield 25, 3) := by decide +kernel
theorem d_TK_leave_21 : decode m_TK_leave.2.1 21 = .ok (.iconst 1, 1) := by decide +kernel
theorem d_TK_leave_22 : decode m_TK_leave.2.1 22 = .ok (.isub, 1) := by decide +kernel
theorem d_TK_leave_23 : decode m_TK_leave.2.1 23 = .ok (.putfield 25, 3) := by decide +kernel
theorem d_TK_leave_26 : decode m_TK_leave.2.1 26 = .ok (.iconst 1, 1) := by decide +kernel
theorem d_TK_leave_27 : decode m_TK_leave.2.1 27 = .ok (.ireturn, 1) := by decide +kernel
theorem d_TK_counts_0 : decode m_TK_counts.2.1 0 = .ok (.aload_n 0, 1) := by decide +kernel
theorem d_TK_counts_1 : decode m_TK_counts.2.1 1 = .ok (.getfield 15, 3) := by decide +kernel
theorem d_TK_counts_4 : decode m_TK_counts.2.1 4 = .ok (.bipush 8, 2) := by decide +kernel
theorem d_TK_counts_6 : decode m_TK_counts.2.1 6 = .ok (.aload_n 0, 1) := by decide +kernel
theorem d_TK_counts_7 : decode m_TK_counts.2.1 7 = .ok (.getfield 25, 3) := by decide +kernel
theorem d_TK_counts_10 : decode m_TK_counts.2.1 10 = .ok (.imul, 1) := by decide +kernel
theorem d_TK_counts_11 : decode m_TK_counts.2.1 11 = .ok (.iadd, 1) := by decide +kernel
theorem d_TK_counts_12 : decode m_TK_counts.2.1 12 = .ok (.bipush 64, 2) := by decide +kernel
theorem d_TK_counts_14 : decode m_TK_counts.2.1 14 = .ok (.aload_n 0, 1) := by decide +kernel
theorem d_TK_counts_15 : decode m_TK_counts.2.1 15 = .ok (.getfield 35, 3) := by decide +kernel
theorem d_TK_counts_18 : decode m_TK_counts.2.1 18 = .ok (.imul, 1) := by decide +kernel
theorem d_TK_counts_19 : decode m_TK_counts.2.1 19 = .ok (.iadd, 1) := by decide +kernel
theorem d_TK_counts_20 : decode m_TK_counts.2.1 20 = .ok (.sipush 1024, 3) := by decide +kernel
theorem d_TK_counts_23 : decode m_TK_counts.2.1 23 = .ok (.aload_n 0, 1) := by decide +kernel
theorem d_TK_counts_24 : decode m_TK_counts.2.1 24 = .ok (.getfield 41, 3) := by decide +kernel
theorem d_TK_counts_27 : decode m_TK_counts.2.1 27 = .ok (.getfield 149, 3) := by decide +kernel
theorem d_TK_counts_30 : decode m_TK_counts.2.1 30 = .ok (.imul, 1) := by decide +kernel
theorem d_TK_counts_31 : decode m_TK_counts.2.1 31 = .ok (.iadd, 1) := by decide +kernel
theorem d_TK_counts_32 : decode m_TK_counts.2.1 32 = .ok (.ireturn, 1) := by decide +kernel
theorem d_TK_judgement_0 : decode m_TK_judgement.2.1 0 = .ok (.aload_n 0, 1) := by decide +kernel
theorem d_TK_judgement_1 : decode m_TK_judgement.2.1 1 = .ok (.iload_n 1, 1) := by decide +kernel
theorem d_TK_judgement_2 : decode m_TK_judgement.2.1 2 = .ok (.invokevirtual 173, 3) := by decide +kernel
theorem d_TK_judgement_5 : decode m_TK_judgement.2.1 5 = .ok (.ifCond .ne 5, 3) := by decide +kernel
theorem d_TK_judgement_8 : decode m_TK_judgement.2.1 8 = .ok (.iconst (-1), 1) := by decide +kernel
theorem d_TK_judgement_9 : decode m_TK_judgement.2.1 9 = .ok (.ireturn, 1) := by decide +kernel
theorem d_TK_judgement_10 : decode m_TK_judgement.2.1 10 = .ok (.aload_n 0, 1) := by decide +kernel
theorem d_TK_judgement_11 : decode m_TK_judgement.2.1 11 = .ok (.iload_n 1, 1) := by decide +kernel
theorem d_TK_judgement_12 : decode m_TK_judgement.2.1 12 = .ok (.invokevirtual 176, 3) := by decide +kernel
theorem d_TK_judgement_15 : decode m_TK_judgement.2.1 15 = .ok (.astore 4, 2) := by decide +kernel
theorem d_TK_judgement_17 : decode m_TK_judgement.2.1 17 = .ok (.iload_n 2, 1) := by decide +kernel
theorem d_TK_judgement_18 : decode m_TK_judgement.2.1 18 = .ok (.ifCond .eq 15, 3) := by decide +kernel
theorem d_TK_judgement_21 : decode m_TK_judgement.2.1 21 = .ok (.aload 4, 2) := by decide +kernel
theorem d_TK_judgement_23 : decode m_TK_judgement.2.1 23 = .ok (.getfield 71, 3) := by decide +kernel
theorem d_TK_judgement_26 : decode m_TK_judgement.2.1 26 = .ok (.iload_n 3, 1) := by decide +kernel
theorem d_TK_judgement_27 : decode m_TK_judgement.2.1 27 = .ok (.invokevirtual 107, 3) := by decide +kernel
theorem d_TK_judgement_30 : decode m_TK_judgement.2.1 30 = .ok (.goto 12, 3) := by decide +kernel
theorem d_TK_judgement_33 : decode m_TK_judgement.2.1 33 = .ok (.aload 4, 2) := by decide +kernel
theorem d_TK_judgement_35 : decode m_TK_judgement.2.1 35 = .ok (.getfield 64, 3) := by decide +kernel
theorem d_TK_judgement_38 : decode m_TK_judgement.2.1 38 = .ok (.iload_n 3, 1) := by decide +kernel
theorem d_TK_judgement_39 : decode m_TK_judgement.2.1 39 = .ok (.invokevirtual 107, 3) := by decide +kernel
theorem d_TK_judgement_42 : decode m_TK_judgement.2.1 42 = .ok (.ireturn, 1) := by decide +kernel
theorem d_TK_made_0 : decode m_TK_made.2.1 0 = .ok (.aload_n 0, 1) := by decide +kernel
theorem d_TK_made_1 : decode m_TK_made.2.1 1 = .ok (.iload_n 1, 1) := by decide +kernel
theorem d_TK_made_2 : decode m_TK_made.2.1 2 = .ok (.invokevirtual 173, 3) := by decide +kernel
theorem d_TK_made_5 : decode m_TK_made.2.1 5 = .ok (.ifCond .eq 14, 3) := by decide +kernel
theorem d_TK_made_8 : decode m_TK_made.2.1 8 = .ok (.aload_n 0, 1) := by decide +kernel
theorem d_TK_made_9 : decode m_TK_made.2.1 9 = .ok (.iload_n 1, 1) := by decide +kernel
theorem d_TK_made_10 : decode m_TK_made.2.1 10 = .ok (.invokevirtual 176, 3) := by decide +kernel
theorem d_TK_made_13 : decode m_TK_made.2.1 13 = .ok (.getfield 166, 3) := by decide +kernel
theorem d_TK_made_16 : decode m_TK_made.2.1 16 = .ok (.goto 4, 3) := by decide +kernel
theorem d_TK_made_19 : decode m_TK_made.2.1 19 = .ok (.iconst (-1), 1) := by decide +kernel
theorem d_TK_made_20 : decode m_TK_made.2.1 20 = .ok (.ireturn, 1) := by decide +kernel
theorem d_TK_entry_0 : decode m_TK_entry.2.1 0 = .ok (.aload_n 0, 1) := by decide +kernel
theorem d_TK_entry_1 : decode m_TK_entry.2.1 1 = .ok (.iload_n 1, 1) := by decide +kernel
theorem d_TK_entry_2 : decode m_TK_entry.2.1 2 = .ok (.invokevirtual 85, 3) := by decide +kernel
theorem d_TK_entry_5 : decode m_TK_entry.2.1 5 = .ok (.ifCond .eq 15, 3) := by decide +kernel
theorem d_TK_entry_8 : decode m_TK_entry.2.1 8 = .ok (.aload_n 0, 1) := by decide +kernel
theorem d_TK_entry_9 : decode m_TK_entry.2.1 9 = .ok (.iload_n 1, 1) := by decide +kernel
theorem d_TK_entry_10 : decode m_TK_entry.2.1 10 = .ok (.invokevirtual 91, 3) := by decide +kernel
theorem d_TK_entry_13 : decode m_TK_entry.2.1 13 = .ok (.iload_n 2, 1) := by decide +kernel
theorem d_TK_entry_14 : decode m_TK_entry.2.1 14 = .ok (.invokevirtual 107, 3) := by decide +kernel
theorem d_TK_entry_17 : decode m_TK_entry.2.1 17 = .ok (.goto 4, 3) := by decide +kernel
theorem d_TK_entry_20 : decode m_TK_entry.2.1 20 = .ok (.iconst (-1), 1) := by decide +kernel
theorem d_TK_entry_21 : decode m_TK_entry.2.1 21 = .ok (.ireturn, 1) := by decide +kernel
theorem d_TK_type_0 : decode m_TK_type.2.1 0 = .ok (.aload_n 0, 1) := by decide +kernel
theorem d_TK_type_1 : decode m_TK_type.2.1 1 = .ok (.iload_n 1, 1) := by decide +kernel
theorem d_TK_type_2 : decode m_TK_type.2.1 2 = .ok (.invokevirtual 74, 3) := by decide +kernel
theorem d_TK_type_5 : decode m_TK_type.2.1 5 = .ok (.ifCond .ne 5, 3) := by decide +kernel
theorem d_TK_type_8 : decode m_TK_type.2.1 8 = .ok (.iconst (-1), 1) := by decide +kernel
theorem d_TK_type_9 : decode m_TK_type.2.1 9 = .ok (.ireturn, 1) := by decide +kernel
theorem d_TK_type_10 : decode m_TK_type.2.1 10 = .ok (.iload_n 2, 1) := by decide +kernel
theorem d_TK_type_11 : decode m_TK_type.2.1 11 = .ok (.iconst (-1), 1) := by decide +kernel
theorem d_TK_type_12 : decode m_TK_type.2.1 12 = .ok (.if_icmp .ne 18, 3) := by decide +kernel
theorem d_TK_type_15 : decode m_TK_type.2.1 15 = .ok (.aload_n 0, 1) := by decide +kernel
theorem d_TK_type_16 : decode m_TK_type.2.1 16 = .ok (.getfield 31, 3) := by decide +kernel
theorem d_TK_type_19 : decode m_TK_type.2.1 19 = .ok (.iload_n 1, 1) := by decide +kernel
theorem d_TK_type_20 : decode m_TK_type.2.1 20 = .ok (.baload, 1) := by decide +kernel
theorem d_TK_type_21 : decode m_TK_type.2.1 21 = .ok (.ifCond .eq 7, 3) := by decide +kernel
theorem d_TK_type_24 : decode m_TK_type.2.1 24 = .ok (.iconst 1, 1) := by decide +kernel
theorem d_TK_type_25 : decode m_TK_type.2.1 25 = .ok (.goto 4, 3) := by decide +kernel
theorem d_TK_type_28 : decode m_TK_type.2.1 28 = .ok (.iconst 0, 1) := by decide +kernel
theorem d_TK_type_29 : decode m_TK_type.2.1 29 = .ok (.ireturn, 1) := by decide +kernel
theorem d_TK_type_30 : decode m_TK_type.2.1 30 = .ok (.aload_n 0, 1) := by decide +kernel
theorem d_TK_type_31 : decode m_TK_type.2.1 31 = .ok (.getfield 28, 3) := by decide +kernel
theorem d_TK_type_34 : decode m_TK_type.2.1 34 = .ok (.iload_n 1, 1) := by decide +kernel
theorem d_TK_type_35 : decode m_TK_type.2.1 35 = .ok (.aaload, 1) := by decide +kernel
theorem d_TK_type_36 : decode m_TK_type.2.1 36 = .ok (.iload_n 2, 1) := by decide +kernel
theorem d_TK_type_37 : decode m_TK_type.2.1 37 = .ok (.invokevirtual 107, 3) := by decide +kernel
theorem d_TK_type_40 : decode m_TK_type.2.1 40 = .ok (.ireturn, 1) := by decide +kernel
theorem d_TK_side_0 : decode m_TK_side.2.1 0 = .ok (.iload_n 1, 1) := by decide +kernel
theorem d_TK_side_1 : decode m_TK_side.2.1 1 = .ok (.ifCond .lt 14, 3) := by decide +kernel
theorem d_TK_side_4 : decode m_TK_side.2.1 4 = .ok (.iload_n 1, 1) := by decide +kernel
theorem d_TK_side_5 : decode m_TK_side.2.1 5 = .ok (.aload_n 0, 1) := by decide +kernel
theorem d_TK_side_6 : decode m_TK_side.2.1 6 = .ok (.getfield 41, 3) := by decide +kernel
theorem d_TK_side_9 : decode m_TK_side.2.1 9 = .ok (.getfield 149, 3) := by decide +kernel
theorem d_TK_side_12 : decode m_TK_side.2.1 12 = .ok (.if_icmp .lt 5, 3) := by decide +kernel
theorem d_TK_side_15 : decode m_TK_side.2.1 15 = .ok (.iconst (-1), 1) := by decide +kernel
theorem d_TK_side_16 : decode m_TK_side.2.1 16 = .ok (.ireturn, 1) := by decide +kernel
theorem d_TK_side_17 : decode m_TK_side.2.1 17 = .ok (.aload_n 0, 1) := by decide +kernel
theorem d_TK_side_18 : decode m_TK_side.2.1 18 = .ok (.getfield 41, 3) := by decide +kernel
theorem d_TK_side_21 : decode m_TK_side.2.1 21 = .ok (.getfield 179, 3) := by decide +kernel
theorem d_TK_side_24 : decode m_TK_side.2.1 24 = .ok (.iload_n 1, 1) := by decide +kernel
theorem d_TK_side_25 : decode m_TK_side.2.1 25 = .ok (.aaload, 1) := by decide +kernel
theorem d_TK_side_26 : decode m_TK_side.2.1 26 = .ok (.astore 4, 2) := by decide +kernel
theorem d_TK_side_28 : decode m_TK_side.2.1 28 = .ok (.iload_n 3, 1) := by decide +kernel
theorem d_TK_side_29 : decode m_TK_side.2.1 29 = .ok (.iconst (-1), 1) := by decide +kernel
theorem d_TK_side_30 : decode m_TK_side.2.1 30 = .ok (.if_icmp .ne 9, 3) := by decide +kernel
theorem d_TK_side_33 : decode m_TK_side.2.1 33 = .ok (.aload 4, 2) := by decide +kernel
theorem d_TK_side_35 : decode m_TK_side.2.1 35 = .ok (.getfield 183, 3) := by decide +kernel
theorem d_TK_side_38 : decode m_TK_side.2.1 38 = .ok (.ireturn, 1) := by decide +kernel
theorem d_TK_side_39 : decode m_TK_side.2.1 39 = .ok (.iload_n 2, 1) := by decide +kernel
theorem d_TK_side_40 : decode m_TK_side.2.1 40 = .ok (.ifCond .eq 15, 3) := by decide +kernel
theorem d_TK_side_43 : decode m_TK_side.2.1 43 = .ok (.aload 4, 2) := by decide +kernel
theorem d_TK_side_45 : decode m_TK_side.2.1 45 = .ok (.getfield 188, 3) := by decide +kernel
theorem d_TK_side_48 : decode m_TK_side.2.1 48 = .ok (.iload_n 3, 1) := by decide +kernel
theorem d_TK_side_49 : decode m_TK_side.2.1 49 = .ok (.invokevirtual 107, 3) := by decide +kernel
theorem d_TK_side_52 : decode m_TK_side.2.1 52 = .ok (.goto 12, 3) := by decide +kernel
theorem d_TK_side_55 : decode m_TK_side.2.1 55 = .ok (.aload 4, 2) := by decide +kernel
theorem d_TK_side_57 : decode m_TK_side.2.1 57 = .ok (.getfield 191, 3) := by decide +kernel
theorem d_TK_side_60 : decode m_TK_side.2.1 60 = .ok (.iload_n 3, 1) := by decide +kernel
theorem d_TK_side_61 : decode m_TK_side.2.1 61 = .ok (.invokevirtual 107, 3) := by decide +kernel
theorem d_TK_side_64 : decode m_TK_side.2.1 64 = .ok (.ireturn, 1) := by decide +kernel
theorem d_TK_isConstant_0 : decode m_TK_isConstant.2.1 0 = .ok (.iload_n 1, 1) := by decide +kernel
theorem d_TK_isConstant_1 : decode m_TK_isConstant.2.1 1 = .ok (.ifCond .lt 15, 3) := by decide +kernel
theorem d_TK_isConstant_4 : decode m_TK_isConstant.2.1 4 = .ok (.iload_n 1, 1) := by decide +kernel
theorem d_TK_isConstant_5 : decode m_TK_isConstant.2.1 5 = .ok (.aload_n 0, 1) := by decide +kernel
theorem d_TK_isConstant_6 : decode m_TK_isConstant.2.1 6 = .ok (.getfield 35, 3) := by decide +kernel
theorem d_TK_isConstant_9 : decode m_TK_isConstant.2.1 9 = .ok (.if_icmp .ge 7, 3) := by decide +kernel
theorem d_TK_isConstant_12 : decode m_TK_isConstant.2.1 12 = .ok (.iconst 1, 1) := by decide +kernel
theorem d_TK_isConstant_13 : decode m_TK_isConstant.2.1 13 = .ok (.goto 4, 3) := by decide +kernel
theorem d_TK_isConstant_16 : decode m_TK_isConstant.2.1 16 = .ok (.iconst 0, 1) := by decide +kernel
theorem d_TK_isConstant_17 : decode m_TK_isConstant.2.1 17 = .ok (.ireturn, 1) := by decide +kernel
theorem d_TK_isEntry_0 : decode m_TK_isEntry.2.1 0 = .ok (.iload_n 1, 1) := by decide +kernel
theorem d_TK_isEntry_1 : decode m_TK_isEntry.2.1 1 = .ok (.ifCond .lt 15, 3) := by decide +kernel
theorem d_TK_isEntry_4 : decode m_TK_isEntry.2.1 4 = .ok (.iload_n 1, 1) := by decide +kernel
theorem d_TK_isEntry_5 : decode m_TK_isEntry.2.1 5 = .ok (.aload_n 0, 1) := by decide +kernel
theorem d_TK_isEntry_6 : decode m_TK_isEntry.2.1 6 = .ok (.getfield 25, 3) := by decide +kernel
theorem d_TK_isEntry_9 : decode m_TK_isEntry.2.1 9 = .ok (.if_icmp .ge 7, 3) := by decide +kernel
theorem d_TK_isEntry_12 : decode m_TK_isEntry.2.1 12 = .ok (.iconst 1, 1) := by decide +kernel
theorem d_TK_isEntry_13 : decode m_TK_isEntry.2.1 13 = .ok (.goto 4, 3) := by decide +kernel
theorem d_TK_isEntry_16 : decode m_TK_isEntry.2.1 16 = .ok (.iconst 0, 1) := by decide +kernel
theorem d_TK_isEntry_17 : decode m_TK_isEntry.2.1 17 = .ok (.ireturn, 1) := by decide +kernel
theorem d_TK_isJudgement_0 : decode m_TK_isJudgement.2.1 0 = .ok (.iload_n 1, 1) := by decide +kernel
theorem d_TK_isJudgement_1 : decode m_TK_isJudgement.2.1 1 = .ok (.ifCond .lt 15, 3) := by decide +kernel
theorem d_TK_isJudgement_4 : decode m_TK_isJudgement.2.1 4 = .ok (.iload_n 1, 1) := by decide +kernel
theorem d_TK_isJudgement_5 : decode m_TK_isJudgement.2.1 5 = .ok (.aload_n 0, 1) := by decide +kernel
theorem d_TK_isJudgement_6 : decode m_TK_isJudgement.2.1 6 = .ok (.getfield 15, 3) := by decide +kernel
theorem d_TK_isJudgement_9 : decode m_TK_isJudgement.2.1 9 = .ok (.if_icmp .ge 7, 3) := by decide +kernel
theorem d_TK_isJudgement_12 : decode m_TK_isJudgement.2.1 12 = .ok (.iconst 1, 1) := by decide +kernel
theorem d_TK_isJudgement_13 : decode m_TK_isJudgement.2.1 13 = .ok (.goto 4, 3) := by decide +kernel
theorem d_TK_isJudgement_16 : decode m_TK_isJudgement.2.1 16 = .ok (.iconst 0, 1) := by decide +kernel
theorem d_TK_isJudgement_17 : decode m_TK_isJudgement.2.1 17 = .ok (.ireturn, 1) := by decide +kernel
theorem d_TK_entryAt_0 : decode m_TK_entryAt.2.1 0 = .ok (.aload_n 0, 1) := by decide +kernel
theorem d_TK_entryAt_1 : decode m_TK_entryAt.2.1 1 = .ok (.getfield 21, 3) := by decide +kernel
theorem d_TK_entryAt_4 : decode m_TK_entryAt.2.1 4 = .ok (.aload_n 0, 1) := by decide +kernel
theorem d_TK_entryAt_5 : decode m_TK_entryAt.2.1 5 = .ok (.getfield 25, 3) := by decide +kernel
theorem d_TK_entryAt_8 : decode m_TK_entryAt.2.1 8 = .ok (.iconst 1, 1) := by decide +kernel
theorem d_TK_entryAt_9 : decode m_TK_entryAt.2.1 9 = .ok (.isub, 1) := by decide +kernel
theorem d_TK_entryAt_10 : decode m_TK_entryAt.2.1 10 = .ok (.iload_n 1, 1) := by decide +kernel
theorem d_TK_entryAt_11 : decode m_TK_entryAt.2.1 11 = .ok (.isub, 1) := by decide +kernel
theorem d_TK_entryAt_12 : decode m_TK_entryAt.2.1 12 = .ok (.aaload, 1) := by decide +kernel
theorem d_TK_entryAt_13 : decode m_TK_entryAt.2.1 13 = .ok (.areturn, 1) := by decide +kernel
theorem d_TK_judgementAt_0 : decode m_TK_judgementAt.2.1 0 = .ok (.aload_n 0, 1) := by decide +kernel
theorem d_TK_judgementAt_1 : decode m_TK_judgementAt.2.1 1 = .ok (.getfield 11, 3) := by decide +kernel
theorem d_TK_judgementAt_4 : decode m_TK_judgementAt.2.1 4 = .ok (.aload_n 0, 1) := by decide +kernel
theorem d_TK_judgementAt_5 : decode m_TK_judgementAt.2.1 5 = .ok (.getfield 15, 3) := by decide +kernel
theorem d_TK_judgementAt_8 : decode m_TK_judgementAt.2.1 8 = .ok (.iconst 1, 1) := by decide +kernel
theorem d_TK_judgementAt_9 : decode m_TK_judgementAt.2.1 9 = .ok (.isub, 1) := by decide +kernel
theorem d_TK_judgementAt_10 : decode m_TK_judgementAt.2.1 10 = .ok (.iload_n 1, 1) := by decide +kernel
theorem d_TK_judgementAt_11 : decode m_TK_judgementAt.2.1 11 = .ok (.isub, 1) := by decide +kernel
theorem d_TK_judgementAt_12 : decode m_TK_judgementAt.2.1 12 = .ok (.aaload, 1) := by decide +kernel
theorem d_TK_judgementAt_13 : decode m_TK_judgementAt.2.1 13 = .ok (.areturn, 1) := by decide +kernel
theorem d_TK_addJudgement_0 : decode m_TK_addJudgement.2.1 0 = .ok (.aload_n 0, 1) := by decide +kernel
theorem d_TK_addJudgement_1 : decode m_TK_addJudgement.2.1 1 = .ok (.getfield 15, 3) := by decide +kernel
theorem d_TK_addJudgement_4 : decode m_TK_addJudgement.2.1 4 = .ok (.bipush 6, 2) := by decide +kernel
theorem d_TK_addJudgement_6 : decode m_TK_addJudgement.2.1 6 = .ok (.if_icmp .ne 11, 3) := by decide +kernel
theorem d_TK_addJudgement_9 : decode m_TK_addJudgement.2.1 9 = .ok (.new 129, 3) := by decide +kernel
theorem d_TK_addJudgement_12 : decode m_TK_addJudgement.2.1 12 = .ok (.dup, 1) := by decide +kernel
theorem d_TK_addJudgement_13 : decode m_TK_addJudgement.2.1 13 = .ok (.invokespecial 131, 3) := by decide +kernel
theorem d_TK_addJudgement_16 : decode m_TK_addJudgement.2.1 16 = .ok (.athrow, 1) := by decide +kernel
theorem d_TK_addJudgement_17 : decode m_TK_addJudgement.2.1 17 = .ok (.aload_n 0, 1) := by decide +kernel
theorem d_TK_addJudgement_18 : decode m_TK_addJudgement.2.1 18 = .ok (.dup, 1) := by decide +kernel
theorem d_TK_addJudgement_19 : decode m_TK_addJudgement.2.1 19 = .ok (.getfield 15, 3) := by decide +kernel
theorem d_TK_addJudgement_22 : decode m_TK_addJudgement.2.1 22 = .ok (.iconst 1, 1) := by decide +kernel
theorem d_TK_addJudgement_23 : decode m_TK_addJudgement.2.1 23 = .ok (.iadd, 1) := by decide +kernel
theorem d_TK_addJudgement_24 : decode m_TK_addJudgement.2.1 24 = .ok (.putfield 15, 3) := by decide +kernel
theorem d_TK_addJudgement_27 : decode m_TK_addJudgement.2.1 27 = .ok (.aload_n 0, 1) := by decide +kernel
theorem d_TK_addJudgement_28 : decode m_TK_addJudgement.2.1 28 = .ok (.iconst 0, 1) := by decide +kernel
theorem d_TK_addJudgement_29 : decode m_TK_addJudgement.2.1 29 = .ok (.invokevirtual 176, 3) := by decide +kernel
theorem d_TK_addJudgement_32 : decode m_TK_addJudgement.2.1 32 = .ok (.astore_n 1, 1) := by decide +kernel
theorem d_TK_addJudgement_33 : decode m_TK_addJudgement.2.1 33 = .ok (.aload_n 1, 1) := by decide +kernel
theorem d_TK_addJudgement_34 : decode m_TK_addJudgement.2.1 34 = .ok (.aload_n 0, 1) := by decide +kernel
theorem d_TK_addJudgement_35 : decode m_TK_addJudgement.2.1 35 = .ok (.getfield 25, 3) := by decide +kernel
theorem d_TK_addJudgement_38 : decode m_TK_addJudgement.2.1 38 = .ok (.putfield 166, 3) := by decide +kernel
theorem d_TK_addJudgement_41 : decode m_TK_addJudgement.2.1 41 = .ok (.aload_n 1, 1) := by decide +kernel
theorem d_TK_addJudgement_42 : decode m_TK_addJudgement.2.1 42 = .ok (.areturn, 1) := by decide +kernel
theorem d_TK_neededJudgement_0 : decode m_TK_neededJudgement.2.1 0 = .ok (.aload_n 0, 1) := by decide +kernel
theorem d_TK_neededJudgement_1 : decode m_TK_neededJudgement.2.1 1 = .ok (.iload_n 1, 1) := by decide +kernel
theorem d_TK_neededJudgement_2 : decode m_TK_neededJudgement.2.1 2 = .ok (.invokevirtual 173, 3) := by decide +kernel
theorem d_TK_neededJudgement_5 : decode m_TK_neededJudgement.2.1 5 = .ok (.ifCond .ne 11, 3) := by decide +kernel
theorem d_TK_neededJudgement_8 : decode m_TK_neededJudgement.2.1 8 = .ok (.new 146, 3) := by decide +kernel
theorem d_TK_neededJudgement_11 : decode m_TK_neededJudgement.2.1 11 = .ok (.dup, 1) := by decide +kernel
theorem d_TK_neededJudgement_12 : decode m_TK_neededJudgement.2.1 12 = .ok (.invokespecial 148, 3) := by decide +kernel
theorem d_TK_neededJudgement_15 : decode m_TK_neededJudgement.2.1 15 = .ok (.athrow, 1) := by decide +kernel
theorem d_TK_neededJudgement_16 : decode m_TK_neededJudgement.2.1 16 = .ok (.aload_n 0, 1) := by decide +kernel
theorem d_TK_neededJudgement_17 : decode m_TK_neededJudgement.2.1 17 = .ok (.iload_n 1, 1) := by decide +kernel
theorem d_TK_neededJudgement_18 : decode m_TK_neededJudgement.2.1 18 = .ok (.invokevirtual 176, 3) := by decide +kernel
theorem d_TK_neededJudgement_21 : decode m_TK_neededJudgement.2.1 21 = .ok (.areturn, 1) := by decide +kernel
theorem d_TK_presentJudgement_0 : decode m_TK_presentJudgement.2.1 0 = .ok (.aload_n 0, 1) := by decide +kernel
theorem d_TK_presentJudgement_1 : decode m_TK_presentJudgement.2.1 1 = .ok (.iload_n 1, 1) := by decide +kernel
theorem d_TK_presentJudgement_2 : decode m_TK_presentJudgement.2.1 2 = .ok (.invokevirtual 163, 3) := by decide +kernel
theorem d_TK_presentJudgement_5 : decode m_TK_presentJudgement.2.1 5 = .ok (.astore_n 2, 1) := by decide +kernel
theorem d_TK_presentJudgement_6 : decode m_TK_presentJudgement.2.1 6 = .ok (.aload_n 2, 1) := by decide +kernel
theorem d_TK_presentJudgement_7 : decode m_TK_presentJudgement.2.1 7 = .ok (.getfield 166, 3) := by decide +kernel
theorem d_TK_presentJudgement_10 : decode m_TK_presentJudgement.2.1 10 = .ok (.aload_n 0, 1) := by decide +kernel
theorem d_TK_presentJudgement_11 : decode m_TK_presentJudgement.2.1 11 = .ok (.getfield 25, 3) := by decide +kernel
theorem d_TK_presentJudgement_14 : decode m_TK_presentJudgement.2.1 14 = .ok (.if_icmp .eq 11, 3) := by decide +kernel
theorem d_TK_presentJudgement_17 : decode m_TK_presentJudgement.2.1 17 = .ok (.new 146, 3) := by decide +kernel
theorem d_TK_presentJudgement_20 : decode m_TK_presentJudgement.2.1 20 = .ok (.dup, 1) := by decide +kernel
theorem d_TK_presentJudgement_21 : decode m_TK_presentJudgement.2.1 21 = .ok (.invokespecial 148, 3) := by decide +kernel
theorem d_TK_presentJudgement_24 : decode m_TK_presentJudgement.2.1 24 = .ok (.athrow, 1) := by decide +kernel
theorem d_TK_presentJudgement_25 : decode m_TK_presentJudgement.2.1 25 = .ok (.aload_n 2, 1) := by decide +kernel
theorem d_TK_presentJudgement_26 : decode m_TK_presentJudgement.2.1 26 = .ok (.areturn, 1) := by decide +kernel
theorem d_TK_onlyPresentJudgement_0 : decode m_TK_onlyPresentJudgement.2.1 0 = .ok (.aload_n 0, 1) := by decide +kernel
theorem d_TK_onlyPresentJudgement_1 : decode m_TK_onlyPresentJudgement.2.1 1 = .ok (.iconst 0, 1) := by decide +kernel
theorem d_TK_onlyPresentJudgement_2 : decode m_TK_onlyPresentJudgement.2.1 2 = .ok (.invokevirtual 99, 3) := by decide +kernel
theorem d_TK_onlyPresentJudgement_5 : decode m_TK_onlyPresentJudgement.2.1 5 = .ok (.astore_n 1, 1) := by decide +kernel
theorem d_TK_onlyPresentJudgement_6 : decode m_TK_onlyPresentJudgement.2.1 6 = .ok (.aload_n 0, 1) := by decide +kernel
theorem d_TK_onlyPresentJudgement_7 : decode m_TK_onlyPresentJudgement.2.1 7 = .ok (.getfield 25, 3) := by decide +kernel
theorem d_TK_onlyPresentJudgement_10 : decode m_TK_onlyPresentJudgement.2.1 10 = .ok (.ifCond .eq 11, 3) := by decide +kernel
theorem d_TK_onlyPresentJudgement_13 : decode m_TK_onlyPresentJudgement.2.1 13 = .ok (.aload_n 0, 1) := by decide +kernel
theorem d_TK_onlyPresentJudgement_14 : decode m_TK_onlyPresentJudgement.2.1 14 = .ok (.invokevirtual 169, 3) := by decide +kernel
theorem d_TK_onlyPresentJudgement_17 : decode m_TK_onlyPresentJudgement.2.1 17 = .ok (.iconst 1, 1) := by decide +kernel
theorem d_TK_onlyPresentJudgement_18 : decode m_TK_onlyPresentJudgement.2.1 18 = .ok (.if_icmp .le 11, 3) := by decide +kernel
theorem d_TK_onlyPresentJudgement_21 : decode m_TK_onlyPresentJudgement.2.1 21 = .ok (.new 146, 3) := by decide +kernel
theorem d_TK_onlyPresentJudgement_24 : decode m_TK_onlyPresentJudgement.2.1 24 = .ok (.dup, 1) := by decide +kernel
theorem d_TK_onlyPresentJudgement_25 : decode m_TK_onlyPresentJudgement.2.1 25 = .ok (.invokespecial 148, 3) := by decide +kernel
theorem d_TK_onlyPresentJudgement_28 : decode m_TK_onlyPresentJudgement.2.1 28 = .ok (.athrow, 1) := by decide +kernel
theorem d_TK_onlyPresentJudgement_29 : decode m_TK_onlyPresentJudgement.2.1 29 = .ok (.aload_n 1, 1) := by decide +kernel
theorem d_TK_onlyPresentJudgement_30 : decode m_TK_onlyPresentJudgement.2.1 30 = .ok (.areturn, 1) := by decide +kernel
theorem d_TK_presentCount_0 : decode m_TK_presentCount.2.1 0 = .ok (.iconst 0, 1) := by decide +kernel
theorem d_TK_presentCount_1 : decode m_TK_presentCount.2.1 1 = .ok (.istore_n 1, 1) := by decide +kernel
theorem d_TK_presentCount_2 : decode m_TK_presentCount.2.1 2 = .ok (.iconst 0, 1) := by decide +kernel
theorem d_TK_presentCount_3 : decode m_TK_presentCount.2.1 3 = .ok (.istore_n 2, 1) := by decide +kernel
theorem d_TK_presentCount_4 : decode m_TK_presentCount.2.1 4 = .ok (.iload_n 2, 1) := by decide +kernel
theorem d_TK_presentCount_5 : decode m_TK_presentCount.2.1 5 = .ok (.aload_n 0, 1) := by decide +kernel
theorem d_TK_presentCount_6 : decode m_TK_presentCount.2.1 6 = .ok (.getfield 15, 3) := by decide +kernel
theorem d_TK_presentCount_9 : decode m_TK_presentCount.2.1 9 = .ok (.if_icmp .ge 28, 3) := by decide +kernel
theorem d_TK_presentCount_12 : decode m_TK_presentCount.2.1 12 = .ok (.aload_n 0, 1) := by decide +kernel
theorem d_TK_presentCount_13 : decode m_TK_presentCount.2.1 13 = .ok (.getfield 11, 3) := by decide +kernel
theorem d_TK_presentCount_16 : decode m_TK_presentCount.2.1 16 = .ok (.iload_n 2, 1) := by decide +kernel
theorem d_TK_presentCount_17 : decode m_TK_presentCount.2.1 17 = .ok (.aaload, 1) := by decide +kernel
theorem d_TK_presentCount_18 : decode m_TK_presentCount.2.1 18 = .ok (.getfield 166, 3) := by decide +kernel
theorem d_TK_presentCount_21 : decode m_TK_presentCount.2.1 21 = .ok (.aload_n 0, 1) := by decide +kernel
theorem d_TK_presentCount_22 : decode m_TK_presentCount.2.1 22 = .ok (.getfield 25, 3) := by decide +kernel
theorem d_TK_presentCount_25 : decode m_TK_presentCount.2.1 25 = .ok (.if_icmp .ne 6, 3) := by decide +kernel
theorem d_TK_presentCount_28 : decode m_TK_presentCount.2.1 28 = .ok (.iinc 1 1, 3) := by decide +kernel
theorem d_TK_presentCount_31 : decode m_TK_presentCount.2.1 31 = .ok (.iinc 2 1, 3) := by decide +kernel
theorem d_TK_presentCount_34 : decode m_TK_presentCount.2.1 34 = .ok (.goto (-30), 3) := by decide +kernel
theorem d_TK_presentCount_37 : decode m_TK_presentCount.2.1 37 = .ok (.iload_n 1, 1) := by decide +kernel
theorem d_TK_presentCount_38 : decode m_TK_presentCount.2.1 38 = .ok (.ireturn, 1) := by decide +kernel
theorem d_TK_hasSort_0 : decode m_TK_hasSort.2.1 0 = .ok (.aload_n 0, 1) := by decide +kernel
theorem d_TK_hasSort_1 : decode m_TK_hasSort.2.1 1 = .ok (.getfield 71, 3) := by decide +kernel
theorem d_TK_hasSort_4 : decode m_TK_hasSort.2.1 4 = .ok (.iconst 0, 1) := by decide +kernel
theorem d_TK_hasSort_5 : decode m_TK_hasSort.2.1 5 = .ok (.invokevirtual 132, 3) := by decide +kernel
theorem d_TK_hasSort_8 : decode m_TK_hasSort.2.1 8 = .ok (.ifCond .ne 14, 3) := by decide +kernel
theorem d_TK_hasSort_11 : decode m_TK_hasSort.2.1 11 = .ok (.aload_n 0, 1) := by decide +kernel
theorem d_TK_hasSort_12 : decode m_TK_hasSort.2.1 12 = .ok (.getfield 71, 3) := by decide +kernel
theorem d_TK_hasSort_15 : decode m_TK_hasSort.2.1 15 = .ok (.iconst 1, 1) := by decide +kernel
theorem d_TK_hasSort_16 : decode m_TK_hasSort.2.1 16 = .ok (.invokevirtual 132, 3) := by decide +kernel
theorem d_TK_hasSort_19 : decode m_TK_hasSort.2.1 19 = .ok (.ifCond .eq 7, 3) := by decide +kernel
theorem d_TK_hasSort_22 : decode m_TK_hasSort.2.1 22 = .ok (.iconst 1, 1) := by decide +kernel
theorem d_TK_hasSort_23 : decode m_TK_hasSort.2.1 23 = .ok (.goto 4, 3) := by decide +kernel
theorem d_TK_hasSort_26 : decode m_TK_hasSort.2.1 26 = .ok (.iconst 0, 1) := by decide +kernel
theorem d_TK_hasSort_27 : decode m_TK_hasSort.2.1 27 = .ok (.ireturn, 1) := by decide +kernel
theorem d_TK_bind_0 : decode m_TK_bind.2.1 0 = .ok (.aload_n 0, 1) := by decide +kernel
theorem d_TK_bind_1 : decode m_TK_bind.2.1 1 = .ok (.dup, 1) := by decide +kernel
theorem d_TK_bind_2 : decode m_TK_bind.2.1 2 = .ok (.getfield 25, 3) := by decide +kernel
theorem d_TK_bind_5 : decode m_TK_bind.2.1 5 = .ok (.iconst 1, 1) := by decide +kernel
theorem d_TK_bind_6 : decode m_TK_bind.2.1 6 = .ok (.isub, 1) := by decide +kernel
theorem d_TK_bind_7 : decode m_TK_bind.2.1 7 = .ok (.putfield 25, 3) := by decide +kernel
theorem d_TK_bind_10 : decode m_TK_bind.2.1 10 = .ok (.aload_n 1, 1) := by decide +kernel
theorem d_TK_bind_11 : decode m_TK_bind.2.1 11 = .ok (.aload_n 0, 1) := by decide +kernel
theorem d_TK_bind_12 : decode m_TK_bind.2.1 12 = .ok (.getfield 25, 3) := by decide +kernel
theorem d_TK_bind_15 : decode m_TK_bind.2.1 15 = .ok (.putfield 166, 3) := by decide +kernel
theorem d_TK_bind_18 : decode m_TK_bind.2.1 18 = .ok (.aload_n 1, 1) := by decide +kernel
theorem d_TK_bind_19 : decode m_TK_bind.2.1 19 = .ok (.getfield 64, 3) := by decide +kernel
theorem d_TK_bind_22 : decode m_TK_bind.2.1 22 = .ok (.aload_n 0, 1) := by decide +kernel
theorem d_TK_bind_23 : decode m_TK_bind.2.1 23 = .ok (.getfield 53, 3) := by decide +kernel
theorem d_TK_bind_26 : decode m_TK_bind.2.1 26 = .ok (.invokevirtual 81, 3) := by decide +kernel
theorem d_TK_bind_29 : decode m_TK_bind.2.1 29 = .ok (.aload_n 1, 1) := by decide +kernel
theorem d_TK_bind_30 : decode m_TK_bind.2.1 30 = .ok (.getfield 71, 3) := by decide +kernel
theorem d_TK_bind_33 : decode m_TK_bind.2.1 33 = .ok (.aload_n 0, 1) := by decide +kernel
theorem d_TK_bind_34 : decode m_TK_bind.2.1 34 = .ok (.getfield 56, 3) := by decide +kernel
theorem d_TK_bind_37 : decode m_TK_bind.2.1 37 = .ok (.invokevirtual 81, 3) := by decide +kernel
theorem d_TK_bind_40 : decode m_TK_bind.2.1 40 = .ok (.return_, 1) := by decide +kernel
theorem d_TK_isLeftSide_0 : decode m_TK_isLeftSide.2.1 0 = .ok (.aload_n 1, 1) := by decide +kernel
theorem d_TK_isLeftSide_1 : decode m_TK_isLeftSide.2.1 1 = .ok (.aload_n 1, 1) := by decide +kernel
theorem d_TK_isLeftSide_2 : decode m_TK_isLeftSide.2.1 2 = .ok (.iconst 0, 1) := by decide +kernel
theorem d_TK_isLeftSide_3 : decode m_TK_isLeftSide.2.1 3 = .ok (.invokevirtual 194, 3) := by decide +kernel
theorem d_TK_isLeftSide_6 : decode m_TK_isLeftSide.2.1 6 = .ok (.invokevirtual 107, 3) := by decide +kernel
theorem d_TK_isLeftSide_9 : decode m_TK_isLeftSide.2.1 9 = .ok (.istore_n 2, 1) := by decide +kernel
theorem d_TK_isLeftSide_10 : decode m_TK_isLeftSide.2.1 10 = .ok (.aload_n 0, 1) := by decide +kernel
theorem d_TK_isLeftSide_11 : decode m_TK_isLeftSide.2.1 11 = .ok (.iload_n 2, 1) := by decide +kernel
theorem d_TK_isLeftSide_12 : decode m_TK_isLeftSide.2.1 12 = .ok (.bipush 10, 2) := by decide +kernel
theorem d_TK_isLeftSide_14 : decode m_TK_isLeftSide.2.1 14 = .ok (.isub, 1) := by decide +kernel
theorem d_TK_isLeftSide_15 : decode m_TK_isLeftSide.2.1 15 = .ok (.invokevirtual 74, 3) := by decide +kernel
theorem d_TK_isLeftSide_18 : decode m_TK_isLeftSide.2.1 18 = .ok (.ifCond .eq 15, 3) := by decide +kernel
theorem d_TK_isLeftSide_21 : decode m_TK_isLeftSide.2.1 21 = .ok (.aload_n 0, 1) := by decide +kernel
theorem d_TK_isLeftSide_22 : decode m_TK_isLeftSide.2.1 22 = .ok (.getfield 31, 3) := by decide +kernel
theorem d_TK_isLeftSide_25 : decode m_TK_isLeftSide.2.1 25 = .ok (.iload_n 2, 1) := by decide +kernel
theorem d_TK_isLeftSide_26 : decode m_TK_isLeftSide.2.1 26 = .ok (.bipush 10, 2) := by decide +kernel
theorem d_TK_isLeftSide_28 : decode m_TK_isLeftSide.2.1 28 = .ok (.isub, 1) := by decide +kernel
theorem d_TK_isLeftSide_29 : decode m_TK_isLeftSide.2.1 29 = .ok (.baload, 1) := by decide +kernel
theorem d_TK_isLeftSide_30 : decode m_TK_isLeftSide.2.1 30 = .ok (.ifCond .ne 5, 3) := by decide +kernel
theorem d_TK_isLeftSide_33 : decode m_TK_isLeftSide.2.1 33 = .ok (.iconst 0, 1) := by decide +kernel
theorem d_TK_isLeftSide_34 : decode m_TK_isLeftSide.2.1 34 = .ok (.ireturn, 1) := by decide +kernel
theorem d_TK_isLeftSide_35 : decode m_TK_isLeftSide.2.1 35 = .ok (.iconst 0, 1) := by decide +kernel
theorem d_TK_isLeftSide_36 : decode m_TK_isLeftSide.2.1 36 = .ok (.istore_n 3, 1) := by decide +kernel
theorem d_TK_isLeftSide_37 : decode m_TK_isLeftSide.2.1 37 = .ok (.iload_n 3, 1) := by decide +kernel
theorem d_TK_isLeftSide_38 : decode m_TK_isLeftSide.2.1 38 = .ok (.aload_n 1, 1) := by decide +kernel
theorem d_TK_isLeftSide_39 : decode m_TK_isLeftSide.2.1 39 = .ok (.getfield 197, 3) := by decide +kernel
theorem d_TK_isLeftSide_42 : decode m_TK_isLeftSide.2.1 42 = .ok (.if_icmp .ge 19, 3) := by decide +kernel
theorem d_TK_isLeftSide_45 : decode m_TK_isLeftSide.2.1 45 = .ok (.aload_n 1, 1) := by decide +kernel
theorem d_TK_isLeftSide_46 : decode m_TK_isLeftSide.2.1 46 = .ok (.iload_n 3, 1) := by decide +kernel
theorem d_TK_isLeftSide_47 : decode m_TK_isLeftSide.2.1 47 = .ok (.invokestatic 200, 3) := by decide +kernel
theorem d_TK_isLeftSide_50 : decode m_TK_isLeftSide.2.1 50 = .ok (.ifCond .ne 5, 3) := by decide +kernel
theorem d_TK_isLeftSide_53 : decode m_TK_isLeftSide.2.1 53 = .ok (.iconst 0, 1) := by decide +kernel
theorem d_TK_isLeftSide_54 : decode m_TK_isLeftSide.2.1 54 = .ok (.ireturn, 1) := by decide +kernel
theorem d_TK_isLeftSide_55 : decode m_TK_isLeftSide.2.1 55 = .ok (.iinc 3 1, 3) := by decide +kernel
theorem d_TK_isLeftSide_58 : decode m_TK_isLeftSide.2.1 58 = .ok (.goto (-21), 3) := by decide +kernel
theorem d_TK_isLeftSide_61 : decode m_TK_isLeftSide.2.1 61 = .ok (.iconst 0, 1) := by decide +kernel
theorem d_TK_isLeftSide_62 : decode m_TK_isLeftSide.2.1 62 = .ok (.istore_n 3, 1) := by decide +kernel
theorem d_TK_isLeftSide_63 : decode m_TK_isLeftSide.2.1 63 = .ok (.iload_n 3, 1) := by decide +kernel
theorem d_TK_isLeftSide_64 : decode m_TK_isLeftSide.2.1 64 = .ok (.aload_n 0, 1) := by decide +kernel
theorem d_TK_isLeftSide_65 : decode m_TK_isLeftSide.2.1 65 = .ok (.getfield 25, 3) := by decide +kernel
theorem d_TK_isLeftSide_68 : decode m_TK_isLeftSide.2.1 68 = .ok (.if_icmp .ge 23, 3) := by decide +kernel
theorem d_TK_isLeftSide_71 : decode m_TK_isLeftSide.2.1 71 = .ok (.aload_n 1, 1) := by decide +kernel
theorem d_TK_isLeftSide_72 : decode m_TK_isLeftSide.2.1 72 = .ok (.bipush 100, 2) := by decide +kernel
theorem d_TK_isLeftSide_74 : decode m_TK_isLeftSide.2.1 74 = .ok (.iload_n 3, 1) := by decide +kernel
theorem d_TK_isLeftSide_75 : decode m_TK_isLeftSide.2.1 75 = .ok (.iadd, 1) := by decide +kernel
theorem d_TK_isLeftSide_76 : decode m_TK_isLeftSide.2.1 76 = .ok (.invokevirtual 204, 3) := by decide +kernel
theorem d_TK_isLeftSide_79 : decode m_TK_isLeftSide.2.1 79 = .ok (.iconst 1, 1) := by decide +kernel
theorem d_TK_isLeftSide_80 : decode m_TK_isLeftSide.2.1 80 = .ok (.if_icmp .eq 5, 3) := by decide +kernel
theorem d_TK_isLeftSide_83 : decode m_TK_isLeftSide.2.1 83 = .ok (.iconst 0, 1) := by decide +kernel
theorem d_TK_isLeftSide_84 : decode m_TK_isLeftSide.2.1 84 = .ok (.ireturn, 1) := by decide +kernel
theorem d_TK_isLeftSide_85 : decode m_TK_isLeftSide.2.1 85 = .ok (.iinc 3 1, 3) := by decide +kernel
theorem d_TK_isLeftSide_88 : decode m_TK_isLeftSide.2.1 88 = .ok (.goto (-25), 3) := by decide +kernel
theorem d_TK_isLeftSide_91 : decode m_TK_isLeftSide.2.1 91 = .ok (.iconst 1, 1) := by decide +kernel
theorem d_TK_isLeftSide_92 : decode m_TK_isLeftSide.2.1 92 = .ok (.ireturn, 1) := by decide +kernel
theorem d_TK_mayStandInPattern_0 : decode m_TK_mayStandInPattern.2.1 0 = .ok (.aload_n 0, 1) := by decide +kernel
theorem d_TK_mayStandInPattern_1 : decode m_TK_mayStandInPattern.2.1 1 = .ok (.iload_n 1, 1) := by decide +kernel
theorem d_TK_mayStandInPattern_2 : decode m_TK_mayStandInPattern.2.1 2 = .ok (.invokevirtual 107, 3) := by decide +kernel
theorem d_TK_mayStandInPattern_5 : decode m_TK_mayStandInPattern.2.1 5 = .ok (.istore_n 2, 1) := by decide +kernel
theorem d_TK_mayStandInPattern_6 : decode m_TK_mayStandInPattern.2.1 6 = .ok (.iload_n 2, 1) := by decide +kernel
theorem d_TK_mayStandInPattern_7 : decode m_TK_mayStandInPattern.2.1 7 = .ok (.bipush 100, 2) := by decide +kernel
theorem d_TK_mayStandInPattern_9 : decode m_TK_mayStandInPattern.2.1 9 = .ok (.if_icmp .lt 20, 3) := by decide +kernel
theorem d_TK_mayStandInPattern_12 : decode m_TK_mayStandInPattern.2.1 12 = .ok (.aload_n 0, 1) := by decide +kernel
theorem d_TK_mayStandInPattern_13 : decode m_TK_mayStandInPattern.2.1 13 = .ok (.iload_n 1, 1) := by decide +kernel
theorem d_TK_mayStandInPattern_14 : decode m_TK_mayStandInPattern.2.1 14 = .ok (.iconst 1, 1) := by decide +kernel
theorem d_TK_mayStandInPattern_15 : decode m_TK_mayStandInPattern.2.1 15 = .ok (.isub, 1) := by decide +kernel
theorem d_TK_mayStandInPattern_16 : decode m_TK_mayStandInPattern.2.1 16 = .ok (.invokevirtual 107, 3) := by decide +kernel
theorem d_TK_mayStandInPattern_19 : decode m_TK_mayStandInPattern.2.1 19 = .ok (.iconst 2, 1) := by decide +kernel
theorem d_TK_mayStandInPattern_20 : decode m_TK_mayStandInPattern.2.1 20 = .ok (.if_icmp .eq 7, 3) := by decide +kernel
theorem d_TK_mayStandInPattern_23 : decode m_TK_mayStandInPattern.2.1 23 = .ok (.iconst 1, 1) := by decide +kernel
theorem d_TK_mayStandInPattern_24 : decode m_TK_mayStandInPattern.2.1 24 = .ok (.goto 4, 3) := by decide +kernel
theorem d_TK_mayStandInPattern_27 : decode m_TK_mayStandInPattern.2.1 27 = .ok (.iconst 0, 1) := by decide +kernel
theorem d_TK_mayStandInPattern_28 : decode m_TK_mayStandInPattern.2.1 28 = .ok (.ireturn, 1) := by decide +kernel
theorem d_TK_mayStandInPattern_29 : decode m_TK_mayStandInPattern.2.1 29 = .ok (.iload_n 2, 1) := by decide +kernel
theorem d_TK_mayStandInPattern_30 : decode m_TK_mayStandInPattern.2.1 30 = .ok (.bipush 10, 2) := by decide +kernel
theorem d_TK_mayStandInPattern_32 : decode m_TK_mayStandInPattern.2.1 32 = .ok (.if_icmp .ge 8, 3) := by decide +kernel
theorem d_TK_mayStandInPattern_35 : decode m_TK_mayStandInPattern.2.1 35 = .ok (.iload_n 2, 1) := by decide +kernel
theorem d_TK_mayStandInPattern_36 : decode m_TK_mayStandInPattern.2.1 36 = .ok (.iconst 2, 1) := by decide +kernel
theorem d_TK_mayStandInPattern_37 : decode m_TK_mayStandInPattern.2.1 37 = .ok (.if_icmp .ne 7, 3) := by decide +kernel
theorem d_TK_mayStandInPattern_40 : decode m_TK_mayStandInPattern.2.1 40 = .ok (.iconst 1, 1) := by decide +kernel
theorem d_TK_mayStandInPattern_41 : decode m_TK_mayStandInPattern.2.1 41 = .ok (.goto 4, 3) := by decide +kernel
theorem d_TK_mayStandInPattern_44 : decode m_TK_mayStandInPattern.2.1 44 = .ok (.iconst 0, 1) := by decide +kernel
theorem d_TK_mayStandInPattern_45 : decode m_TK_mayStandInPattern.2.1 45 = .ok (.ireturn, 1) := by decide +kernel
end
section
theorem d_Md_init_0 : decode m_Md_init.2.1 0 = .ok (.aload_n 0, 1) := by decide +kernel
theorem d_Md_init_1 : decode m_Md_init.2.1 1 = .ok (.invokespecial 1, 3) := by decide +kernel
theorem d_Md_init_4 : decode m_Md_init.2.1 4 = .ok (.aload_n 0, 1) := by decide +kernel
theorem d_Md_init_5 : decode m_Md_init.2.1 5 = .ok (.sipush 1720, 3) := by decide +kernel
theorem d_Md_init_8 : decode m_Md_init.2.1 8 = .ok (.newarray .int, 2) := by decide +kernel
theorem d_Md_init_10 : decode m_Md_init.2.1 10 = .ok (.putfield 7, 3) := by decide +kernel
theorem d_Md_init_13 : decode m_Md_init.2.1 13 = .ok (.aload_n 0, 1) := by decide +kernel
theorem d_Md_init_14 : decode m_Md_init.2.1 14 = .ok (.bipush 43, 2) := by decide +kernel
theorem d_Md_init_16 : decode m_Md_init.2.1 16 = .ok (.newarray .int, 2) := by decide +kernel
theorem d_Md_init_18 : decode m_Md_init.2.1 18 = .ok (.putfield 13, 3) := by decide +kernel
theorem d_Md_init_21 : decode m_Md_init.2.1 21 = .ok (.aload_n 0, 1) := by decide +kernel
theorem d_Md_init_22 : decode m_Md_init.2.1 22 = .ok (.bipush 6, 2) := by decide +kernel
theorem d_Md_init_24 : decode m_Md_init.2.1 24 = .ok (.newarray .int, 2) := by decide +kernel
theorem d_Md_init_26 : decode m_Md_init.2.1 26 = .ok (.putfield 16, 3) := by decide +kernel
theorem d_Md_init_29 : decode m_Md_init.2.1 29 = .ok (.aload_n 0, 1) := by decide +kernel
theorem d_Md_init_30 : decode m_Md_init.2.1 30 = .ok (.bipush 8, 2) := by decide +kernel
theorem d_Md_init_32 : decode m_Md_init.2.1 32 = .ok (.newarray .boolean, 2) := by decide +kernel
theorem d_Md_init_34 : decode m_Md_init.2.1 34 = .ok (.putfield 19, 3) := by decide +kernel
theorem d_Md_init_37 : decode m_Md_init.2.1 37 = .ok (.aload_n 0, 1) := by decide +kernel
theorem d_Md_init_38 : decode m_Md_init.2.1 38 = .ok (.bipush 8, 2) := by decide +kernel
theorem d_Md_init_40 : decode m_Md_init.2.1 40 = .ok (.newarray .int, 2) := by decide +kernel
theorem d_Md_init_42 : decode m_Md_init.2.1 42 = .ok (.putfield 23, 3) := by decide +kernel
theorem d_Md_init_45 : decode m_Md_init.2.1 45 = .ok (.aload_n 0, 1) := by decide +kernel
theorem d_Md_init_46 : decode m_Md_init.2.1 46 = .ok (.bipush 40, 2) := by decide +kernel
theorem d_Md_init_48 : decode m_Md_init.2.1 48 = .ok (.newarray .int, 2) := by decide +kernel
theorem d_Md_init_50 : decode m_Md_init.2.1 50 = .ok (.putfield 26, 3) := by decide +kernel
theorem d_Md_init_53 : decode m_Md_init.2.1 53 = .ok (.aload_n 0, 1) := by decide +kernel
theorem d_Md_init_54 : decode m_Md_init.2.1 54 = .ok (.bipush 40, 2) := by decide +kernel
theorem d_Md_init_56 : decode m_Md_init.2.1 56 = .ok (.newarray .int, 2) := by decide +kernel
theorem d_Md_init_58 : decode m_Md_init.2.1 58 = .ok (.putfield 29, 3) := by decide +kernel
theorem d_Md_init_61 : decode m_Md_init.2.1 61 = .ok (.aload_n 0, 1) := by decide +kernel
theorem d_Md_init_62 : decode m_Md_init.2.1 62 = .ok (.bipush 48, 2) := by decide +kernel
theorem d_Md_init_64 : decode m_Md_init.2.1 64 = .ok (.newarray .int, 2) := by decide +kernel
theorem d_Md_init_66 : decode m_Md_init.2.1 66 = .ok (.putfield 32, 3) := by decide +kernel
theorem d_Md_init_69 : decode m_Md_init.2.1 69 = .ok (.aload_n 0, 1) := by decide +kernel
theorem d_Md_init_70 : decode m_Md_init.2.1 70 = .ok (.iconst 4, 1) := by decide +kernel
theorem d_Md_init_71 : decode m_Md_init.2.1 71 = .ok (.newarray .int, 2) := by decide +kernel
theorem d_Md_init_73 : decode m_Md_init.2.1 73 = .ok (.putfield 35, 3) := by decide +kernel
theorem d_Md_init_76 : decode m_Md_init.2.1 76 = .ok (.aload_n 0, 1) := by decide +kernel
theorem d_Md_init_77 : decode m_Md_init.2.1 77 = .ok (.iconst 4, 1) := by decide +kernel
theorem d_Md_init_78 : decode m_Md_init.2.1 78 = .ok (.newarray .int, 2) := by decide +kernel
theorem d_Md_init_80 : decode m_Md_init.2.1 80 = .ok (.putfield 38, 3) := by decide +kernel
theorem d_Md_init_83 : decode m_Md_init.2.1 83 = .ok (.return_, 1) := by decide +kernel
theorem d_Md_thrown_0 : decode m_Md_thrown.2.1 0 = .ok (.aload_n 0, 1) := by decide +kernel
theorem d_Md_thrown_1 : decode m_Md_thrown.2.1 1 = .ok (.getfield 41, 3) := by decide +kernel
theorem d_Md_thrown_4 : decode m_Md_thrown.2.1 4 = .ok (.ireturn, 1) := by decide +kernel
theorem d_Md_raise_0 : decode m_Md_raise.2.1 0 = .ok (.aload_n 0, 1) := by decide +kernel
theorem d_Md_raise_1 : decode m_Md_raise.2.1 1 = .ok (.iload_n 1, 1) := by decide +kernel
theorem d_Md_raise_2 : decode m_Md_raise.2.1 2 = .ok (.putfield 41, 3) := by decide +kernel
theorem d_Md_raise_5 : decode m_Md_raise.2.1 5 = .ok (.iconst 0, 1) := by decide +kernel
theorem d_Md_raise_6 : decode m_Md_raise.2.1 6 = .ok (.ireturn, 1) := by decide +kernel
theorem d_Md_at_0 : decode m_Md_at.2.1 0 = .ok (.aload_n 0, 1) := by decide +kernel
theorem d_Md_at_1 : decode m_Md_at.2.1 1 = .ok (.getfield 7, 3) := by decide +kernel
theorem d_Md_at_4 : decode m_Md_at.2.1 4 = .ok (.bipush 40, 2) := by decide +kernel
theorem d_Md_at_6 : decode m_Md_at.2.1 6 = .ok (.iload_n 1, 1) := by decide +kernel
theorem d_Md_at_7 : decode m_Md_at.2.1 7 = .ok (.imul, 1) := by decide +kernel
theorem d_Md_at_8 : decode m_Md_at.2.1 8 = .ok (.iload_n 2, 1) := by decide +kernel
theorem d_Md_at_9 : decode m_Md_at.2.1 9 = .ok (.iadd, 1) := by decide +kernel
theorem d_Md_at_10 : decode m_Md_at.2.1 10 = .ok (.iaload, 1) := by decide +kernel
theorem d_Md_at_11 : decode m_Md_at.2.1 11 = .ok (.ireturn, 1) := by decide +kernel
theorem d_Md_add_0 : decode m_Md_add.2.1 0 = .ok (.aload_n 0, 1) := by decide +kernel
theorem d_Md_add_1 : decode m_Md_add.2.1 1 = .ok (.getfield 13, 3) := by decide +kernel
theorem d_Md_add_4 : decode m_Md_add.2.1 4 = .ok (.iload_n 1, 1) := by decide +kernel
theorem d_Md_add_5 : decode m_Md_add.2.1 5 = .ok (.iaload, 1) := by decide +kernel
theorem d_Md_add_6 : decode m_Md_add.2.1 6 = .ok (.bipush 40, 2) := by decide +kernel
theorem d_Md_add_8 : decode m_Md_add.2.1 8 = .ok (.if_icmp .ne 9, 3) := by decide +kernel
theorem d_Md_add_11 : decode m_Md_add.2.1 11 = .ok (.aload_n 0, 1) := by decide +kernel
theorem d_Md_add_12 : decode m_Md_add.2.1 12 = .ok (.iconst 1, 1) := by decide +kernel
theorem d_Md_add_13 : decode m_Md_add.2.1 13 = .ok (.putfield 45, 3) := by decide +kernel
theorem d_Md_add_16 : decode m_Md_add.2.1 16 = .ok (.return_, 1) := by decide +kernel
theorem d_Md_add_17 : decode m_Md_add.2.1 17 = .ok (.aload_n 0, 1) := by decide +kernel
theorem d_Md_add_18 : decode m_Md_add.2.1 18 = .ok (.getfield 7, 3) := by decide +kernel
theorem d_Md_add_21 : decode m_Md_add.2.1 21 = .ok (.bipush 40, 2) := by decide +kernel
theorem d_Md_add_23 : decode m_Md_add.2.1 23 = .ok (.iload_n 1, 1) := by decide +kernel
theorem d_Md_add_24 : decode m_Md_add.2.1 24 = .ok (.imul, 1) := by decide +kernel
theorem d_Md_add_25 : decode m_Md_add.2.1 25 = .ok (.aload_n 0, 1) := by decide +kernel
theorem d_Md_add_26 : decode m_Md_add.2.1 26 = .ok (.getfield 13, 3) := by decide +kernel
theorem d_Md_add_29 : decode m_Md_add.2.1 29 = .ok (.iload_n 1, 1) := by decide +kernel
theorem d_Md_add_30 : decode m_Md_add.2.1 30 = .ok (.iaload, 1) := by decide +kernel
theorem d_Md_add_31 : decode m_Md_add.2.1 31 = .ok (.iadd, 1) := by decide +kernel
theorem d_Md_add_32 : decode m_Md_add.2.1 32 = .ok (.iload_n 2, 1) := by decide +kernel
theorem d_Md_add_33 : decode m_Md_add.2.1 33 = .ok (.iastore, 1) := by decide +kernel
theorem d_Md_add_34 : decode m_Md_add.2.1 34 = .ok (.aload_n 0, 1) := by decide +kernel
theorem d_Md_add_35 : decode m_Md_add.2.1 35 = .ok (.getfield 13, 3) := by decide +kernel
theorem d_Md_add_38 : decode m_Md_add.2.1 38 = .ok (.iload_n 1, 1) := by decide +kernel
theorem d_Md_add_39 : decode m_Md_add.2.1 39 = .ok (.dup2, 1) := by decide +kernel
theorem d_Md_add_40 : decode m_Md_add.2.1 40 = .ok (.iaload, 1) := by decide +kernel
theorem d_Md_add_41 : decode m_Md_add.2.1 41 = .ok (.iconst 1, 1) := by decide +kernel
theorem d_Md_add_42 : decode m_Md_add.2.1 42 = .ok (.iadd, 1) := by decide +kernel
theorem d_Md_add_43 : decode m_Md_add.2.1 43 = .ok (.iastore, 1) := by decide +kernel
theorem d_Md_add_44 : decode m_Md_add.2.1 44 = .ok (.return_, 1) := by decide +kernel
theorem d_Md_addRow_0 : decode m_Md_addRow.2.1 0 = .ok (.iconst 0, 1) := by decide +kernel
theorem d_Md_addRow_1 : decode m_Md_addRow.2.1 1 = .ok (.istore_n 3, 1) := by decide +kernel
theorem d_Md_addRow_2 : decode m_Md_addRow.2.1 2 = .ok (.iload_n 3, 1) := by decide +kernel
theorem d_Md_addRow_3 : decode m_Md_addRow.2.1 3 = .ok (.aload_n 0, 1) := by decide +kernel
theorem d_Md_addRow_4 : decode m_Md_addRow.2.1 4 = .ok (.getfield 13, 3) := by decide +kernel
theorem d_Md_addRow_7 : decode m_Md_addRow.2.1 7 = .ok (.iload_n 2, 1) := by decide +kernel
theorem d_Md_addRow_8 : decode m_Md_addRow.2.1 8 = .ok (.iaload, 1) := by decide +kernel
theorem d_Md_addRow_9 : decode m_Md_addRow.2.1 9 = .ok (.if_icmp .ge 20, 3) := by decide +kernel
theorem d_Md_addRow_12 : decode m_Md_addRow.2.1 12 = .ok (.aload_n 0, 1) := by decide +kernel
theorem d_Md_addRow_13 : decode m_Md_addRow.2.1 13 = .ok (.iload_n 1, 1) := by decide +kernel
theorem d_Md_addRow_14 : decode m_Md_addRow.2.1 14 = .ok (.aload_n 0, 1) := by decide +kernel
theorem d_Md_addRow_15 : decode m_Md_addRow.2.1 15 = .ok (.iload_n 2, 1) := by decide +kernel
theorem d_Md_addRow_16 : decode m_Md_addRow.2.1 16 = .ok (.iload_n 3, 1) := by decide +kernel
theorem d_Md_addRow_17 : decode m_Md_addRow.2.1 17 = .ok (.invokevirtual 49, 3) := by decide +kernel
theorem d_Md_addRow_20 : decode m_Md_addRow.2.1 20 = .ok (.invokevirtual 53, 3) := by decide +kernel
theorem d_Md_addRow_23 : decode m_Md_addRow.2.1 23 = .ok (.iinc 3 1, 3) := by decide +kernel
theorem d_Md_addRow_26 : decode m_Md_addRow.2.1 26 = .ok (.goto (-24), 3) := by decide +kernel
theorem d_Md_addRow_29 : decode m_Md_addRow.2.1 29 = .ok (.return_, 1) := by decide +kernel
theorem d_Md_copy_0 : decode m_Md_copy.2.1 0 = .ok (.aload_n 0, 1) := by decide +kernel
theorem d_Md_copy_1 : decode m_Md_copy.2.1 1 = .ok (.getfield 13, 3) := by decide +kernel
theorem d_Md_copy_4 : decode m_Md_copy.2.1 4 = .ok (.iload_n 2, 1) := by decide +kernel
theorem d_Md_copy_5 : decode m_Md_copy.2.1 5 = .ok (.iconst 0, 1) := by decide +kernel
theorem d_Md_copy_6 : decode m_Md_copy.2.1 6 = .ok (.iastore, 1) := by decide +kernel
theorem d_Md_copy_7 : decode m_Md_copy.2.1 7 = .ok (.aload_n 0, 1) := by decide +kernel
theorem d_Md_copy_8 : decode m_Md_copy.2.1 8 = .ok (.iload_n 2, 1) := by decide +kernel
theorem d_Md_copy_9 : decode m_Md_copy.2.1 9 = .ok (.iload_n 1, 1) := by decide +kernel
theorem d_Md_copy_10 : decode m_Md_copy.2.1 10 = .ok (.invokevirtual 57, 3) := by decide +kernel
theorem d_Md_copy_13 : decode m_Md_copy.2.1 13 = .ok (.return_, 1) := by decide +kernel
theorem d_Md_equal_0 : decode m_Md_equal.2.1 0 = .ok (.aload_n 0, 1) := by decide +kernel
theorem d_Md_equal_1 : decode m_Md_equal.2.1 1 = .ok (.getfield 13, 3) := by decide +kernel
theorem d_Md_equal_4 : decode m_Md_equal.2.1 4 = .ok (.iload_n 1, 1) := by decide +kernel
theorem d_Md_equal_5 : decode m_Md_equal.2.1 5 = .ok (.iaload, 1) := by decide +kernel
theorem d_Md_equal_6 : decode m_Md_equal.2.1 6 = .ok (.aload_n 0, 1) := by decide +kernel
theorem d_Md_equal_7 : decode m_Md_equal.2.1 7 = .ok (.getfield 13, 3) := by decide +kernel
theorem d_Md_equal_10 : decode m_Md_equal.2.1 10 = .ok (.iload_n 2, 1) := by decide +kernel
theorem d_Md_equal_11 : decode m_Md_equal.2.1 11 = .ok (.iaload, 1) := by decide +kernel
theorem d_Md_equal_12 : decode m_Md_equal.2.1 12 = .ok (.if_icmp .ne 7, 3) := by decide +kernel
theorem d_Md_equal_15 : decode m_Md_equal.2.1 15 = .ok (.iconst 1, 1) := by decide +kernel
theorem d_Md_equal_16 : decode m_Md_equal.2.1 16 = .ok (.goto 4, 3) := by decide +kernel
theorem d_Md_equal_19 : decode m_Md_equal.2.1 19 = .ok (.iconst 0, 1) := by decide +kernel
theorem d_Md_equal_20 : decode m_Md_equal.2.1 20 = .ok (.istore_n 3, 1) := by decide +kernel
theorem d_Md_equal_21 : decode m_Md_equal.2.1 21 = .ok (.iconst 0, 1) := by decide +kernel
theorem d_Md_equal_22 : decode m_Md_equal.2.1 22 = .ok (.istore 4, 2) := by decide +kernel
theorem d_Md_equal_24 : decode m_Md_equal.2.1 24 = .ok (.iload 4, 2) := by decide +kernel
theorem d_Md_equal_26 : decode m_Md_equal.2.1 26 = .ok (.aload_n 0, 1) := by decide +kernel
theorem d_Md_equal_27 : decode m_Md_equal.2.1 27 = .ok (.getfield 13, 3) := by decide +kernel
theorem d_Md_equal_30 : decode m_Md_equal.2.1 30 = .ok (.iload_n 1, 1) := by decide +kernel
theorem d_Md_equal_31 : decode m_Md_equal.2.1 31 = .ok (.iaload, 1) := by decide +kernel
theorem d_Md_equal_32 : decode m_Md_equal.2.1 32 = .ok (.if_icmp .ge 36, 3) := by decide +kernel
theorem d_Md_equal_35 : decode m_Md_equal.2.1 35 = .ok (.iload_n 3, 1) := by decide +kernel
theorem d_Md_equal_36 : decode m_Md_equal.2.1 36 = .ok (.ifCond .eq 32, 3) := by decide +kernel
theorem d_Md_equal_39 : decode m_Md_equal.2.1 39 = .ok (.aload_n 0, 1) := by decide +kernel
theorem d_Md_equal_40 : decode m_Md_equal.2.1 40 = .ok (.iload_n 1, 1) := by decide +kernel
theorem d_Md_equal_41 : decode m_Md_equal.2.1 41 = .ok (.iload 4, 2) := by decide +kernel
theorem d_Md_equal_43 : decode m_Md_equal.2.1 43 = .ok (.invokevirtual 49, 3) := by decide +kernel
theorem d_Md_equal_46 : decode m_Md_equal.2.1 46 = .ok (.aload_n 0, 1) := by decide +kernel
theorem d_Md_equal_47 : decode m_Md_equal.2.1 47 = .ok (.iload_n 2, 1) := by decide +kernel
theorem d_Md_equal_48 : decode m_Md_equal.2.1 48 = .ok (.iload 4, 2) := by decide +kernel
theorem d_Md_equal_50 : decode m_Md_equal.2.1 50 = .ok (.invokevirtual 49, 3) := by decide +kernel
theorem d_Md_equal_53 : decode m_Md_equal.2.1 53 = .ok (.if_icmp .ne 7, 3) := by decide +kernel
theorem d_Md_equal_56 : decode m_Md_equal.2.1 56 = .ok (.iconst 1, 1) := by decide +kernel
theorem d_Md_equal_57 : decode m_Md_equal.2.1 57 = .ok (.goto 4, 3) := by decide +kernel
theorem d_Md_equal_60 : decode m_Md_equal.2.1 60 = .ok (.iconst 0, 1) := by decide +kernel
theorem d_Md_equal_61 : decode m_Md_equal.2.1 61 = .ok (.istore_n 3, 1) := by decide +kernel
theorem d_Md_equal_62 : decode m_Md_equal.2.1 62 = .ok (.iinc 4 1, 3) := by decide +kernel
theorem d_Md_equal_65 : decode m_Md_equal.2.1 65 = .ok (.goto (-41), 3) := by decide +kernel
theorem d_Md_equal_68 : decode m_Md_equal.2.1 68 = .ok (.iload_n 3, 1) := by decide +kernel
theorem d_Md_equal_69 : decode m_Md_equal.2.1 69 = .ok (.ireturn, 1) := by decide +kernel
theorem d_Md_isOne_0 : decode m_Md_isOne.2.1 0 = .ok (.aload_n 0, 1) := by decide +kernel
theorem d_Md_isOne_1 : decode m_Md_isOne.2.1 1 = .ok (.getfield 13, 3) := by decide +kernel
theorem d_Md_isOne_4 : decode m_Md_isOne.2.1 4 = .ok (.iload_n 1, 1) := by decide +kernel
theorem d_Md_isOne_5 : decode m_Md_isOne.2.1 5 = .ok (.iaload, 1) := by decide +kernel
theorem d_Md_isOne_6 : decode m_Md_isOne.2.1 6 = .ok (.iconst 1, 1) := by decide +kernel
theorem d_Md_isOne_7 : decode m_Md_isOne.2.1 7 = .ok (.if_icmp .ne 17, 3) := by decide +kernel
theorem d_Md_isOne_10 : decode m_Md_isOne.2.1 10 = .ok (.aload_n 0, 1) := by decide +kernel
theorem d_Md_isOne_11 : decode m_Md_isOne.2.1 11 = .ok (.iload_n 1, 1) := by decide +kernel
theorem d_Md_isOne_12 : decode m_Md_isOne.2.1 12 = .ok (.iconst 0, 1) := by decide +kernel
theorem d_Md_isOne_13 : decode m_Md_isOne.2.1 13 = .ok (.invokevirtual 49, 3) := by decide +kernel
theorem d_Md_isOne_16 : decode m_Md_isOne.2.1 16 = .ok (.iload_n 2, 1) := by decide +kernel
theorem d_Md_isOne_17 : decode m_Md_isOne.2.1 17 = .ok (.if_icmp .ne 7, 3) := by decide +kernel
theorem d_Md_isOne_20 : decode m_Md_isOne.2.1 20 = .ok (.iconst 1, 1) := by decide +kernel
theorem d_Md_isOne_21 : decode m_Md_isOne.2.1 21 = .ok (.goto 4, 3) := by decide +kernel
theorem d_Md_isOne_24 : decode m_Md_isOne.2.1 24 = .ok (.iconst 0, 1) := by decide +kernel
theorem d_Md_isOne_25 : decode m_Md_isOne.2.1 25 = .ok (.ireturn, 1) := by decide +kernel
theorem d_Md_isPair_0 : decode m_Md_isPair.2.1 0 = .ok (.iload_n 0, 1) := by decide +kernel
theorem d_Md_isPair_1 : decode m_Md_isPair.2.1 1 = .ok (.iconst 2, 1) := by decide +kernel
theorem d_Md_isPair_2 : decode m_Md_isPair.2.1 2 = .ok (.if_icmp .lt 12, 3) := by decide +kernel
theorem d_Md_isPair_5 : decode m_Md_isPair.2.1 5 = .ok (.iload_n 0, 1) := by decide +kernel
theorem d_Md_isPair_6 : decode m_Md_isPair.2.1 6 = .ok (.iconst 4, 1) := by decide +kernel
theorem d_Md_isPair_7 : decode m_Md_isPair.2.1 7 = .ok (.if_icmp .gt 7, 3) := by decide +kernel
theorem d_Md_isPair_10 : decode m_Md_isPair.2.1 10 = .ok (.iconst 1, 1) := by decide +kernel
theorem d_Md_isPair_11 : decode m_Md_isPair.2.1 11 = .ok (.goto 4, 3) := by decide +kernel
theorem d_Md_isPair_14 : decode m_Md_isPair.2.1 14 = .ok (.iconst 0, 1) := by decide +kernel
theorem d_Md_isPair_15 : decode m_Md_isPair.2.1 15 = .ok (.ireturn, 1) := by decide +kernel
theorem d_Md_end_0 : decode m_Md_end.2.1 0 = .ok (.iconst 1, 1) := by decide +kernel
theorem d_Md_end_1 : decode m_Md_end.2.1 1 = .ok (.istore_n 3, 1) := by decide +kernel
theorem d_Md_end_2 : decode m_Md_end.2.1 2 = .ok (.iload_n 2, 1) := by decide +kernel
theorem d_Md_end_3 : decode m_Md_end.2.1 3 = .ok (.istore 4, 2) := by decide +kernel
theorem d_Md_end_5 : decode m_Md_end.2.1 5 = .ok (.iload_n 3, 1) := by decide +kernel
theorem d_Md_end_6 : decode m_Md_end.2.1 6 = .ok (.ifCond .le 30, 3) := by decide +kernel
theorem d_Md_end_9 : decode m_Md_end.2.1 9 = .ok (.iload_n 3, 1) := by decide +kernel
theorem d_Md_end_10 : decode m_Md_end.2.1 10 = .ok (.aload_n 0, 1) := by decide +kernel
theorem d_Md_end_11 : decode m_Md_end.2.1 11 = .ok (.iload_n 1, 1) := by decide +kernel
theorem d_Md_end_12 : decode m_Md_end.2.1 12 = .ok (.iload 4, 2) := by decide +kernel
theorem d_Md_end_14 : decode m_Md_end.2.1 14 = .ok (.invokevirtual 49, 3) := by decide +kernel
theorem d_Md_end_17 : decode m_Md_end.2.1 17 = .ok (.invokestatic 60, 3) := by decide +kernel
theorem d_Md_end_20 : decode m_Md_end.2.1 20 = .ok (.ifCond .eq 7, 3) := by decide +kernel
theorem d_Md_end_23 : decode m_Md_end.2.1 23 = .ok (.iconst 1, 1) := by decide +kernel
theorem d_Md_end_24 : decode m_Md_end.2.1 24 = .ok (.goto 4, 3) := by decide +kernel
theorem d_Md_end_27 : decode m_Md_end.2.1 27 = .ok (.iconst (-1), 1) := by decide +kernel
theorem d_Md_end_28 : decode m_Md_end.2.1 28 = .ok (.iadd, 1) := by decide +kernel
theorem d_Md_end_29 : decode m_Md_end.2.1 29 = .ok (.istore_n 3, 1) := by decide +kernel
theorem d_Md_end_30 : decode m_Md_end.2.1 30 = .ok (.iinc 4 1, 3) := by decide +kernel
theorem d_Md_end_33 : decode m_Md_end.2.1 33 = .ok (.goto (-28), 3) := by decide +kernel
theorem d_Md_end_36 : decode m_Md_end.2.1 36 = .ok (.iload 4, 2) := by decide +kernel
theorem d_Md_end_38 : decode m_Md_end.2.1 38 = .ok (.ireturn, 1) := by decide +kernel
theorem d_Md_measure_0 : decode m_Md_measure.2.1 0 = .ok (.iconst 1, 1) := by decide +kernel
theorem d_Md_measure_1 : decode m_Md_measure.2.1 1 = .ok (.istore_n 3, 1) := by decide +kernel
theorem d_Md_measure_2 : decode m_Md_measure.2.1 2 = .ok (.aload_n 0, 1) := by decide +kernel
theorem d_Md_measure_3 : decode m_Md_measure.2.1 3 = .ok (.getfield 32, 3) := by decide +kernel
theorem d_Md_measure_6 : decode m_Md_measure.2.1 6 = .ok (.iconst 0, 1) := by decide +kernel
theorem d_Md_measure_7 : decode m_Md_measure.2.1 7 = .ok (.iconst 0, 1) := by decide +kernel
theorem d_Md_measure_8 : decode m_Md_measure.2.1 8 = .ok (.iastore, 1) := by decide +kernel
theorem d_Md_measure_9 : decode m_Md_measure.2.1 9 = .ok (.iconst 0, 1) := by decide +kernel
theorem d_Md_measure_10 : decode m_Md_measure.2.1 10 = .ok (.istore 4, 2) := by decide +kernel
theorem d_Md_measure_12 : decode m_Md_measure.2.1 12 = .ok (.iload 4, 2) := by decide +kernel
theorem d_Md_measure_14 : decode m_Md_measure.2.1 14 = .ok (.aload_n 0, 1) := by decide +kernel
theorem d_Md_measure_15 : decode m_Md_measure.2.1 15 = .ok (.getfield 13, 3) := by decide +kernel
theorem d_Md_measure_18 : decode m_Md_measure.2.1 18 = .ok (.iload_n 1, 1) := by decide +kernel
theorem d_Md_measure_19 : decode m_Md_measure.2.1 19 = .ok (.iaload, 1) := by decide +kernel
theorem d_Md_measure_20 : decode m_Md_measure.2.1 20 = .ok (.if_icmp .ge 96, 3) := by decide +kernel
theorem d_Md_measure_23 : decode m_Md_measure.2.1 23 = .ok (.iinc 3 (-1), 3) := by decide +kernel
theorem d_Md_measure_26 : decode m_Md_measure.2.1 26 = .ok (.aload_n 0, 1) := by decide +kernel
theorem d_Md_measure_27 : decode m_Md_measure.2.1 27 = .ok (.getfield 32, 3) := by decide +kernel
theorem d_Md_measure_30 : decode m_Md_measure.2.1 30 = .ok (.iload_n 3, 1) := by decide +kernel
theorem d_Md_measure_31 : decode m_Md_measure.2.1 31 = .ok (.iaload, 1) := by decide +kernel
theorem d_Md_measure_32 : decode m_Md_measure.2.1 32 = .ok (.istore 5, 2) := by decide +kernel
theorem d_Md_measure_34 : decode m_Md_measure.2.1 34 = .ok (.aload_n 0, 1) := by decide +kernel
theorem d_Md_measure_35 : decode m_Md_measure.2.1 35 = .ok (.iload_n 1, 1) := by decide +kernel
theorem d_Md_measure_36 : decode m_Md_measure.2.1 36 = .ok (.iload 4, 2) := by decide +kernel
theorem d_Md_measure_38 : decode m_Md_measure.2.1 38 = .ok (.invokevirtual 49, 3) := by decide +kernel
theorem d_Md_measure_41 : decode m_Md_measure.2.1 41 = .ok (.istore 6, 2) := by decide +kernel
theorem d_Md_measure_43 : decode m_Md_measure.2.1 43 = .ok (.iload_n 2, 1) := by decide +kernel
theorem d_Md_measure_44 : decode m_Md_measure.2.1 44 = .ok (.ifCond .eq 15, 3) := by decide +kernel
theorem d_Md_measure_47 : decode m_Md_measure.2.1 47 = .ok (.aload_n 0, 1) := by decide +kernel
theorem d_Md_measure_48 : decode m_Md_measure.2.1 48 = .ok (.getfield 29, 3) := by decide +kernel
theorem d_Md_measure_51 : decode m_Md_measure.2.1 51 = .ok (.iload 4, 2) := by decide +kernel
theorem d_Md_measure_53 : decode m_Md_measure.2.1 53 = .ok (.iload 5, 2) := by decide +kernel
theorem d_Md_measure_55 : decode m_Md_measure.2.1 55 = .ok (.iastore, 1) := by decide +kernel
theorem d_Md_measure_56 : decode m_Md_measure.2.1 56 = .ok (.goto 12, 3) := by decide +kernel
theorem d_Md_measure_59 : decode m_Md_measure.2.1 59 = .ok (.aload_n 0, 1) := by decide +kernel
theorem d_Md_measure_60 : decode m_Md_measure.2.1 60 = .ok (.getfield 26, 3) := by decide +kernel
theorem d_Md_measure_63 : decode m_Md_measure.2.1 63 = .ok (.iload 4, 2) := by decide +kernel
theorem d_Md_measure_65 : decode m_Md_measure.2.1 65 = .ok (.iload 5, 2) := by decide +kernel
theorem d_Md_measure_67 : decode m_Md_measure.2.1 67 = .ok (.iastore, 1) := by decide +kernel
theorem d_Md_measure_68 : decode m_Md_measure.2.1 68 = .ok (.iload 6, 2) := by decide +kernel
theorem d_Md_measure_70 : decode m_Md_measure.2.1 70 = .ok (.invokestatic 60, 3) := by decide +kernel
theorem d_Md_measure_73 : decode m_Md_measure.2.1 73 = .ok (.ifCond .eq 37, 3) := by decide +kernel
theorem d_Md_measure_76 : decode m_Md_measure.2.1 76 = .ok (.aload_n 0, 1) := by decide +kernel
theorem d_Md_measure_77 : decode m_Md_measure.2.1 77 = .ok (.getfield 32, 3) := by decide +kernel
theorem d_Md_measure_80 : decode m_Md_measure.2.1 80 = .ok (.iload_n 3, 1) := by decide +kernel
theorem d_Md_measure_81 : decode m_Md_measure.2.1 81 = .ok (.iload 6, 2) := by decide +kernel
theorem d_Md_measure_83 : decode m_Md_measure.2.1 83 = .ok (.iconst 2, 1) := by decide +kernel
theorem d_Md_measure_84 : decode m_Md_measure.2.1 84 = .ok (.if_icmp .ne 8, 3) := by decide +kernel
theorem d_Md_measure_87 : decode m_Md_measure.2.1 87 = .ok (.iload 5, 2) := by decide +kernel
theorem d_Md_measure_89 : decode m_Md_measure.2.1 89 = .ok (.goto 7, 3) := by decide +kernel
theorem d_Md_measure_92 : decode m_Md_measure.2.1 92 = .ok (.iload 5, 2) := by decide +kernel
theorem d_Md_measure_94 : decode m_Md_measure.2.1 94 = .ok (.iconst 1, 1) := by decide +kernel
theorem d_Md_measure_95 : decode m_Md_measure.2.1 95 = .ok (.iadd, 1) := by decide +kernel
theorem d_Md_measure_96 : decode m_Md_measure.2.1 96 = .ok (.iastore, 1) := by decide +kernel
theorem d_Md_measure_97 : decode m_Md_measure.2.1 97 = .ok (.aload_n 0, 1) := by decide +kernel
theorem d_Md_measure_98 : decode m_Md_measure.2.1 98 = .ok (.getfield 32, 3) := by decide +kernel
theorem d_Md_measure_101 : decode m_Md_measure.2.1 101 = .ok (.iload_n 3, 1) := by decide +kernel
theorem d_Md_measure_102 : decode m_Md_measure.2.1 102 = .ok (.iconst 1, 1) := by decide +kernel
theorem d_Md_measure_103 : decode m_Md_measure.2.1 103 = .ok (.iadd, 1) := by decide +kernel
theorem d_Md_measure_104 : decode m_Md_measure.2.1 104 = .ok (.iload 5, 2) := by decide +kernel
theorem d_Md_measure_106 : decode m_Md_measure.2.1 106 = .ok (.iastore, 1) := by decide +kernel
theorem d_Md_measure_107 : decode m_Md_measure.2.1 107 = .ok (.iinc 3 2, 3) := by decide +kernel
theorem d_Md_measure_110 : decode m_Md_measure.2.1 110 = .ok (.iinc 4 1, 3) := by decide +kernel
theorem d_Md_measure_113 : decode m_Md_measure.2.1 113 = .ok (.goto (-101), 3) := by decide +kernel
theorem d_Md_measure_116 : decode m_Md_measure.2.1 116 = .ok (.return_, 1) := by decide +kernel
theorem d_Md_addShifted_0 : decode m_Md_addShifted.2.1 0 = .ok (.iload_n 3, 1) := by decide +kernel
theorem d_Md_addShifted_1 : decode m_Md_addShifted.2.1 1 = .ok (.istore 6, 2) := by decide +kernel
theorem d_Md_addShifted_3 : decode m_Md_addShifted.2.1 3 = .ok (.iload 6, 2) := by decide +kernel
theorem d_Md_addShifted_5 : decode m_Md_addShifted.2.1 5 = .ok (.iload 4, 2) := by decide +kernel
theorem d_Md_addShifted_7 : decode m_Md_addShifted.2.1 7 = .ok (.if_icmp .ge 55, 3) := by decide +kernel
theorem d_Md_addShifted_10 : decode m_Md_addShifted.2.1 10 = .ok (.aload_n 0, 1) := by decide +kernel
theorem d_Md_addShifted_11 : decode m_Md_addShifted.2.1 11 = .ok (.iload_n 2, 1) := by decide +kernel
theorem d_Md_addShifted_12 : decode m_Md_addShifted.2.1 12 = .ok (.iload 6, 2) := by decide +kernel
theorem d_Md_addShifted_14 : decode m_Md_addShifted.2.1 14 = .ok (.invokevirtual 49, 3) := by decide +kernel
theorem d_Md_addShifted_17 : decode m_Md_addShifted.2.1 17 = .ok (.istore 7, 2) := by decide +kernel
theorem d_Md_addShifted_19 : decode m_Md_addShifted.2.1 19 = .ok (.aload_n 0, 1) := by decide +kernel
theorem d_Md_addShifted_20 : decode m_Md_addShifted.2.1 20 = .ok (.iload_n 1, 1) := by decide +kernel
theorem d_Md_addShifted_21 : decode m_Md_addShifted.2.1 21 = .ok (.iload 7, 2) := by decide +kernel
theorem d_Md_addShifted_23 : decode m_Md_addShifted.2.1 23 = .ok (.bipush 100, 2) := by decide +kernel
theorem d_Md_addShifted_25 : decode m_Md_addShifted.2.1 25 = .ok (.aload_n 0, 1) := by decide +kernel
theorem d_Md_addShifted_26 : decode m_Md_addShifted.2.1 26 = .ok (.getfield 26, 3) := by decide +kernel
theorem d_Md_addShifted_29 : decode m_Md_addShifted.2.1 29 = .ok (.iload 6, 2) := by decide +kernel
theorem d_Md_addShifted_31 : decode m_Md_addShifted.2.1 31 = .ok (.iaload, 1) := by decide +kernel
theorem d_Md_addShifted_32 : decode m_Md_addShifted.2.1 32 = .ok (.iadd, 1) := by decide +kernel
theorem d_Md_addShifted_33 : decode m_Md_addShifted.2.1 33 = .ok (.aload_n 0, 1) := by decide +kernel
theorem d_Md_addShifted_34 : decode m_Md_addShifted.2.1 34 = .ok (.getfield 26, 3) := by decide +kernel
theorem d_Md_addShifted_37 : decode m_Md_addShifted.2.1 37 = .ok (.iload_n 3, 1) := by decide +kernel
theorem d_Md_addShifted_38 : decode m_Md_addShifted.2.1 38 = .ok (.iaload, 1) := by decide +kernel
theorem d_Md_addShifted_39 : decode m_Md_addShifted.2.1 39 = .ok (.isub, 1) := by decide +kernel
theorem d_Md_addShifted_40 : decode m_Md_addShifted.2.1 40 = .ok (.if_icmp .lt 11, 3) := by decide +kernel
theorem d_Md_addShifted_43 : decode m_Md_addShifted.2.1 43 = .ok (.iload 7, 2) := by decide +kernel
theorem d_Md_addShifted_45 : decode m_Md_addShifted.2.1 45 = .ok (.iload 5, 2) := by decide +kernel
theorem d_Md_addShifted_47 : decode m_Md_addShifted.2.1 47 = .ok (.iadd, 1) := by decide +kernel
theorem d_Md_addShifted_48 : decode m_Md_addShifted.2.1 48 = .ok (.goto 5, 3) := by decide +kernel
theorem d_Md_addShifted_51 : decode m_Md_addShifted.2.1 51 = .ok (.iload 7, 2) := by decide +kernel
theorem d_Md_addShifted_53 : decode m_Md_addShifted.2.1 53 = .ok (.invokevirtual 53, 3) := by decide +kernel
theorem d_Md_addShifted_56 : decode m_Md_addShifted.2.1 56 = .ok (.iinc 6 1, 3) := by decide +kernel
theorem d_Md_addShifted_59 : decode m_Md_addShifted.2.1 59 = .ok (.goto (-56), 3) := by decide +kernel
theorem d_Md_addShifted_62 : decode m_Md_addShifted.2.1 62 = .ok (.return_, 1) := by decide +kernel
theorem d_Md_addPut_0 : decode m_Md_addPut.2.1 0 = .ok (.iload_n 3, 1) := by decide +kernel
theorem d_Md_addPut_1 : decode m_Md_addPut.2.1 1 = .ok (.istore 7, 2) := by decide +kernel
theorem d_Md_addPut_3 : decode m_Md_addPut.2.1 3 = .ok (.iload 7, 2) := by decide +kernel
theorem d_Md_addPut_5 : decode m_Md_addPut.2.1 5 = .ok (.iload 4, 2) := by decide +kernel
theorem d_Md_addPut_7 : decode m_Md_addPut.2.1 7 = .ok (.if_icmp .ge 88, 3) := by decide +kernel
theorem d_Md_addPut_10 : decode m_Md_addPut.2.1 10 = .ok (.aload_n 0, 1) := by decide +kernel
theorem d_Md_addPut_11 : decode m_Md_addPut.2.1 11 = .ok (.iload_n 2, 1) := by decide +kernel
theorem d_Md_addPut_12 : decode m_Md_addPut.2.1 12 = .ok (.iload 7, 2) := by decide +kernel
theorem d_Md_addPut_14 : decode m_Md_addPut.2.1 14 = .ok (.invokevirtual 49, 3) := by decide +kernel
theorem d_Md_addPut_17 : decode m_Md_addPut.2.1 17 = .ok (.istore 8, 2) := by decide +kernel
theorem d_Md_addPut_19 : decode m_Md_addPut.2.1 19 = .ok (.bipush 100, 2) := by decide +kernel
theorem d_Md_addPut_21 : decode m_Md_addPut.2.1 21 = .ok (.aload_n 0, 1) := by decide +kernel
theorem d_Md_addPut_22 : decode m_Md_addPut.2.1 22 = .ok (.getfield 26, 3) := by decide +kernel
theorem d_Md_addPut_25 : decode m_Md_addPut.2.1 25 = .ok (.iload 7, 2) := by decide +kernel
theorem d_Md_addPut_27 : decode m_Md_addPut.2.1 27 = .ok (.iaload, 1) := by decide +kernel
theorem d_Md_addPut_28 : decode m_Md_addPut.2.1 28 = .ok (.iadd, 1) := by decide +kernel
theorem d_Md_addPut_29 : decode m_Md_addPut.2.1 29 = .ok (.aload_n 0, 1) := by decide +kernel
theorem d_Md_addPut_30 : decode m_Md_addPut.2.1 30 = .ok (.getfield 26, 3) := by decide +kernel
theorem d_Md_addPut_33 : decode m_Md_addPut.2.1 33 = .ok (.iload_n 3, 1) := by decide +kernel
theorem d_Md_addPut_34 : decode m_Md_addPut.2.1 34 = .ok (.iaload, 1) := by decide +kernel
theorem d_Md_addPut_35 : decode m_Md_addPut.2.1 35 = .ok (.isub, 1) := by decide +kernel
theorem d_Md_addPut_36 : decode m_Md_addPut.2.1 36 = .ok (.istore 9, 2) := by decide +kernel
theorem d_Md_addPut_38 : decode m_Md_addPut.2.1 38 = .ok (.iload 8, 2) := by decide +kernel
theorem d_Md_addPut_40 : decode m_Md_addPut.2.1 40 = .ok (.iload 9, 2) := by decide +kernel
theorem d_Md_addPut_42 : decode m_Md_addPut.2.1 42 = .ok (.if_icmp .ge 13, 3) := by decide +kernel
theorem d_Md_addPut_45 : decode m_Md_addPut.2.1 45 = .ok (.aload_n 0, 1) := by decide +kernel
theorem d_Md_addPut_46 : decode m_Md_addPut.2.1 46 = .ok (.iload_n 1, 1) := by decide +kernel
theorem d_Md_addPut_47 : decode m_Md_addPut.2.1 47 = .ok (.iload 8, 2) := by decide +kernel
theorem d_Md_addPut_49 : decode m_Md_addPut.2.1 49 = .ok (.invokevirtual 53, 3) := by decide +kernel
theorem d_Md_addPut_52 : decode m_Md_addPut.2.1 52 = .ok (.goto 37, 3) := by decide +kernel
theorem d_Md_addPut_55 : decode m_Md_addPut.2.1 55 = .ok (.iload 8, 2) := by decide +kernel
theorem d_Md_addPut_57 : decode m_Md_addPut.2.1 57 = .ok (.iload 9, 2) := by decide +kernel
theorem d_Md_addPut_59 : decode m_Md_addPut.2.1 59 = .ok (.if_icmp .ne 21, 3) := by decide +kernel
theorem d_Md_addPut_62 : decode m_Md_addPut.2.1 62 = .ok (.aload_n 0, 1) := by decide +kernel
theorem d_Md_addPut_63 : decode m_Md_addPut.2.1 63 = .ok (.iload_n 1, 1) := by decide +kernel
theorem d_Md_addPut_64 : decode m_Md_addPut.2.1 64 = .ok (.iload_n 2, 1) := by decide +kernel
theorem d_Md_addPut_65 : decode m_Md_addPut.2.1 65 = .ok (.iload 5, 2) := by decide +kernel
theorem d_Md_addPut_67 : decode m_Md_addPut.2.1 67 = .ok (.iload 6, 2) := by decide +kernel
theorem d_Md_addPut_69 : decode m_Md_addPut.2.1 69 = .ok (.iload 8, 2) := by decide +kernel
theorem d_Md_addPut_71 : decode m_Md_addPut.2.1 71 = .ok (.bipush 100, 2) := by decide +kernel
theorem d_Md_addPut_73 : decode m_Md_addPut.2.1 73 = .ok (.isub, 1) := by decide +kernel
theorem d_Md_addPut_74 : decode m_Md_addPut.2.1 74 = .ok (.invokevirtual 64, 3) := by decide +kernel
theorem d_Md_addPut_77 : decode m_Md_addPut.2.1 77 = .ok (.goto 12, 3) := by decide +kernel
theorem d_Md_addPut_80 : decode m_Md_addPut.2.1 80 = .ok (.aload_n 0, 1) := by decide +kernel
theorem d_Md_addPut_81 : decode m_Md_addPut.2.1 81 = .ok (.iload_n 1, 1) := by decide +kernel
theorem d_Md_addPut_82 : decode m_Md_addPut.2.1 82 = .ok (.iload 8, 2) := by decide +kernel
theorem d_Md_addPut_84 : decode m_Md_addPut.2.1 84 = .ok (.iconst 1, 1) := by decide +kernel
theorem d_Md_addPut_85 : decode m_Md_addPut.2.1 85 = .ok (.isub, 1) := by decide +kernel
theorem d_Md_addPut_86 : decode m_Md_addPut.2.1 86 = .ok (.invokevirtual 53, 3) := by decide +kernel
theorem d_Md_addPut_89 : decode m_Md_addPut.2.1 89 = .ok (.iinc 7 1, 3) := by decide +kernel
theorem d_Md_addPut_92 : decode m_Md_addPut.2.1 92 = .ok (.goto (-89), 3) := by decide +kernel
theorem d_Md_addPut_95 : decode m_Md_addPut.2.1 95 = .ok (.return_, 1) := by decide +kernel
theorem d_Md_matches_0 : decode m_Md_matches.2.1 0 = .ok (.iload_n 2, 1) := by decide +kernel
theorem d_Md_matches_1 : decode m_Md_matches.2.1 1 = .ok (.istore_n 3, 1) := by decide +kernel
theorem d_Md_matches_2 : decode m_Md_matches.2.1 2 = .ok (.iconst 0, 1) := by decide +kernel
theorem d_Md_matches_3 : decode m_Md_matches.2.1 3 = .ok (.istore 4, 2) := by decide +kernel
theorem d_Md_matches_5 : decode m_Md_matches.2.1 5 = .ok (.iload 4, 2) := by decide +kernel
theorem d_Md_matches_7 : decode m_Md_matches.2.1 7 = .ok (.aload_n 0, 1) := by decide +kernel
theorem d_Md_matches_8 : decode m_Md_matches.2.1 8 = .ok (.getfield 13, 3) := by decide +kernel
theorem d_Md_matches_11 : decode m_Md_matches.2.1 11 = .ok (.bipush 24, 2) := by decide +kernel
theorem d_Md_matches_13 : decode m_Md_matches.2.1 13 = .ok (.iload_n 1, 1) := by decide +kernel
theorem d_Md_matches_14 : decode m_Md_matches.2.1 14 = .ok (.iadd, 1) := by decide +kernel
theorem d_Md_matches_15 : decode m_Md_matches.2.1 15 = .ok (.iaload, 1) := by decide +kernel
theorem d_Md_matches_16 : decode m_Md_matches.2.1 16 = .ok (.if_icmp .ge 78, 3) := by decide +kernel
theorem d_Md_matches_19 : decode m_Md_matches.2.1 19 = .ok (.aload_n 0, 1) := by decide +kernel
theorem d_Md_matches_20 : decode m_Md_matches.2.1 20 = .ok (.bipush 24, 2) := by decide +kernel
theorem d_Md_matches_22 : decode m_Md_matches.2.1 22 = .ok (.iload_n 1, 1) := by decide +kernel
theorem d_Md_matches_23 : decode m_Md_matches.2.1 23 = .ok (.iadd, 1) := by decide +kernel
theorem d_Md_matches_24 : decode m_Md_matches.2.1 24 = .ok (.iload 4, 2) := by decide +kernel
theorem d_Md_matches_26 : decode m_Md_matches.2.1 26 = .ok (.invokevirtual 49, 3) := by decide +kernel
theorem d_Md_matches_29 : decode m_Md_matches.2.1 29 = .ok (.istore 5, 2) := by decide +kernel
theorem d_Md_matches_31 : decode m_Md_matches.2.1 31 = .ok (.iload 5, 2) := by decide +kernel
theorem d_Md_matches_33 : decode m_Md_matches.2.1 33 = .ok (.bipush 100, 2) := by decide +kernel
theorem d_Md_matches_35 : decode m_Md_matches.2.1 35 = .ok (.if_icmp .lt 36, 3) := by decide +kernel
theorem d_Md_matches_38 : decode m_Md_matches.2.1 38 = .ok (.aload_n 0, 1) := by decide +kernel
theorem d_Md_matches_39 : decode m_Md_matches.2.1 39 = .ok (.getfield 35, 3) := by decide +kernel
theorem d_Md_matches_42 : decode m_Md_matches.2.1 42 = .ok (.iload 5, 2) := by decide +kernel
theorem d_Md_matches_44 : decode m_Md_matches.2.1 44 = .ok (.bipush 100, 2) := by decide +kernel
theorem d_Md_matches_46 : decode m_Md_matches.2.1 46 = .ok (.isub, 1) := by decide +kernel
theorem d_Md_matches_47 : decode m_Md_matches.2.1 47 = .ok (.iload_n 3, 1) := by decide +kernel
theorem d_Md_matches_48 : decode m_Md_matches.2.1 48 = .ok (.iastore, 1) := by decide +kernel
theorem d_Md_matches_49 : decode m_Md_matches.2.1 49 = .ok (.aload_n 0, 1) := by decide +kernel
theorem d_Md_matches_50 : decode m_Md_matches.2.1 50 = .ok (.bipush 40, 2) := by decide +kernel
theorem d_Md_matches_52 : decode m_Md_matches.2.1 52 = .ok (.iload_n 3, 1) := by decide +kernel
theorem d_Md_matches_53 : decode m_Md_matches.2.1 53 = .ok (.invokevirtual 68, 3) := by decide +kernel
theorem d_Md_matches_56 : decode m_Md_matches.2.1 56 = .ok (.istore_n 3, 1) := by decide +kernel
theorem d_Md_matches_57 : decode m_Md_matches.2.1 57 = .ok (.aload_n 0, 1) := by decide +kernel
theorem d_Md_matches_58 : decode m_Md_matches.2.1 58 = .ok (.getfield 38, 3) := by decide +kernel
theorem d_Md_matches_61 : decode m_Md_matches.2.1 61 = .ok (.iload 5, 2) := by decide +kernel
theorem d_Md_matches_63 : decode m_Md_matches.2.1 63 = .ok (.bipush 100, 2) := by decide +kernel
theorem d_Md_matches_65 : decode m_Md_matches.2.1 65 = .ok (.isub, 1) := by decide +kernel
theorem d_Md_matches_66 : decode m_Md_matches.2.1 66 = .ok (.iload_n 3, 1) := by decide +kernel
theorem d_Md_matches_67 : decode m_Md_matches.2.1 67 = .ok (.iastore, 1) := by decide +kernel
theorem d_Md_matches_68 : decode m_Md_matches.2.1 68 = .ok (.goto 20, 3) := by decide +kernel
theorem d_Md_matches_71 : decode m_Md_matches.2.1 71 = .ok (.aload_n 0, 1) := by decide +kernel
theorem d_Md_matches_72 : decode m_Md_matches.2.1 72 = .ok (.bipush 40, 2) := by decide +kernel
theorem d_Md_matches_74 : decode m_Md_matches.2.1 74 = .ok (.iload_n 3, 1) := by decide +kernel
theorem d_Md_matches_75 : decode m_Md_matches.2.1 75 = .ok (.invokevirtual 49, 3) := by decide +kernel
theorem d_Md_matches_78 : decode m_Md_matches.2.1 78 = .ok (.iload 5, 2) := by decide +kernel
theorem d_Md_matches_80 : decode m_Md_matches.2.1 80 = .ok (.if_icmp .eq 5, 3) := by decide +kernel
theorem d_Md_matches_83 : decode m_Md_matches.2.1 83 = .ok (.iconst 0, 1) := by decide +kernel
theorem d_Md_matches_84 : decode m_Md_matches.2.1 84 = .ok (.ireturn, 1) := by decide +kernel
theorem d_Md_matches_85 : decode m_Md_matches.2.1 85 = .ok (.iinc 3 1, 3) := by decide +kernel
theorem d_Md_matches_88 : decode m_Md_matches.2.1 88 = .ok (.iinc 4 1, 3) := by decide +kernel
theorem d_Md_matches_91 : decode m_Md_matches.2.1 91 = .ok (.goto (-86), 3) := by decide +kernel
theorem d_Md_matches_94 : decode m_Md_matches.2.1 94 = .ok (.iconst 1, 1) := by decide +kernel
theorem d_Md_matches_95 : decode m_Md_matches.2.1 95 = .ok (.ireturn, 1) := by decide +kernel
theorem d_Md_addResult_0 : decode m_Md_addResult.2.1 0 = .ok (.bipush 32, 2) := by decide +kernel
theorem d_Md_addResult_2 : decode m_Md_addResult.2.1 2 = .ok (.iload_n 1, 1) := by decide +kernel
theorem d_Md_addResult_3 : decode m_Md_addResult.2.1 3 = .ok (.iadd, 1) := by decide +kernel
theorem d_Md_addResult_4 : decode m_Md_addResult.2.1 4 = .ok (.istore_n 2, 1) := by decide +kernel
theorem d_Md_addResult_5 : decode m_Md_addResult.2.1 5 = .ok (.aload_n 0, 1) := by decide +kernel
theorem d_Md_addResult_6 : decode m_Md_addResult.2.1 6 = .ok (.iload_n 2, 1) := by decide +kernel
theorem d_Md_addResult_7 : decode m_Md_addResult.2.1 7 = .ok (.iconst 1, 1) := by decide +kernel
theorem d_Md_addResult_8 : decode m_Md_addResult.2.1 8 = .ok (.invokevirtual 71, 3) := by decide +kernel
theorem d_Md_addResult_11 : decode m_Md_addResult.2.1 11 = .ok (.iconst 0, 1) := by decide +kernel
theorem d_Md_addResult_12 : decode m_Md_addResult.2.1 12 = .ok (.istore_n 3, 1) := by decide +kernel
theorem d_Md_addResult_13 : decode m_Md_addResult.2.1 13 = .ok (.iload_n 3, 1) := by decide +kernel
theorem d_Md_addResult_14 : decode m_Md_addResult.2.1 14 = .ok (.aload_n 0, 1) := by decide +kernel
theorem d_Md_addResult_15 : decode m_Md_addResult.2.1 15 = .ok (.getfield 13, 3) := by decide +kernel
theorem d_Md_addResult_18 : decode m_Md_addResult.2.1 18 = .ok (.iload_n 2, 1) := by decide +kernel
theorem d_Md_addResult_19 : decode m_Md_addResult.2.1 19 = .ok (.iaload, 1) := by decide +kernel
theorem d_Md_addResult_20 : decode m_Md_addResult.2.1 20 = .ok (.if_icmp .ge 82, 3) := by decide +kernel
theorem d_Md_addResult_23 : decode m_Md_addResult.2.1 23 = .ok (.aload_n 0, 1) := by decide +kernel
theorem d_Md_addResult_24 : decode m_Md_addResult.2.1 24 = .ok (.iload_n 2, 1) := by decide +kernel
theorem d_Md_addResult_25 : decode m_Md_addResult.2.1 25 = .ok (.iload_n 3, 1) := by decide +kernel
theorem d_Md_addResult_26 : decode m_Md_addResult.2.1 26 = .ok (.invokevirtual 49, 3) := by decide +kernel
theorem d_Md_addResult_29 : decode m_Md_addResult.2.1 29 = .ok (.istore 4, 2) := by decide +kernel
theorem d_Md_addResult_31 : decode m_Md_addResult.2.1 31 = .ok (.iload 4, 2) := by decide +kernel
theorem d_Md_addResult_33 : decode m_Md_addResult.2.1 33 = .ok (.bipush 100, 2) := by decide +kernel
theorem d_Md_addResult_35 : decode m_Md_addResult.2.1 35 = .ok (.isub, 1) := by decide +kernel
theorem d_Md_addResult_36 : decode m_Md_addResult.2.1 36 = .ok (.aload_n 0, 1) := by decide +kernel
theorem d_Md_addResult_37 : decode m_Md_addResult.2.1 37 = .ok (.getfield 29, 3) := by decide +kernel
theorem d_Md_addResult_40 : decode m_Md_addResult.2.1 40 = .ok (.iload_n 3, 1) := by decide +kernel
theorem d_Md_addResult_41 : decode m_Md_addResult.2.1 41 = .ok (.iaload, 1) := by decide +kernel
theorem d_Md_addResult_42 : decode m_Md_addResult.2.1 42 = .ok (.isub, 1) := by decide +kernel
theorem d_Md_addResult_43 : decode m_Md_addResult.2.1 43 = .ok (.istore 5, 2) := by decide +kernel
theorem d_Md_addResult_45 : decode m_Md_addResult.2.1 45 = .ok (.iload 4, 2) := by decide +kernel
theorem d_Md_addResult_47 : decode m_Md_addResult.2.1 47 = .ok (.bipush 100, 2) := by decide +kernel
theorem d_Md_addResult_49 : decode m_Md_addResult.2.1 49 = .ok (.if_icmp .lt 39, 3) := by decide +kernel
theorem d_Md_addResult_52 : decode m_Md_addResult.2.1 52 = .ok (.iload 5, 2) := by decide +kernel
theorem d_Md_addResult_54 : decode m_Md_addResult.2.1 54 = .ok (.ifCond .lt 34, 3) := by decide +kernel
theorem d_Md_addResult_57 : decode m_Md_addResult.2.1 57 = .ok (.aload_n 0, 1) := by decide +kernel
theorem d_Md_addResult_58 : decode m_Md_addResult.2.1 58 = .ok (.bipush 41, 2) := by decide +kernel
theorem d_Md_addResult_60 : decode m_Md_addResult.2.1 60 = .ok (.bipush 40, 2) := by decide +kernel
theorem d_Md_addResult_62 : decode m_Md_addResult.2.1 62 = .ok (.aload_n 0, 1) := by decide +kernel
theorem d_Md_addResult_63 : decode m_Md_addResult.2.1 63 = .ok (.getfield 35, 3) := by decide +kernel
theorem d_Md_addResult_66 : decode m_Md_addResult.2.1 66 = .ok (.iload 5, 2) := by decide +kernel
theorem d_Md_addResult_68 : decode m_Md_addResult.2.1 68 = .ok (.iaload, 1) := by decide +kernel
theorem d_Md_addResult_69 : decode m_Md_addResult.2.1 69 = .ok (.aload_n 0, 1) := by decide +kernel
theorem d_Md_addResult_70 : decode m_Md_addResult.2.1 70 = .ok (.getfield 38, 3) := by decide +kernel
theorem d_Md_addResult_73 : decode m_Md_addResult.2.1 73 = .ok (.iload 5, 2) := by decide +kernel
theorem d_Md_addResult_75 : decode m_Md_addResult.2.1 75 = .ok (.iaload, 1) := by decide +kernel
theorem d_Md_addResult_76 : decode m_Md_addResult.2.1 76 = .ok (.aload_n 0, 1) := by decide +kernel
theorem d_Md_addResult_77 : decode m_Md_addResult.2.1 77 = .ok (.getfield 29, 3) := by decide +kernel
theorem d_Md_addResult_80 : decode m_Md_addResult.2.1 80 = .ok (.iload_n 3, 1) := by decide +kernel
theorem d_Md_addResult_81 : decode m_Md_addResult.2.1 81 = .ok (.iaload, 1) := by decide +kernel
theorem d_Md_addResult_82 : decode m_Md_addResult.2.1 82 = .ok (.invokevirtual 64, 3) := by decide +kernel
theorem d_Md_addResult_85 : decode m_Md_addResult.2.1 85 = .ok (.goto 11, 3) := by decide +kernel
theorem d_Md_addResult_88 : decode m_Md_addResult.2.1 88 = .ok (.aload_n 0, 1) := by decide +kernel
theorem d_Md_addResult_89 : decode m_Md_addResult.2.1 89 = .ok (.bipush 41, 2) := by decide +kernel
theorem d_Md_addResult_91 : decode m_Md_addResult.2.1 91 = .ok (.iload 4, 2) := by decide +kernel
theorem d_Md_addResult_93 : decode m_Md_addResult.2.1 93 = .ok (.invokevirtual 53, 3) := by decide +kernel
theorem d_Md_addResult_96 : decode m_Md_addResult.2.1 96 = .ok (.iinc 3 1, 3) := by decide +kernel
theorem d_Md_addResult_99 : decode m_Md_addResult.2.1 99 = .ok (.goto (-86), 3) := by decide +kernel
theorem d_Md_addResult_102 : decode m_Md_addResult.2.1 102 = .ok (.return_, 1) := by decide +kernel
theorem d_Md_redex_0 : decode m_Md_redex.2.1 0 = .ok (.aload_n 0, 1) := by decide +kernel
theorem d_Md_redex_1 : decode m_Md_redex.2.1 1 = .ok (.bipush 40, 2) := by decide +kernel
theorem d_Md_redex_3 : decode m_Md_redex.2.1 3 = .ok (.iload_n 1, 1) := by decide +kernel
theorem d_Md_redex_4 : decode m_Md_redex.2.1 4 = .ok (.invokevirtual 49, 3) := by decide +kernel
theorem d_Md_redex_7 : decode m_Md_redex.2.1 7 = .ok (.iconst 2, 1) := by decide +kernel
theorem d_Md_redex_8 : decode m_Md_redex.2.1 8 = .ok (.if_icmp .ne 18, 3) := by decide +kernel
theorem d_Md_redex_11 : decode m_Md_redex.2.1 11 = .ok (.aload_n 0, 1) := by decide +kernel
theorem d_Md_redex_12 : decode m_Md_redex.2.1 12 = .ok (.bipush 40, 2) := by decide +kernel
theorem d_Md_redex_14 : decode m_Md_redex.2.1 14 = .ok (.iload_n 1, 1) := by decide +kernel
theorem d_Md_redex_15 : decode m_Md_redex.2.1 15 = .ok (.iconst 1, 1) := by decide +kernel
theorem d_Md_redex_16 : decode m_Md_redex.2.1 16 = .ok (.iadd, 1) := by decide +kernel
theorem d_Md_redex_17 : decode m_Md_redex.2.1 17 = .ok (.invokevirtual 49, 3) := by decide +kernel
theorem d_Md_redex_20 : decode m_Md_redex.2.1 20 = .ok (.iconst 3, 1) := by decide +kernel
theorem d_Md_redex_21 : decode m_Md_redex.2.1 21 = .ok (.if_icmp .ne 5, 3) := by decide +kernel
theorem d_Md_redex_24 : decode m_Md_redex.2.1 24 = .ok (.iconst (-1), 1) := by decide +kernel
theorem d_Md_redex_25 : decode m_Md_redex.2.1 25 = .ok (.ireturn, 1) := by decide +kernel
theorem d_Md_redex_26 : decode m_Md_redex.2.1 26 = .ok (.iconst 0, 1) := by decide +kernel
theorem d_Md_redex_27 : decode m_Md_redex.2.1 27 = .ok (.istore_n 2, 1) := by decide +kernel
theorem d_Md_redex_28 : decode m_Md_redex.2.1 28 = .ok (.iload_n 2, 1) := by decide +kernel
theorem d_Md_redex_29 : decode m_Md_redex.2.1 29 = .ok (.aload_n 0, 1) := by decide +kernel
theorem d_Md_redex_30 : decode m_Md_redex.2.1 30 = .ok (.getfield 75, 3) := by decide +kernel
theorem d_Md_redex_33 : decode m_Md_redex.2.1 33 = .ok (.if_icmp .ge 20, 3) := by decide +kernel
theorem d_Md_redex_36 : decode m_Md_redex.2.1 36 = .ok (.aload_n 0, 1) := by decide +kernel
theorem d_Md_redex_37 : decode m_Md_redex.2.1 37 = .ok (.iload_n 2, 1) := by decide +kernel
theorem d_Md_redex_38 : decode m_Md_redex.2.1 38 = .ok (.iload_n 1, 1) := by decide +kernel
theorem d_Md_redex_39 : decode m_Md_redex.2.1 39 = .ok (.invokevirtual 78, 3) := by decide +kernel
theorem d_Md_redex_42 : decode m_Md_redex.2.1 42 = .ok (.ifCond .eq 5, 3) := by decide +kernel
theorem d_Md_redex_45 : decode m_Md_redex.2.1 45 = .ok (.iload_n 2, 1) := by decide +kernel
theorem d_Md_redex_46 : decode m_Md_redex.2.1 46 = .ok (.ireturn, 1) := by decide +kernel
theorem d_Md_redex_47 : decode m_Md_redex.2.1 47 = .ok (.iinc 2 1, 3) := by decide +kernel
theorem d_Md_redex_50 : decode m_Md_redex.2.1 50 = .ok (.goto (-22), 3) := by decide +kernel
theorem d_Md_redex_53 : decode m_Md_redex.2.1 53 = .ok (.bipush (-2), 2) := by decide +kernel
theorem d_Md_redex_55 : decode m_Md_redex.2.1 55 = .ok (.ireturn, 1) := by decide +kernel
theorem d_Md_step_0 : decode m_Md_step.2.1 0 = .ok (.aload_n 0, 1) := by decide +kernel
theorem d_Md_step_1 : decode m_Md_step.2.1 1 = .ok (.bipush 40, 2) := by decide +kernel
theorem d_Md_step_3 : decode m_Md_step.2.1 3 = .ok (.iconst 0, 1) := by decide +kernel
theorem d_Md_step_4 : decode m_Md_step.2.1 4 = .ok (.invokevirtual 71, 3) := by decide +kernel
theorem d_Md_step_7 : decode m_Md_step.2.1 7 = .ok (.aload_n 0, 1) := by decide +kernel
theorem d_Md_step_8 : decode m_Md_step.2.1 8 = .ok (.getfield 13, 3) := by decide +kernel
theorem d_Md_step_11 : decode m_Md_step.2.1 11 = .ok (.bipush 41, 2) := by decide +kernel
theorem d_Md_step_13 : decode m_Md_step.2.1 13 = .ok (.iconst 0, 1) := by decide +kernel
theorem d_Md_step_14 : decode m_Md_step.2.1 14 = .ok (.iastore, 1) := by decide +kernel
theorem d_Md_step_15 : decode m_Md_step.2.1 15 = .ok (.iconst 0, 1) := by decide +kernel
theorem d_Md_step_16 : decode m_Md_step.2.1 16 = .ok (.istore_n 3, 1) := by decide +kernel
theorem d_Md_step_17 : decode m_Md_step.2.1 17 = .ok (.iload_n 3, 1) := by decide +kernel
theorem d_Md_step_18 : decode m_Md_step.2.1 18 = .ok (.iload_n 1, 1) := by decide +kernel
theorem d_Md_step_19 : decode m_Md_step.2.1 19 = .ok (.if_icmp .ge 22, 3) := by decide +kernel
theorem d_Md_step_22 : decode m_Md_step.2.1 22 = .ok (.aload_n 0, 1) := by decide +kernel
theorem d_Md_step_23 : decode m_Md_step.2.1 23 = .ok (.bipush 41, 2) := by decide +kernel
theorem d_Md_step_25 : decode m_Md_step.2.1 25 = .ok (.aload_n 0, 1) := by decide +kernel
theorem d_Md_step_26 : decode m_Md_step.2.1 26 = .ok (.bipush 40, 2) := by decide +kernel
theorem d_Md_step_28 : decode m_Md_step.2.1 28 = .ok (.iload_n 3, 1) := by decide +kernel
theorem d_Md_step_29 : decode m_Md_step.2.1 29 = .ok (.invokevirtual 49, 3) := by decide +kernel
theorem d_Md_step_32 : decode m_Md_step.2.1 32 = .ok (.invokevirtual 53, 3) := by decide +kernel
theorem d_Md_step_35 : decode m_Md_step.2.1 35 = .ok (.iinc 3 1, 3) := by decide +kernel
theorem d_Md_step_38 : decode m_Md_step.2.1 38 = .ok (.goto (-21), 3) := by decide +kernel
theorem d_Md_step_41 : decode m_Md_step.2.1 41 = .ok (.aload_n 0, 1) := by decide +kernel
theorem d_Md_step_42 : decode m_Md_step.2.1 42 = .ok (.bipush 40, 2) := by decide +kernel
theorem d_Md_step_44 : decode m_Md_step.2.1 44 = .ok (.iload_n 1, 1) := by decide +kernel
theorem d_Md_step_45 : decode m_Md_step.2.1 45 = .ok (.invokevirtual 68, 3) := by decide +kernel
theorem d_Md_step_48 : decode m_Md_step.2.1 48 = .ok (.istore_n 3, 1) := by decide +kernel
theorem d_Md_step_49 : decode m_Md_step.2.1 49 = .ok (.iload_n 2, 1) := by decide +kernel
theorem d_Md_step_50 : decode m_Md_step.2.1 50 = .ok (.iconst (-1), 1) := by decide +kernel
theorem d_Md_step_51 : decode m_Md_step.2.1 51 = .ok (.if_icmp .ne 42, 3) := by decide +kernel
theorem d_Md_step_54 : decode m_Md_step.2.1 54 = .ok (.aload_n 0, 1) := by decide +kernel
theorem d_Md_step_55 : decode m_Md_step.2.1 55 = .ok (.bipush 40, 2) := by decide +kernel
theorem d_Md_step_57 : decode m_Md_step.2.1 57 = .ok (.iload_n 1, 1) := by decide +kernel
theorem d_Md_step_58 : decode m_Md_step.2.1 58 = .ok (.iconst 2, 1) := by decide +kernel
theorem d_Md_step_59 : decode m_Md_step.2.1 59 = .ok (.iadd, 1) := by decide +kernel
theorem d_Md_step_60 : decode m_Md_step.2.1 60 = .ok (.invokevirtual 68, 3) := by decide +kernel
theorem d_Md_step_63 : decode m_Md_step.2.1 63 = .ok (.istore 4, 2) := by decide +kernel
theorem d_Md_step_65 : decode m_Md_step.2.1 65 = .ok (.aload_n 0, 1) := by decide +kernel
theorem d_Md_step_66 : decode m_Md_step.2.1 66 = .ok (.bipush 40, 2) := by decide +kernel
theorem d_Md_step_68 : decode m_Md_step.2.1 68 = .ok (.iload 4, 2) := by decide +kernel
theorem d_Md_step_70 : decode m_Md_step.2.1 70 = .ok (.invokevirtual 68, 3) := by decide +kernel
theorem d_Md_step_73 : decode m_Md_step.2.1 73 = .ok (.istore 5, 2) := by decide +kernel
theorem d_Md_step_75 : decode m_Md_step.2.1 75 = .ok (.aload_n 0, 1) := by decide +kernel
theorem d_Md_step_76 : decode m_Md_step.2.1 76 = .ok (.bipush 41, 2) := by decide +kernel
theorem d_Md_step_78 : decode m_Md_step.2.1 78 = .ok (.bipush 40, 2) := by decide +kernel
theorem d_Md_step_80 : decode m_Md_step.2.1 80 = .ok (.iload 4, 2) := by decide +kernel
theorem d_Md_step_82 : decode m_Md_step.2.1 82 = .ok (.iload 5, 2) := by decide +kernel
theorem d_Md_step_84 : decode m_Md_step.2.1 84 = .ok (.iload 5, 2) := by decide +kernel
theorem d_Md_step_86 : decode m_Md_step.2.1 86 = .ok (.iload_n 3, 1) := by decide +kernel
theorem d_Md_step_87 : decode m_Md_step.2.1 87 = .ok (.invokevirtual 82, 3) := by decide +kernel
theorem d_Md_step_90 : decode m_Md_step.2.1 90 = .ok (.goto 8, 3) := by decide +kernel
theorem d_Md_step_93 : decode m_Md_step.2.1 93 = .ok (.aload_n 0, 1) := by decide +kernel
theorem d_Md_step_94 : decode m_Md_step.2.1 94 = .ok (.iload_n 2, 1) := by decide +kernel
theorem d_Md_step_95 : decode m_Md_step.2.1 95 = .ok (.invokevirtual 86, 3) := by decide +kernel
theorem d_Md_step_98 : decode m_Md_step.2.1 98 = .ok (.iload_n 3, 1) := by decide +kernel
theorem d_Md_step_99 : decode m_Md_step.2.1 99 = .ok (.istore 4, 2) := by decide +kernel
theorem d_Md_step_101 : decode m_Md_step.2.1 101 = .ok (.iload 4, 2) := by decide +kernel
theorem d_Md_step_103 : decode m_Md_step.2.1 103 = .ok (.aload_n 0, 1) := by decide +kernel
theorem d_Md_step_104 : decode m_Md_step.2.1 104 = .ok (.getfield 13, 3) := by decide +kernel
theorem d_Md_step_107 : decode m_Md_step.2.1 107 = .ok (.bipush 40, 2) := by decide +kernel
theorem d_Md_step_109 : decode m_Md_step.2.1 109 = .ok (.iaload, 1) := by decide +kernel
theorem d_Md_step_110 : decode m_Md_step.2.1 110 = .ok (.if_icmp .ge 23, 3) := by decide +kernel
theorem d_Md_step_113 : decode m_Md_step.2.1 113 = .ok (.aload_n 0, 1) := by decide +kernel
theorem d_Md_step_114 : decode m_Md_step.2.1 114 = .ok (.bipush 41, 2) := by decide +kernel
theorem d_Md_step_116 : decode m_Md_step.2.1 116 = .ok (.aload_n 0, 1) := by decide +kernel
theorem d_Md_step_117 : decode m_Md_step.2.1 117 = .ok (.bipush 40, 2) := by decide +kernel
theorem d_Md_step_119 : decode m_Md_step.2.1 119 = .ok (.iload 4, 2) := by decide +kernel
theorem d_Md_step_121 : decode m_Md_step.2.1 121 = .ok (.invokevirtual 49, 3) := by decide +kernel
theorem d_Md_step_124 : decode m_Md_step.2.1 124 = .ok (.invokevirtual 53, 3) := by decide +kernel
theorem d_Md_step_127 : decode m_Md_step.2.1 127 = .ok (.iinc 4 1, 3) := by decide +kernel
theorem d_Md_step_130 : decode m_Md_step.2.1 130 = .ok (.goto (-29), 3) := by decide +kernel
theorem d_Md_step_133 : decode m_Md_step.2.1 133 = .ok (.aload_n 0, 1) := by decide +kernel
theorem d_Md_step_134 : decode m_Md_step.2.1 134 = .ok (.bipush 41, 2) := by decide +kernel
theorem d_Md_step_136 : decode m_Md_step.2.1 136 = .ok (.bipush 40, 2) := by decide +kernel
theorem d_Md_step_138 : decode m_Md_step.2.1 138 = .ok (.invokevirtual 90, 3) := by decide +kernel
theorem d_Md_step_141 : decode m_Md_step.2.1 141 = .ok (.return_, 1) := by decide +kernel
theorem d_Md_normalise_0 : decode m_Md_normalise.2.1 0 = .ok (.iconst 0, 1) := by decide +kernel
theorem d_Md_normalise_1 : decode m_Md_normalise.2.1 1 = .ok (.istore_n 1, 1) := by decide +kernel
theorem d_Md_normalise_2 : decode m_Md_normalise.2.1 2 = .ok (.iconst 0, 1) := by decide +kernel
theorem d_Md_normalise_3 : decode m_Md_normalise.2.1 3 = .ok (.istore_n 2, 1) := by decide +kernel
theorem d_Md_normalise_4 : decode m_Md_normalise.2.1 4 = .ok (.iload_n 2, 1) := by decide +kernel
theorem d_Md_normalise_5 : decode m_Md_normalise.2.1 5 = .ok (.aload_n 0, 1) := by decide +kernel
theorem d_Md_normalise_6 : decode m_Md_normalise.2.1 6 = .ok (.getfield 13, 3) := by decide +kernel
theorem d_Md_normalise_9 : decode m_Md_normalise.2.1 9 = .ok (.bipush 40, 2) := by decide +kernel
theorem d_Md_normalise_11 : decode m_Md_normalise.2.1 11 = .ok (.iaload, 1) := by decide +kernel
theorem d_Md_normalise_12 : decode m_Md_normalise.2.1 12 = .ok (.if_icmp .ge 56, 3) := by decide +kernel
theorem d_Md_normalise_15 : decode m_Md_normalise.2.1 15 = .ok (.aload_n 0, 1) := by decide +kernel
theorem d_Md_normalise_16 : decode m_Md_normalise.2.1 16 = .ok (.getfield 45, 3) := by decide +kernel
theorem d_Md_normalise_19 : decode m_Md_normalise.2.1 19 = .ok (.ifCond .ne 49, 3) := by decide +kernel
theorem d_Md_normalise_22 : decode m_Md_normalise.2.1 22 = .ok (.aload_n 0, 1) := by decide +kernel
theorem d_Md_normalise_23 : decode m_Md_normalise.2.1 23 = .ok (.iload_n 2, 1) := by decide +kernel
theorem d_Md_normalise_24 : decode m_Md_normalise.2.1 24 = .ok (.invokevirtual 93, 3) := by decide +kernel
theorem d_Md_normalise_27 : decode m_Md_normalise.2.1 27 = .ok (.istore_n 3, 1) := by decide +kernel
theorem d_Md_normalise_28 : decode m_Md_normalise.2.1 28 = .ok (.iload_n 3, 1) := by decide +kernel
theorem d_Md_normalise_29 : decode m_Md_normalise.2.1 29 = .ok (.bipush (-2), 2) := by decide +kernel
theorem d_Md_normalise_31 : decode m_Md_normalise.2.1 31 = .ok (.if_icmp .ne 9, 3) := by decide +kernel
theorem d_Md_normalise_34 : decode m_Md_normalise.2.1 34 = .ok (.iinc 2 1, 3) := by decide +kernel
theorem d_Md_normalise_37 : decode m_Md_normalise.2.1 37 = .ok (.goto 28, 3) := by decide +kernel
theorem d_Md_normalise_40 : decode m_Md_normalise.2.1 40 = .ok (.iload_n 1, 1) := by decide +kernel
theorem d_Md_normalise_41 : decode m_Md_normalise.2.1 41 = .ok (.bipush 50, 2) := by decide +kernel
theorem d_Md_normalise_43 : decode m_Md_normalise.2.1 43 = .ok (.if_icmp .ne 11, 3) := by decide +kernel
theorem d_Md_normalise_46 : decode m_Md_normalise.2.1 46 = .ok (.aload_n 0, 1) := by decide +kernel
theorem d_Md_normalise_47 : decode m_Md_normalise.2.1 47 = .ok (.iconst 1, 1) := by decide +kernel
theorem d_Md_normalise_48 : decode m_Md_normalise.2.1 48 = .ok (.putfield 45, 3) := by decide +kernel
theorem d_Md_normalise_51 : decode m_Md_normalise.2.1 51 = .ok (.goto 14, 3) := by decide +kernel
theorem d_Md_normalise_54 : decode m_Md_normalise.2.1 54 = .ok (.aload_n 0, 1) := by decide +kernel
theorem d_Md_normalise_55 : decode m_Md_normalise.2.1 55 = .ok (.iload_n 2, 1) := by decide +kernel
theorem d_Md_normalise_56 : decode m_Md_normalise.2.1 56 = .ok (.iload_n 3, 1) := by decide +kernel
theorem d_Md_normalise_57 : decode m_Md_normalise.2.1 57 = .ok (.invokevirtual 97, 3) := by decide +kernel
theorem d_Md_normalise_60 : decode m_Md_normalise.2.1 60 = .ok (.iinc 1 1, 3) := by decide +kernel
theorem d_Md_normalise_63 : decode m_Md_normalise.2.1 63 = .ok (.iconst 0, 1) := by decide +kernel
theorem d_Md_normalise_64 : decode m_Md_normalise.2.1 64 = .ok (.istore_n 2, 1) := by decide +kernel
theorem d_Md_normalise_65 : decode m_Md_normalise.2.1 65 = .ok (.goto (-61), 3) := by decide +kernel
theorem d_Md_normalise_68 : decode m_Md_normalise.2.1 68 = .ok (.iload_n 1, 1) := by decide +kernel
theorem d_Md_normalise_69 : decode m_Md_normalise.2.1 69 = .ok (.ireturn, 1) := by decide +kernel
theorem d_Md_normalOf_0 : decode m_Md_normalOf.2.1 0 = .ok (.aload_n 0, 1) := by decide +kernel
theorem d_Md_normalOf_1 : decode m_Md_normalOf.2.1 1 = .ok (.iload_n 1, 1) := by decide +kernel
theorem d_Md_normalOf_2 : decode m_Md_normalOf.2.1 2 = .ok (.bipush 40, 2) := by decide +kernel
theorem d_Md_normalOf_4 : decode m_Md_normalOf.2.1 4 = .ok (.invokevirtual 90, 3) := by decide +kernel
theorem d_Md_normalOf_7 : decode m_Md_normalOf.2.1 7 = .ok (.aload_n 0, 1) := by decide +kernel
theorem d_Md_normalOf_8 : decode m_Md_normalOf.2.1 8 = .ok (.invokevirtual 100, 3) := by decide +kernel
theorem d_Md_normalOf_11 : decode m_Md_normalOf.2.1 11 = .ok (.ireturn, 1) := by decide +kernel
theorem d_Md_present_0 : decode m_Md_present.2.1 0 = .ok (.iload_n 1, 1) := by decide +kernel
theorem d_Md_present_1 : decode m_Md_present.2.1 1 = .ok (.ifCond .lt 20, 3) := by decide +kernel
theorem d_Md_present_4 : decode m_Md_present.2.1 4 = .ok (.aload_n 0, 1) := by decide +kernel
theorem d_Md_present_5 : decode m_Md_present.2.1 5 = .ok (.getfield 16, 3) := by decide +kernel
theorem d_Md_present_8 : decode m_Md_present.2.1 8 = .ok (.iload_n 1, 1) := by decide +kernel
theorem d_Md_present_9 : decode m_Md_present.2.1 9 = .ok (.iaload, 1) := by decide +kernel
theorem d_Md_present_10 : decode m_Md_present.2.1 10 = .ok (.aload_n 0, 1) := by decide +kernel
theorem d_Md_present_11 : decode m_Md_present.2.1 11 = .ok (.getfield 104, 3) := by decide +kernel
theorem d_Md_present_14 : decode m_Md_present.2.1 14 = .ok (.if_icmp .ne 7, 3) := by decide +kernel
theorem d_Md_present_17 : decode m_Md_present.2.1 17 = .ok (.iconst 1, 1) := by decide +kernel
theorem d_Md_present_18 : decode m_Md_present.2.1 18 = .ok (.goto 4, 3) := by decide +kernel
theorem d_Md_present_21 : decode m_Md_present.2.1 21 = .ok (.iconst 0, 1) := by decide +kernel
theorem d_Md_present_22 : decode m_Md_present.2.1 22 = .ok (.ireturn, 1) := by decide +kernel
theorem d_Md_alone_0 : decode m_Md_alone.2.1 0 = .ok (.iconst 1, 1) := by decide +kernel
theorem d_Md_alone_1 : decode m_Md_alone.2.1 1 = .ok (.istore_n 1, 1) := by decide +kernel
theorem d_Md_alone_2 : decode m_Md_alone.2.1 2 = .ok (.iconst 0, 1) := by decide +kernel
theorem d_Md_alone_3 : decode m_Md_alone.2.1 3 = .ok (.istore_n 2, 1) := by decide +kernel
theorem d_Md_alone_4 : decode m_Md_alone.2.1 4 = .ok (.iload_n 2, 1) := by decide +kernel
theorem d_Md_alone_5 : decode m_Md_alone.2.1 5 = .ok (.aload_n 0, 1) := by decide +kernel
theorem d_Md_alone_6 : decode m_Md_alone.2.1 6 = .ok (.getfield 107, 3) := by decide +kernel
theorem d_Md_alone_9 : decode m_Md_alone.2.1 9 = .ok (.iconst 1, 1) := by decide +kernel
theorem d_Md_alone_10 : decode m_Md_alone.2.1 10 = .ok (.isub, 1) := by decide +kernel
theorem d_Md_alone_11 : decode m_Md_alone.2.1 11 = .ok (.if_icmp .ge 27, 3) := by decide +kernel
theorem d_Md_alone_14 : decode m_Md_alone.2.1 14 = .ok (.iload_n 1, 1) := by decide +kernel
theorem d_Md_alone_15 : decode m_Md_alone.2.1 15 = .ok (.ifCond .eq 15, 3) := by decide +kernel
theorem d_Md_alone_18 : decode m_Md_alone.2.1 18 = .ok (.aload_n 0, 1) := by decide +kernel
theorem d_Md_alone_19 : decode m_Md_alone.2.1 19 = .ok (.iload_n 2, 1) := by decide +kernel
theorem d_Md_alone_20 : decode m_Md_alone.2.1 20 = .ok (.invokevirtual 110, 3) := by decide +kernel
theorem d_Md_alone_23 : decode m_Md_alone.2.1 23 = .ok (.ifCond .ne 7, 3) := by decide +kernel
theorem d_Md_alone_26 : decode m_Md_alone.2.1 26 = .ok (.iconst 1, 1) := by decide +kernel
theorem d_Md_alone_27 : decode m_Md_alone.2.1 27 = .ok (.goto 4, 3) := by decide +kernel
theorem d_Md_alone_30 : decode m_Md_alone.2.1 30 = .ok (.iconst 0, 1) := by decide +kernel
theorem d_Md_alone_31 : decode m_Md_alone.2.1 31 = .ok (.istore_n 1, 1) := by decide +kernel
theorem d_Md_alone_32 : decode m_Md_alone.2.1 32 = .ok (.iinc 2 1, 3) := by decide +kernel
theorem d_Md_alone_35 : decode m_Md_alone.2.1 35 = .ok (.goto (-31), 3) := by decide +kernel
theorem d_Md_alone_38 : decode m_Md_alone.2.1 38 = .ok (.iload_n 1, 1) := by decide +kernel
theorem d_Md_alone_39 : decode m_Md_alone.2.1 39 = .ok (.ireturn, 1) := by decide +kernel
theorem d_Md_push_0 : decode m_Md_push.2.1 0 = .ok (.aload_n 0, 1) := by decide +kernel
theorem d_Md_push_1 : decode m_Md_push.2.1 1 = .ok (.getfield 107, 3) := by decide +kernel
theorem d_Md_push_4 : decode m_Md_push.2.1 4 = .ok (.bipush 6, 2) := by decide +kernel
theorem d_Md_push_6 : decode m_Md_push.2.1 6 = .ok (.if_icmp .ne 5, 3) := by decide +kernel
theorem d_Md_push_9 : decode m_Md_push.2.1 9 = .ok (.iconst 0, 1) := by decide +kernel
theorem d_Md_push_10 : decode m_Md_push.2.1 10 = .ok (.ireturn, 1) := by decide +kernel
theorem d_Md_push_11 : decode m_Md_push.2.1 11 = .ok (.aload_n 0, 1) := by decide +kernel
theorem d_Md_push_12 : decode m_Md_push.2.1 12 = .ok (.getfield 13, 3) := by decide +kernel
theorem d_Md_push_15 : decode m_Md_push.2.1 15 = .ok (.iconst 0, 1) := by decide +kernel
theorem d_Md_push_16 : decode m_Md_push.2.1 16 = .ok (.aload_n 0, 1) := by decide +kernel
theorem d_Md_push_17 : decode m_Md_push.2.1 17 = .ok (.getfield 107, 3) := by decide +kernel
theorem d_Md_push_20 : decode m_Md_push.2.1 20 = .ok (.iadd, 1) := by decide +kernel
theorem d_Md_push_21 : decode m_Md_push.2.1 21 = .ok (.iconst 0, 1) := by decide +kernel
theorem d_Md_push_22 : decode m_Md_push.2.1 22 = .ok (.iastore, 1) := by decide +kernel
theorem d_Md_push_23 : decode m_Md_push.2.1 23 = .ok (.aload_n 0, 1) := by decide +kernel
theorem d_Md_push_24 : decode m_Md_push.2.1 24 = .ok (.getfield 13, 3) := by decide +kernel
theorem d_Md_push_27 : decode m_Md_push.2.1 27 = .ok (.bipush 6, 2) := by decide +kernel
theorem d_Md_push_29 : decode m_Md_push.2.1 29 = .ok (.aload_n 0, 1) := by decide +kernel
theorem d_Md_push_30 : decode m_Md_push.2.1 30 = .ok (.getfield 107, 3) := by decide +kernel
theorem d_Md_push_33 : decode m_Md_push.2.1 33 = .ok (.iadd, 1) := by decide +kernel
theorem d_Md_push_34 : decode m_Md_push.2.1 34 = .ok (.iconst 0, 1) := by decide +kernel
theorem d_Md_push_35 : decode m_Md_push.2.1 35 = .ok (.iastore, 1) := by decide +kernel
theorem d_Md_push_36 : decode m_Md_push.2.1 36 = .ok (.aload_n 0, 1) := by decide +kernel
theorem d_Md_push_37 : decode m_Md_push.2.1 37 = .ok (.getfield 16, 3) := by decide +kernel
theorem d_Md_push_40 : decode m_Md_push.2.1 40 = .ok (.aload_n 0, 1) := by decide +kernel
theorem d_Md_push_41 : decode m_Md_push.2.1 41 = .ok (.getfield 107, 3) := by decide +kernel
theorem d_Md_push_44 : decode m_Md_push.2.1 44 = .ok (.aload_n 0, 1) := by decide +kernel
theorem d_Md_push_45 : decode m_Md_push.2.1 45 = .ok (.getfield 104, 3) := by decide +kernel
theorem d_Md_push_48 : decode m_Md_push.2.1 48 = .ok (.iastore, 1) := by decide +kernel
theorem d_Md_push_49 : decode m_Md_push.2.1 49 = .ok (.aload_n 0, 1) := by decide +kernel
theorem d_Md_push_50 : decode m_Md_push.2.1 50 = .ok (.dup, 1) := by decide +kernel
theorem d_Md_push_51 : decode m_Md_push.2.1 51 = .ok (.getfield 107, 3) := by decide +kernel
theorem d_Md_push_54 : decode m_Md_push.2.1 54 = .ok (.iconst 1, 1) := by decide +kernel
theorem d_Md_push_55 : decode m_Md_push.2.1 55 = .ok (.iadd, 1) := by decide +kernel
theorem d_Md_push_56 : decode m_Md_push.2.1 56 = .ok (.putfield 107, 3) := by decide +kernel
theorem d_Md_push_59 : decode m_Md_push.2.1 59 = .ok (.iconst 1, 1) := by decide +kernel
theorem d_Md_push_60 : decode m_Md_push.2.1 60 = .ok (.ireturn, 1) := by decide +kernel
theorem d_Md_sort_0 : decode m_Md_sort.2.1 0 = .ok (.aload_n 0, 1) := by decide +kernel
theorem d_Md_sort_1 : decode m_Md_sort.2.1 1 = .ok (.aload_n 0, 1) := by decide +kernel
theorem d_Md_sort_2 : decode m_Md_sort.2.1 2 = .ok (.invokevirtual 113, 3) := by decide +kernel
theorem d_Md_sort_5 : decode m_Md_sort.2.1 5 = .ok (.ifCond .eq 7, 3) := by decide +kernel
theorem d_Md_sort_8 : decode m_Md_sort.2.1 8 = .ok (.iconst 0, 1) := by decide +kernel
theorem d_Md_sort_9 : decode m_Md_sort.2.1 9 = .ok (.goto 4, 3) := by decide +kernel
theorem d_Md_sort_12 : decode m_Md_sort.2.1 12 = .ok (.iconst 1, 1) := by decide +kernel
theorem d_Md_sort_13 : decode m_Md_sort.2.1 13 = .ok (.putfield 41, 3) := by decide +kernel
theorem d_Md_sort_16 : decode m_Md_sort.2.1 16 = .ok (.aload_n 0, 1) := by decide +kernel
theorem d_Md_sort_17 : decode m_Md_sort.2.1 17 = .ok (.getfield 41, 3) := by decide +kernel
theorem d_Md_sort_20 : decode m_Md_sort.2.1 20 = .ok (.ifCond .ne 30, 3) := by decide +kernel
theorem d_Md_sort_23 : decode m_Md_sort.2.1 23 = .ok (.aload_n 0, 1) := by decide +kernel
theorem d_Md_sort_24 : decode m_Md_sort.2.1 24 = .ok (.iconst 0, 1) := by decide +kernel
theorem d_Md_sort_25 : decode m_Md_sort.2.1 25 = .ok (.aload_n 0, 1) := by decide +kernel
theorem d_Md_sort_26 : decode m_Md_sort.2.1 26 = .ok (.getfield 107, 3) := by decide +kernel
theorem d_Md_sort_29 : decode m_Md_sort.2.1 29 = .ok (.iadd, 1) := by decide +kernel
theorem d_Md_sort_30 : decode m_Md_sort.2.1 30 = .ok (.iconst 1, 1) := by decide +kernel
theorem d_Md_sort_31 : decode m_Md_sort.2.1 31 = .ok (.isub, 1) := by decide +kernel
theorem d_Md_sort_32 : decode m_Md_sort.2.1 32 = .ok (.iconst 0, 1) := by decide +kernel
theorem d_Md_sort_33 : decode m_Md_sort.2.1 33 = .ok (.invokevirtual 53, 3) := by decide +kernel
theorem d_Md_sort_36 : decode m_Md_sort.2.1 36 = .ok (.aload_n 0, 1) := by decide +kernel
theorem d_Md_sort_37 : decode m_Md_sort.2.1 37 = .ok (.bipush 6, 2) := by decide +kernel
theorem d_Md_sort_39 : decode m_Md_sort.2.1 39 = .ok (.aload_n 0, 1) := by decide +kernel
theorem d_Md_sort_40 : decode m_Md_sort.2.1 40 = .ok (.getfield 107, 3) := by decide +kernel
theorem d_Md_sort_43 : decode m_Md_sort.2.1 43 = .ok (.iadd, 1) := by decide +kernel
theorem d_Md_sort_44 : decode m_Md_sort.2.1 44 = .ok (.iconst 1, 1) := by decide +kernel
theorem d_Md_sort_45 : decode m_Md_sort.2.1 45 = .ok (.isub, 1) := by decide +kernel
theorem d_Md_sort_46 : decode m_Md_sort.2.1 46 = .ok (.iconst 1, 1) := by decide +kernel
theorem d_Md_sort_47 : decode m_Md_sort.2.1 47 = .ok (.invokevirtual 53, 3) := by decide +kernel
theorem d_Md_sort_50 : decode m_Md_sort.2.1 50 = .ok (.return_, 1) := by decide +kernel
theorem d_Md_constant_0 : decode m_Md_constant.2.1 0 = .ok (.aload_n 0, 1) := by decide +kernel
theorem d_Md_constant_1 : decode m_Md_constant.2.1 1 = .ok (.iload_n 1, 1) := by decide +kernel
theorem d_Md_constant_2 : decode m_Md_constant.2.1 2 = .ok (.ifCond .lt 11, 3) := by decide +kernel
theorem d_Md_constant_5 : decode m_Md_constant.2.1 5 = .ok (.iload_n 1, 1) := by decide +kernel
theorem d_Md_constant_6 : decode m_Md_constant.2.1 6 = .ok (.aload_n 0, 1) := by decide +kernel
theorem d_Md_constant_7 : decode m_Md_constant.2.1 7 = .ok (.getfield 117, 3) := by decide +kernel
theorem d_Md_constant_10 : decode m_Md_constant.2.1 10 = .ok (.if_icmp .lt 7, 3) := by decide +kernel
theorem d_Md_constant_13 : decode m_Md_constant.2.1 13 = .ok (.iconst 1, 1) := by decide +kernel
theorem d_Md_constant_14 : decode m_Md_constant.2.1 14 = .ok (.goto 15, 3) := by decide +kernel
theorem d_Md_constant_17 : decode m_Md_constant.2.1 17 = .ok (.aload_n 0, 1) := by decide +kernel
theorem d_Md_constant_18 : decode m_Md_constant.2.1 18 = .ok (.invokevirtual 113, 3) := by decide +kernel
theorem d_Md_constant_21 : decode m_Md_constant.2.1 21 = .ok (.ifCond .eq 7, 3) := by decide +kernel
theorem d_Md_constant_24 : decode m_Md_constant.2.1 24 = .ok (.iconst 0, 1) := by decide +kernel
theorem d_Md_constant_25 : decode m_Md_constant.2.1 25 = .ok (.goto 4, 3) := by decide +kernel
theorem d_Md_constant_28 : decode m_Md_constant.2.1 28 = .ok (.iconst 2, 1) := by decide +kernel
theorem d_Md_constant_29 : decode m_Md_constant.2.1 29 = .ok (.putfield 41, 3) := by decide +kernel
theorem d_Md_constant_32 : decode m_Md_constant.2.1 32 = .ok (.aload_n 0, 1) := by decide +kernel
theorem d_Md_constant_33 : decode m_Md_constant.2.1 33 = .ok (.getfield 41, 3) := by decide +kernel
theorem d_Md_constant_36 : decode m_Md_constant.2.1 36 = .ok (.ifCond .ne 36, 3) := by decide +kernel
theorem d_Md_constant_39 : decode m_Md_constant.2.1 39 = .ok (.aload_n 0, 1) := by decide +kernel
theorem d_Md_constant_40 : decode m_Md_constant.2.1 40 = .ok (.iconst 0, 1) := by decide +kernel
theorem d_Md_constant_41 : decode m_Md_constant.2.1 41 = .ok (.aload_n 0, 1) := by decide +kernel
theorem d_Md_constant_42 : decode m_Md_constant.2.1 42 = .ok (.getfield 107, 3) := by decide +kernel
theorem d_Md_constant_45 : decode m_Md_constant.2.1 45 = .ok (.iadd, 1) := by decide +kernel
theorem d_Md_constant_46 : decode m_Md_constant.2.1 46 = .ok (.iconst 1, 1) := by decide +kernel
theorem d_Md_constant_47 : decode m_Md_constant.2.1 47 = .ok (.isub, 1) := by decide +kernel
theorem d_Md_constant_48 : decode m_Md_constant.2.1 48 = .ok (.bipush 10, 2) := by decide +kernel
theorem d_Md_constant_50 : decode m_Md_constant.2.1 50 = .ok (.iload_n 1, 1) := by decide +kernel
theorem d_Md_constant_51 : decode m_Md_constant.2.1 51 = .ok (.iadd, 1) := by decide +kernel
theorem d_Md_constant_52 : decode m_Md_constant.2.1 52 = .ok (.invokevirtual 53, 3) := by decide +kernel
theorem d_Md_constant_55 : decode m_Md_constant.2.1 55 = .ok (.aload_n 0, 1) := by decide +kernel
theorem d_Md_constant_56 : decode m_Md_constant.2.1 56 = .ok (.bipush 6, 2) := by decide +kernel
theorem d_Md_constant_58 : decode m_Md_constant.2.1 58 = .ok (.aload_n 0, 1) := by decide +kernel
theorem d_Md_constant_59 : decode m_Md_constant.2.1 59 = .ok (.getfield 107, 3) := by decide +kernel
theorem d_Md_constant_62 : decode m_Md_constant.2.1 62 = .ok (.iadd, 1) := by decide +kernel
theorem d_Md_constant_63 : decode m_Md_constant.2.1 63 = .ok (.iconst 1, 1) := by decide +kernel
theorem d_Md_constant_64 : decode m_Md_constant.2.1 64 = .ok (.isub, 1) := by decide +kernel
theorem d_Md_constant_65 : decode m_Md_constant.2.1 65 = .ok (.bipush 16, 2) := by decide +kernel
theorem d_Md_constant_67 : decode m_Md_constant.2.1 67 = .ok (.iload_n 1, 1) := by decide +kernel
theorem d_Md_constant_68 : decode m_Md_constant.2.1 68 = .ok (.iadd, 1) := by decide +kernel
theorem d_Md_constant_69 : decode m_Md_constant.2.1 69 = .ok (.invokevirtual 57, 3) := by decide +kernel
theorem d_Md_constant_72 : decode m_Md_constant.2.1 72 = .ok (.return_, 1) := by decide +kernel
theorem d_Md_variable_0 : decode m_Md_variable.2.1 0 = .ok (.aload_n 0, 1) := by decide +kernel
theorem d_Md_variable_1 : decode m_Md_variable.2.1 1 = .ok (.iload_n 1, 1) := by decide +kernel
theorem d_Md_variable_2 : decode m_Md_variable.2.1 2 = .ok (.ifCond .lt 11, 3) := by decide +kernel
theorem d_Md_variable_5 : decode m_Md_variable.2.1 5 = .ok (.iload_n 1, 1) := by decide +kernel
theorem d_Md_variable_6 : decode m_Md_variable.2.1 6 = .ok (.aload_n 0, 1) := by decide +kernel
theorem d_Md_variable_7 : decode m_Md_variable.2.1 7 = .ok (.getfield 104, 3) := by decide +kernel
theorem d_Md_variable_10 : decode m_Md_variable.2.1 10 = .ok (.if_icmp .lt 7, 3) := by decide +kernel
theorem d_Md_variable_13 : decode m_Md_variable.2.1 13 = .ok (.iconst 1, 1) := by decide +kernel
theorem d_Md_variable_14 : decode m_Md_variable.2.1 14 = .ok (.goto 15, 3) := by decide +kernel
theorem d_Md_variable_17 : decode m_Md_variable.2.1 17 = .ok (.aload_n 0, 1) := by decide +kernel
theorem d_Md_variable_18 : decode m_Md_variable.2.1 18 = .ok (.invokevirtual 113, 3) := by decide +kernel
theorem d_Md_variable_21 : decode m_Md_variable.2.1 21 = .ok (.ifCond .eq 7, 3) := by decide +kernel
theorem d_Md_variable_24 : decode m_Md_variable.2.1 24 = .ok (.iconst 0, 1) := by decide +kernel
theorem d_Md_variable_25 : decode m_Md_variable.2.1 25 = .ok (.goto 4, 3) := by decide +kernel
theorem d_Md_variable_28 : decode m_Md_variable.2.1 28 = .ok (.iconst 2, 1) := by decide +kernel
theorem d_Md_variable_29 : decode m_Md_variable.2.1 29 = .ok (.putfield 41, 3) := by decide +kernel
theorem d_Md_variable_32 : decode m_Md_variable.2.1 32 = .ok (.aload_n 0, 1) := by decide +kernel
theorem d_Md_variable_33 : decode m_Md_variable.2.1 33 = .ok (.getfield 41, 3) := by decide +kernel
theorem d_Md_variable_36 : decode m_Md_variable.2.1 36 = .ok (.ifCond .ne 61, 3) := by decide +kernel
theorem d_Md_variable_39 : decode m_Md_variable.2.1 39 = .ok (.bipush 12, 2) := by decide +kernel
theorem d_Md_variable_41 : decode m_Md_variable.2.1 41 = .ok (.aload_n 0, 1) := by decide +kernel
theorem d_Md_variable_42 : decode m_Md_variable.2.1 42 = .ok (.getfield 104, 3) := by decide +kernel
theorem d_Md_variable_45 : decode m_Md_variable.2.1 45 = .ok (.iadd, 1) := by decide +kernel
theorem d_Md_variable_46 : decode m_Md_variable.2.1 46 = .ok (.iconst 1, 1) := by decide +kernel
theorem d_Md_variable_47 : decode m_Md_variable.2.1 47 = .ok (.isub, 1) := by decide +kernel
theorem d_Md_variable_48 : decode m_Md_variable.2.1 48 = .ok (.iload_n 1, 1) := by decide +kernel
theorem d_Md_variable_49 : decode m_Md_variable.2.1 49 = .ok (.isub, 1) := by decide +kernel
theorem d_Md_variable_50 : decode m_Md_variable.2.1 50 = .ok (.istore_n 2, 1) := by decide +kernel
theorem d_Md_variable_51 : decode m_Md_variable.2.1 51 = .ok (.aload_n 0, 1) := by decide +kernel
theorem d_Md_variable_52 : decode m_Md_variable.2.1 52 = .ok (.iconst 0, 1) := by decide +kernel
theorem d_Md_variable_53 : decode m_Md_variable.2.1 53 = .ok (.aload_n 0, 1) := by decide +kernel
theorem d_Md_variable_54 : decode m_Md_variable.2.1 54 = .ok (.getfield 107, 3) := by decide +kernel
theorem d_Md_variable_57 : decode m_Md_variable.2.1 57 = .ok (.iadd, 1) := by decide +kernel
theorem d_Md_variable_58 : decode m_Md_variable.2.1 58 = .ok (.iconst 1, 1) := by decide +kernel
theorem d_Md_variable_59 : decode m_Md_variable.2.1 59 = .ok (.isub, 1) := by decide +kernel
theorem d_Md_variable_60 : decode m_Md_variable.2.1 60 = .ok (.bipush 100, 2) := by decide +kernel
theorem d_Md_variable_62 : decode m_Md_variable.2.1 62 = .ok (.iload_n 1, 1) := by decide +kernel
theorem d_Md_variable_63 : decode m_Md_variable.2.1 63 = .ok (.iadd, 1) := by decide +kernel
theorem d_Md_variable_64 : decode m_Md_variable.2.1 64 = .ok (.invokevirtual 53, 3) := by decide +kernel
theorem d_Md_variable_67 : decode m_Md_variable.2.1 67 = .ok (.aload_n 0, 1) := by decide +kernel
theorem d_Md_variable_68 : decode m_Md_variable.2.1 68 = .ok (.iload_n 2, 1) := by decide +kernel
theorem d_Md_variable_69 : decode m_Md_variable.2.1 69 = .ok (.iconst 0, 1) := by decide +kernel
theorem d_Md_variable_70 : decode m_Md_variable.2.1 70 = .ok (.invokevirtual 71, 3) := by decide +kernel
theorem d_Md_variable_73 : decode m_Md_variable.2.1 73 = .ok (.aload_n 0, 1) := by decide +kernel
theorem d_Md_variable_74 : decode m_Md_variable.2.1 74 = .ok (.bipush 6, 2) := by decide +kernel
theorem d_Md_variable_76 : decode m_Md_variable.2.1 76 = .ok (.aload_n 0, 1) := by decide +kernel
theorem d_Md_variable_77 : decode m_Md_variable.2.1 77 = .ok (.getfield 107, 3) := by decide +kernel
theorem d_Md_variable_80 : decode m_Md_variable.2.1 80 = .ok (.iadd, 1) := by decide +kernel
theorem d_Md_variable_81 : decode m_Md_variable.2.1 81 = .ok (.iconst 1, 1) := by decide +kernel
theorem d_Md_variable_82 : decode m_Md_variable.2.1 82 = .ok (.isub, 1) := by decide +kernel
theorem d_Md_variable_83 : decode m_Md_variable.2.1 83 = .ok (.iload_n 2, 1) := by decide +kernel
theorem d_Md_variable_84 : decode m_Md_variable.2.1 84 = .ok (.iconst 0, 1) := by decide +kernel
theorem d_Md_variable_85 : decode m_Md_variable.2.1 85 = .ok (.aload_n 0, 1) := by decide +kernel
theorem d_Md_variable_86 : decode m_Md_variable.2.1 86 = .ok (.getfield 13, 3) := by decide +kernel
theorem d_Md_variable_89 : decode m_Md_variable.2.1 89 = .ok (.iload_n 2, 1) := by decide +kernel
theorem d_Md_variable_90 : decode m_Md_variable.2.1 90 = .ok (.iaload, 1) := by decide +kernel
theorem d_Md_variable_91 : decode m_Md_variable.2.1 91 = .ok (.iload_n 1, 1) := by decide +kernel
theorem d_Md_variable_92 : decode m_Md_variable.2.1 92 = .ok (.iconst 1, 1) := by decide +kernel
theorem d_Md_variable_93 : decode m_Md_variable.2.1 93 = .ok (.iadd, 1) := by decide +kernel
theorem d_Md_variable_94 : decode m_Md_variable.2.1 94 = .ok (.invokevirtual 64, 3) := by decide +kernel
theorem d_Md_variable_97 : decode m_Md_variable.2.1 97 = .ok (.return_, 1) := by decide +kernel
theorem d_Md_applied_0 : decode m_Md_applied.2.1 0 = .ok (.aload_n 0, 1) := by decide +kernel
theorem d_Md_applied_1 : decode m_Md_applied.2.1 1 = .ok (.getfield 107, 3) := by decide +kernel
theorem d_Md_applied_4 : decode m_Md_applied.2.1 4 = .ok (.iconst 2, 1) := by decide +kernel
theorem d_Md_applied_5 : decode m_Md_applied.2.1 5 = .ok (.isub, 1) := by decide +kernel
theorem d_Md_applied_6 : decode m_Md_applied.2.1 6 = .ok (.istore_n 1, 1) := by decide +kernel
theorem d_Md_applied_7 : decode m_Md_applied.2.1 7 = .ok (.aload_n 0, 1) := by decide +kernel
theorem d_Md_applied_8 : decode m_Md_applied.2.1 8 = .ok (.getfield 107, 3) := by decide +kernel
theorem d_Md_applied_11 : decode m_Md_applied.2.1 11 = .ok (.iconst 1, 1) := by decide +kernel
theorem d_Md_applied_12 : decode m_Md_applied.2.1 12 = .ok (.isub, 1) := by decide +kernel
theorem d_Md_applied_13 : decode m_Md_applied.2.1 13 = .ok (.istore_n 2, 1) := by decide +kernel
theorem d_Md_applied_14 : decode m_Md_applied.2.1 14 = .ok (.aload_n 0, 1) := by decide +kernel
theorem d_Md_applied_15 : decode m_Md_applied.2.1 15 = .ok (.iload_n 1, 1) := by decide +kernel
theorem d_Md_applied_16 : decode m_Md_applied.2.1 16 = .ok (.invokevirtual 110, 3) := by decide +kernel
theorem d_Md_applied_19 : decode m_Md_applied.2.1 19 = .ok (.ifCond .eq 11, 3) := by decide +kernel
theorem d_Md_applied_22 : decode m_Md_applied.2.1 22 = .ok (.aload_n 0, 1) := by decide +kernel
theorem d_Md_applied_23 : decode m_Md_applied.2.1 23 = .ok (.iload_n 2, 1) := by decide +kernel
theorem d_Md_applied_24 : decode m_Md_applied.2.1 24 = .ok (.invokevirtual 110, 3) := by decide +kernel
theorem d_Md_applied_27 : decode m_Md_applied.2.1 27 = .ok (.ifCond .ne 5, 3) := by decide +kernel
theorem d_Md_applied_30 : decode m_Md_applied.2.1 30 = .ok (.iconst 1, 1) := by decide +kernel
theorem d_Md_applied_31 : decode m_Md_applied.2.1 31 = .ok (.ireturn, 1) := by decide +kernel
theorem d_Md_applied_32 : decode m_Md_applied.2.1 32 = .ok (.aload_n 0, 1) := by decide +kernel
theorem d_Md_applied_33 : decode m_Md_applied.2.1 33 = .ok (.iconst 0, 1) := by decide +kernel
theorem d_Md_applied_34 : decode m_Md_applied.2.1 34 = .ok (.putfield 45, 3) := by decide +kernel
theorem d_Md_applied_37 : decode m_Md_applied.2.1 37 = .ok (.aload_n 0, 1) := by decide +kernel
theorem d_Md_applied_38 : decode m_Md_applied.2.1 38 = .ok (.bipush 6, 2) := by decide +kernel
theorem d_Md_applied_40 : decode m_Md_applied.2.1 40 = .ok (.iload_n 1, 1) := by decide +kernel
theorem d_Md_applied_41 : decode m_Md_applied.2.1 41 = .ok (.iadd, 1) := by decide +kernel
theorem d_Md_applied_42 : decode m_Md_applied.2.1 42 = .ok (.invokevirtual 120, 3) := by decide +kernel
theorem d_Md_applied_45 : decode m_Md_applied.2.1 45 = .ok (.istore_n 3, 1) := by decide +kernel
theorem d_Md_applied_46 : decode m_Md_applied.2.1 46 = .ok (.aload_n 0, 1) := by decide +kernel
theorem d_Md_applied_47 : decode m_Md_applied.2.1 47 = .ok (.getfield 45, 3) := by decide +kernel
theorem d_Md_applied_50 : decode m_Md_applied.2.1 50 = .ok (.ifCond .eq 5, 3) := by decide +kernel
theorem d_Md_applied_53 : decode m_Md_applied.2.1 53 = .ok (.iconst 3, 1) := by decide +kernel
theorem d_Md_applied_54 : decode m_Md_applied.2.1 54 = .ok (.ireturn, 1) := by decide +kernel
theorem d_Md_applied_55 : decode m_Md_applied.2.1 55 = .ok (.aload_n 0, 1) := by decide +kernel
theorem d_Md_applied_56 : decode m_Md_applied.2.1 56 = .ok (.bipush 40, 2) := by decide +kernel
theorem d_Md_applied_58 : decode m_Md_applied.2.1 58 = .ok (.iconst 0, 1) := by decide +kernel
theorem d_Md_applied_59 : decode m_Md_applied.2.1 59 = .ok (.invokevirtual 49, 3) := by decide +kernel
theorem d_Md_applied_62 : decode m_Md_applied.2.1 62 = .ok (.iconst 4, 1) := by decide +kernel
theorem d_Md_applied_63 : decode m_Md_applied.2.1 63 = .ok (.if_icmp .eq 5, 3) := by decide +kernel
theorem d_Md_applied_66 : decode m_Md_applied.2.1 66 = .ok (.iconst 2, 1) := by decide +kernel
theorem d_Md_applied_67 : decode m_Md_applied.2.1 67 = .ok (.ireturn, 1) := by decide +kernel
theorem d_Md_applied_68 : decode m_Md_applied.2.1 68 = .ok (.aload_n 0, 1) := by decide +kernel
theorem d_Md_applied_69 : decode m_Md_applied.2.1 69 = .ok (.bipush 40, 2) := by decide +kernel
theorem d_Md_applied_71 : decode m_Md_applied.2.1 71 = .ok (.bipush 42, 2) := by decide +kernel
theorem d_Md_applied_73 : decode m_Md_applied.2.1 73 = .ok (.invokevirtual 90, 3) := by decide +kernel
theorem d_Md_applied_76 : decode m_Md_applied.2.1 76 = .ok (.aload_n 0, 1) := by decide +kernel
theorem d_Md_applied_77 : decode m_Md_applied.2.1 77 = .ok (.bipush 6, 2) := by decide +kernel
theorem d_Md_applied_79 : decode m_Md_applied.2.1 79 = .ok (.iload_n 2, 1) := by decide +kernel
theorem d_Md_applied_80 : decode m_Md_applied.2.1 80 = .ok (.iadd, 1) := by decide +kernel
theorem d_Md_applied_81 : decode m_Md_applied.2.1 81 = .ok (.invokevirtual 120, 3) := by decide +kernel
theorem d_Md_applied_84 : decode m_Md_applied.2.1 84 = .ok (.istore 4, 2) := by decide +kernel
theorem d_Md_applied_86 : decode m_Md_applied.2.1 86 = .ok (.aload_n 0, 1) := by decide +kernel
theorem d_Md_applied_87 : decode m_Md_applied.2.1 87 = .ok (.getfield 45, 3) := by decide +kernel
theorem d_Md_applied_90 : decode m_Md_applied.2.1 90 = .ok (.ifCond .eq 5, 3) := by decide +kernel
theorem d_Md_applied_93 : decode m_Md_applied.2.1 93 = .ok (.iconst 3, 1) := by decide +kernel
theorem d_Md_applied_94 : decode m_Md_applied.2.1 94 = .ok (.ireturn, 1) := by decide +kernel
theorem d_Md_applied_95 : decode m_Md_applied.2.1 95 = .ok (.aload_n 0, 1) := by decide +kernel
theorem d_Md_applied_96 : decode m_Md_applied.2.1 96 = .ok (.bipush 42, 2) := by decide +kernel
theorem d_Md_applied_98 : decode m_Md_applied.2.1 98 = .ok (.iconst 1, 1) := by decide +kernel
theorem d_Md_applied_99 : decode m_Md_applied.2.1 99 = .ok (.invokevirtual 68, 3) := by decide +kernel
theorem d_Md_applied_102 : decode m_Md_applied.2.1 102 = .ok (.istore 5, 2) := by decide +kernel
theorem d_Md_applied_104 : decode m_Md_applied.2.1 104 = .ok (.aload_n 0, 1) := by decide +kernel
theorem d_Md_applied_105 : decode m_Md_applied.2.1 105 = .ok (.getfield 13, 3) := by decide +kernel
theorem d_Md_applied_108 : decode m_Md_applied.2.1 108 = .ok (.bipush 40, 2) := by decide +kernel
theorem d_Md_applied_110 : decode m_Md_applied.2.1 110 = .ok (.iaload, 1) := by decide +kernel
theorem d_Md_applied_111 : decode m_Md_applied.2.1 111 = .ok (.iload 5, 2) := by decide +kernel
theorem d_Md_applied_113 : decode m_Md_applied.2.1 113 = .ok (.iconst 1, 1) := by decide +kernel
theorem d_Md_applied_114 : decode m_Md_applied.2.1 114 = .ok (.isub, 1) := by decide +kernel
theorem d_Md_applied_115 : decode m_Md_applied.2.1 115 = .ok (.if_icmp .ne 7, 3) := by decide +kernel
theorem d_Md_applied_118 : decode m_Md_applied.2.1 118 = .ok (.iconst 1, 1) := by decide +kernel
theorem d_Md_applied_119 : decode m_Md_applied.2.1 119 = .ok (.goto 4, 3) := by decide +kernel
theorem d_Md_applied_122 : decode m_Md_applied.2.1 122 = .ok (.iconst 0, 1) := by decide +kernel
theorem d_Md_applied_123 : decode m_Md_applied.2.1 123 = .ok (.istore 6, 2) := by decide +kernel
theorem d_Md_applied_125 : decode m_Md_applied.2.1 125 = .ok (.iconst 0, 1) := by decide +kernel
theorem d_Md_applied_126 : decode m_Md_applied.2.1 126 = .ok (.istore 7, 2) := by decide +kernel
theorem d_Md_applied_128 : decode m_Md_applied.2.1 128 = .ok (.iload 7, 2) := by decide +kernel
theorem d_Md_applied_130 : decode m_Md_applied.2.1 130 = .ok (.aload_n 0, 1) := by decide +kernel
theorem d_Md_applied_131 : decode m_Md_applied.2.1 131 = .ok (.getfield 13, 3) := by decide +kernel
theorem d_Md_applied_134 : decode m_Md_applied.2.1 134 = .ok (.bipush 40, 2) := by decide +kernel
theorem d_Md_applied_136 : decode m_Md_applied.2.1 136 = .ok (.iaload, 1) := by decide +kernel
theorem d_Md_applied_137 : decode m_Md_applied.2.1 137 = .ok (.if_icmp .ge 42, 3) := by decide +kernel
theorem d_Md_applied_140 : decode m_Md_applied.2.1 140 = .ok (.iload 6, 2) := by decide +kernel
theorem d_Md_applied_142 : decode m_Md_applied.2.1 142 = .ok (.ifCond .eq 37, 3) := by decide +kernel
theorem d_Md_applied_145 : decode m_Md_applied.2.1 145 = .ok (.aload_n 0, 1) := by decide +kernel
theorem d_Md_applied_146 : decode m_Md_applied.2.1 146 = .ok (.bipush 40, 2) := by decide +kernel
theorem d_Md_applied_148 : decode m_Md_applied.2.1 148 = .ok (.iload 7, 2) := by decide +kernel
theorem d_Md_applied_150 : decode m_Md_applied.2.1 150 = .ok (.invokevirtual 49, 3) := by decide +kernel
theorem d_Md_applied_153 : decode m_Md_applied.2.1 153 = .ok (.aload_n 0, 1) := by decide +kernel
theorem d_Md_applied_154 : decode m_Md_applied.2.1 154 = .ok (.bipush 42, 2) := by decide +kernel
theorem d_Md_applied_156 : decode m_Md_applied.2.1 156 = .ok (.iconst 1, 1) := by decide +kernel
theorem d_Md_applied_157 : decode m_Md_applied.2.1 157 = .ok (.iload 7, 2) := by decide +kernel
theorem d_Md_applied_159 : decode m_Md_applied.2.1 159 = .ok (.iadd, 1) := by decide +kernel
theorem d_Md_applied_160 : decode m_Md_applied.2.1 160 = .ok (.invokevirtual 49, 3) := by decide +kernel
theorem d_Md_applied_163 : decode m_Md_applied.2.1 163 = .ok (.if_icmp .ne 7, 3) := by decide +kernel
theorem d_Md_applied_166 : decode m_Md_applied.2.1 166 = .ok (.iconst 1, 1) := by decide +kernel
theorem d_Md_applied_167 : decode m_Md_applied.2.1 167 = .ok (.goto 4, 3) := by decide +kernel
theorem d_Md_applied_170 : decode m_Md_applied.2.1 170 = .ok (.iconst 0, 1) := by decide +kernel
theorem d_Md_applied_171 : decode m_Md_applied.2.1 171 = .ok (.istore 6, 2) := by decide +kernel
theorem d_Md_applied_173 : decode m_Md_applied.2.1 173 = .ok (.iinc 7 1, 3) := by decide +kernel
theorem d_Md_applied_176 : decode m_Md_applied.2.1 176 = .ok (.goto (-48), 3) := by decide +kernel
theorem d_Md_applied_179 : decode m_Md_applied.2.1 179 = .ok (.iload 6, 2) := by decide +kernel
theorem d_Md_applied_181 : decode m_Md_applied.2.1 181 = .ok (.ifCond .ne 5, 3) := by decide +kernel
theorem d_Md_applied_184 : decode m_Md_applied.2.1 184 = .ok (.iconst 2, 1) := by decide +kernel
theorem d_Md_applied_185 : decode m_Md_applied.2.1 185 = .ok (.ireturn, 1) := by decide +kernel
theorem d_Md_applied_186 : decode m_Md_applied.2.1 186 = .ok (.aload_n 0, 1) := by decide +kernel
theorem d_Md_applied_187 : decode m_Md_applied.2.1 187 = .ok (.getfield 13, 3) := by decide +kernel
theorem d_Md_applied_190 : decode m_Md_applied.2.1 190 = .ok (.bipush 41, 2) := by decide +kernel
theorem d_Md_applied_192 : decode m_Md_applied.2.1 192 = .ok (.iconst 0, 1) := by decide +kernel
theorem d_Md_applied_193 : decode m_Md_applied.2.1 193 = .ok (.iastore, 1) := by decide +kernel
theorem d_Md_applied_194 : decode m_Md_applied.2.1 194 = .ok (.aload_n 0, 1) := by decide +kernel
theorem d_Md_applied_195 : decode m_Md_applied.2.1 195 = .ok (.bipush 41, 2) := by decide +kernel
theorem d_Md_applied_197 : decode m_Md_applied.2.1 197 = .ok (.iconst 2, 1) := by decide +kernel
theorem d_Md_applied_198 : decode m_Md_applied.2.1 198 = .ok (.invokevirtual 53, 3) := by decide +kernel
theorem d_Md_applied_201 : decode m_Md_applied.2.1 201 = .ok (.aload_n 0, 1) := by decide +kernel
theorem d_Md_applied_202 : decode m_Md_applied.2.1 202 = .ok (.bipush 41, 2) := by decide +kernel
theorem d_Md_applied_204 : decode m_Md_applied.2.1 204 = .ok (.iconst 0, 1) := by decide +kernel
theorem d_Md_applied_205 : decode m_Md_applied.2.1 205 = .ok (.iload_n 1, 1) := by decide +kernel
theorem d_Md_applied_206 : decode m_Md_applied.2.1 206 = .ok (.iadd, 1) := by decide +kernel
theorem d_Md_applied_207 : decode m_Md_applied.2.1 207 = .ok (.invokevirtual 57, 3) := by decide +kernel
theorem d_Md_applied_210 : decode m_Md_applied.2.1 210 = .ok (.aload_n 0, 1) := by decide +kernel
theorem d_Md_applied_211 : decode m_Md_applied.2.1 211 = .ok (.bipush 41, 2) := by decide +kernel
theorem d_Md_applied_213 : decode m_Md_applied.2.1 213 = .ok (.iconst 0, 1) := by decide +kernel
theorem d_Md_applied_214 : decode m_Md_applied.2.1 214 = .ok (.iload_n 2, 1) := by decide +kernel
theorem d_Md_applied_215 : decode m_Md_applied.2.1 215 = .ok (.iadd, 1) := by decide +kernel
theorem d_Md_applied_216 : decode m_Md_applied.2.1 216 = .ok (.invokevirtual 57, 3) := by decide +kernel
theorem d_Md_applied_219 : decode m_Md_applied.2.1 219 = .ok (.aload_n 0, 1) := by decide +kernel
theorem d_Md_applied_220 : decode m_Md_applied.2.1 220 = .ok (.getfield 13, 3) := by decide +kernel
theorem d_Md_applied_223 : decode m_Md_applied.2.1 223 = .ok (.bipush 40, 2) := by decide +kernel
theorem d_Md_applied_225 : decode m_Md_applied.2.1 225 = .ok (.iconst 0, 1) := by decide +kernel
theorem d_Md_applied_226 : decode m_Md_applied.2.1 226 = .ok (.iastore, 1) := by decide +kernel
theorem d_Md_applied_227 : decode m_Md_applied.2.1 227 = .ok (.aload_n 0, 1) := by decide +kernel
theorem d_Md_applied_228 : decode m_Md_applied.2.1 228 = .ok (.iload 5, 2) := by decide +kernel
theorem d_Md_applied_230 : decode m_Md_applied.2.1 230 = .ok (.iconst 0, 1) := by decide +kernel
theorem d_Md_applied_231 : decode m_Md_applied.2.1 231 = .ok (.iload_n 2, 1) := by decide +kernel
theorem d_Md_applied_232 : decode m_Md_applied.2.1 232 = .ok (.iadd, 1) := by decide +kernel
theorem d_Md_applied_233 : decode m_Md_applied.2.1 233 = .ok (.invokevirtual 123, 3) := by decide +kernel
theorem d_Md_applied_236 : decode m_Md_applied.2.1 236 = .ok (.aload_n 0, 1) := by decide +kernel
theorem d_Md_applied_237 : decode m_Md_applied.2.1 237 = .ok (.getfield 45, 3) := by decide +kernel
theorem d_Md_applied_240 : decode m_Md_applied.2.1 240 = .ok (.ifCond .eq 7, 3) := by decide +kernel
theorem d_Md_applied_243 : decode m_Md_applied.2.1 243 = .ok (.iconst 3, 1) := by decide +kernel
theorem d_Md_applied_244 : decode m_Md_applied.2.1 244 = .ok (.goto 4, 3) := by decide +kernel
theorem d_Md_applied_247 : decode m_Md_applied.2.1 247 = .ok (.iconst 0, 1) := by decide +kernel
theorem d_Md_applied_248 : decode m_Md_applied.2.1 248 = .ok (.ireturn, 1) := by decide +kernel
theorem d_Md_putTerm_0 : decode m_Md_putTerm.2.1 0 = .ok (.aload_n 0, 1) := by decide +kernel
theorem d_Md_putTerm_1 : decode m_Md_putTerm.2.1 1 = .ok (.iload_n 2, 1) := by decide +kernel
theorem d_Md_putTerm_2 : decode m_Md_putTerm.2.1 2 = .ok (.iconst 0, 1) := by decide +kernel
theorem d_Md_putTerm_3 : decode m_Md_putTerm.2.1 3 = .ok (.invokevirtual 71, 3) := by decide +kernel
theorem d_Md_putTerm_6 : decode m_Md_putTerm.2.1 6 = .ok (.aload_n 0, 1) := by decide +kernel
theorem d_Md_putTerm_7 : decode m_Md_putTerm.2.1 7 = .ok (.bipush 42, 2) := by decide +kernel
theorem d_Md_putTerm_9 : decode m_Md_putTerm.2.1 9 = .ok (.iconst 1, 1) := by decide +kernel
theorem d_Md_putTerm_10 : decode m_Md_putTerm.2.1 10 = .ok (.invokevirtual 71, 3) := by decide +kernel
theorem d_Md_putTerm_13 : decode m_Md_putTerm.2.1 13 = .ok (.iload_n 1, 1) := by decide +kernel
theorem d_Md_putTerm_14 : decode m_Md_putTerm.2.1 14 = .ok (.istore_n 3, 1) := by decide +kernel
theorem d_Md_putTerm_15 : decode m_Md_putTerm.2.1 15 = .ok (.iload_n 3, 1) := by decide +kernel
theorem d_Md_putTerm_16 : decode m_Md_putTerm.2.1 16 = .ok (.aload_n 0, 1) := by decide +kernel
theorem d_Md_putTerm_17 : decode m_Md_putTerm.2.1 17 = .ok (.getfield 13, 3) := by decide +kernel
theorem d_Md_putTerm_20 : decode m_Md_putTerm.2.1 20 = .ok (.bipush 42, 2) := by decide +kernel
theorem d_Md_putTerm_22 : decode m_Md_putTerm.2.1 22 = .ok (.iaload, 1) := by decide +kernel
theorem d_Md_putTerm_23 : decode m_Md_putTerm.2.1 23 = .ok (.if_icmp .ge 93, 3) := by decide +kernel
theorem d_Md_putTerm_26 : decode m_Md_putTerm.2.1 26 = .ok (.aload_n 0, 1) := by decide +kernel
theorem d_Md_putTerm_27 : decode m_Md_putTerm.2.1 27 = .ok (.bipush 42, 2) := by decide +kernel
theorem d_Md_putTerm_29 : decode m_Md_putTerm.2.1 29 = .ok (.iload_n 3, 1) := by decide +kernel
theorem d_Md_putTerm_30 : decode m_Md_putTerm.2.1 30 = .ok (.invokevirtual 49, 3) := by decide +kernel
theorem d_Md_putTerm_33 : decode m_Md_putTerm.2.1 33 = .ok (.istore 4, 2) := by decide +kernel
theorem d_Md_putTerm_35 : decode m_Md_putTerm.2.1 35 = .ok (.bipush 100, 2) := by decide +kernel
theorem d_Md_putTerm_37 : decode m_Md_putTerm.2.1 37 = .ok (.aload_n 0, 1) := by decide +kernel
theorem d_Md_putTerm_38 : decode m_Md_putTerm.2.1 38 = .ok (.getfield 29, 3) := by decide +kernel
theorem d_Md_putTerm_41 : decode m_Md_putTerm.2.1 41 = .ok (.iload_n 3, 1) := by decide +kernel
theorem d_Md_putTerm_42 : decode m_Md_putTerm.2.1 42 = .ok (.iaload, 1) := by decide +kernel
theorem d_Md_putTerm_43 : decode m_Md_putTerm.2.1 43 = .ok (.iadd, 1) := by decide +kernel
theorem d_Md_putTerm_44 : decode m_Md_putTerm.2.1 44 = .ok (.aload_n 0, 1) := by decide +kernel
theorem d_Md_putTerm_45 : decode m_Md_putTerm.2.1 45 = .ok (.getfield 29, 3) := by decide +kernel
theorem d_Md_putTerm_48 : decode m_Md_putTerm.2.1 48 = .ok (.iload_n 1, 1) := by decide +kernel
theorem d_Md_putTerm_49 : decode m_Md_putTerm.2.1 49 = .ok (.iaload, 1) := by decide +kernel
theorem d_Md_putTerm_50 : decode m_Md_putTerm.2.1 50 = .ok (.isub, 1) := by decide +kernel
theorem d_Md_putTerm_51 : decode m_Md_putTerm.2.1 51 = .ok (.istore 5, 2) := by decide +kernel
theorem d_Md_putTerm_53 : decode m_Md_putTerm.2.1 53 = .ok (.iload 4, 2) := by decide +kernel
theorem d_Md_putTerm_55 : decode m_Md_putTerm.2.1 55 = .ok (.iload 5, 2) := by decide +kernel
theorem d_Md_putTerm_57 : decode m_Md_putTerm.2.1 57 = .ok (.if_icmp .ge 14, 3) := by decide +kernel
theorem d_Md_putTerm_60 : decode m_Md_putTerm.2.1 60 = .ok (.aload_n 0, 1) := by decide +kernel
theorem d_Md_putTerm_61 : decode m_Md_putTerm.2.1 61 = .ok (.bipush 40, 2) := by decide +kernel
theorem d_Md_putTerm_63 : decode m_Md_putTerm.2.1 63 = .ok (.iload 4, 2) := by decide +kernel
theorem d_Md_putTerm_65 : decode m_Md_putTerm.2.1 65 = .ok (.invokevirtual 53, 3) := by decide +kernel
theorem d_Md_putTerm_68 : decode m_Md_putTerm.2.1 68 = .ok (.goto 42, 3) := by decide +kernel
theorem d_Md_putTerm_71 : decode m_Md_putTerm.2.1 71 = .ok (.iload 4, 2) := by decide +kernel
theorem d_Md_putTerm_73 : decode m_Md_putTerm.2.1 73 = .ok (.iload 5, 2) := by decide +kernel
theorem d_Md_putTerm_75 : decode m_Md_putTerm.2.1 75 = .ok (.if_icmp .ne 25, 3) := by decide +kernel
theorem d_Md_putTerm_78 : decode m_Md_putTerm.2.1 78 = .ok (.aload_n 0, 1) := by decide +kernel
theorem d_Md_putTerm_79 : decode m_Md_putTerm.2.1 79 = .ok (.bipush 40, 2) := by decide +kernel
theorem d_Md_putTerm_81 : decode m_Md_putTerm.2.1 81 = .ok (.iload_n 2, 1) := by decide +kernel
theorem d_Md_putTerm_82 : decode m_Md_putTerm.2.1 82 = .ok (.iconst 0, 1) := by decide +kernel
theorem d_Md_putTerm_83 : decode m_Md_putTerm.2.1 83 = .ok (.aload_n 0, 1) := by decide +kernel
theorem d_Md_putTerm_84 : decode m_Md_putTerm.2.1 84 = .ok (.getfield 13, 3) := by decide +kernel
theorem d_Md_putTerm_87 : decode m_Md_putTerm.2.1 87 = .ok (.iload_n 2, 1) := by decide +kernel
theorem d_Md_putTerm_88 : decode m_Md_putTerm.2.1 88 = .ok (.iaload, 1) := by decide +kernel
theorem d_Md_putTerm_89 : decode m_Md_putTerm.2.1 89 = .ok (.iload 4, 2) := by decide +kernel
theorem d_Md_putTerm_91 : decode m_Md_putTerm.2.1 91 = .ok (.bipush 100, 2) := by decide +kernel
theorem d_Md_putTerm_93 : decode m_Md_putTerm.2.1 93 = .ok (.isub, 1) := by decide +kernel
theorem d_Md_putTerm_94 : decode m_Md_putTerm.2.1 94 = .ok (.invokevirtual 64, 3) := by decide +kernel
theorem d_Md_putTerm_97 : decode m_Md_putTerm.2.1 97 = .ok (.goto 13, 3) := by decide +kernel
theorem d_Md_putTerm_100 : decode m_Md_putTerm.2.1 100 = .ok (.aload_n 0, 1) := by decide +kernel
theorem d_Md_putTerm_101 : decode m_Md_putTerm.2.1 101 = .ok (.bipush 40, 2) := by decide +kernel
theorem d_Md_putTerm_103 : decode m_Md_putTerm.2.1 103 = .ok (.iload 4, 2) := by decide +kernel
theorem d_Md_putTerm_105 : decode m_Md_putTerm.2.1 105 = .ok (.iconst 1, 1) := by decide +kernel
theorem d_Md_putTerm_106 : decode m_Md_putTerm.2.1 106 = .ok (.isub, 1) := by decide +kernel
theorem d_Md_putTerm_107 : decode m_Md_putTerm.2.1 107 = .ok (.invokevirtual 53, 3) := by decide +kernel
theorem d_Md_putTerm_110 : decode m_Md_putTerm.2.1 110 = .ok (.iinc 3 1, 3) := by decide +kernel
theorem d_Md_putTerm_113 : decode m_Md_putTerm.2.1 113 = .ok (.goto (-98), 3) := by decide +kernel
theorem d_Md_putTerm_116 : decode m_Md_putTerm.2.1 116 = .ok (.return_, 1) := by decide +kernel
theorem d_Md_apply_0 : decode m_Md_apply.2.1 0 = .ok (.aload_n 0, 1) := by decide +kernel
theorem d_Md_apply_1 : decode m_Md_apply.2.1 1 = .ok (.aload_n 0, 1) := by decide +kernel
theorem d_Md_apply_2 : decode m_Md_apply.2.1 2 = .ok (.getfield 107, 3) := by decide +kernel
theorem d_Md_apply_5 : decode m_Md_apply.2.1 5 = .ok (.iconst 2, 1) := by decide +kernel
theorem d_Md_apply_6 : decode m_Md_apply.2.1 6 = .ok (.if_icmp .ge 7, 3) := by decide +kernel
theorem d_Md_apply_9 : decode m_Md_apply.2.1 9 = .ok (.iconst 1, 1) := by decide +kernel
theorem d_Md_apply_10 : decode m_Md_apply.2.1 10 = .ok (.goto 7, 3) := by decide +kernel
theorem d_Md_apply_13 : decode m_Md_apply.2.1 13 = .ok (.aload_n 0, 1) := by decide +kernel
theorem d_Md_apply_14 : decode m_Md_apply.2.1 14 = .ok (.invokevirtual 126, 3) := by decide +kernel
theorem d_Md_apply_17 : decode m_Md_apply.2.1 17 = .ok (.putfield 41, 3) := by decide +kernel
theorem d_Md_apply_20 : decode m_Md_apply.2.1 20 = .ok (.aload_n 0, 1) := by decide +kernel
theorem d_Md_apply_21 : decode m_Md_apply.2.1 21 = .ok (.getfield 41, 3) := by decide +kernel
theorem d_Md_apply_24 : decode m_Md_apply.2.1 24 = .ok (.ifCond .ne 42, 3) := by decide +kernel
theorem d_Md_apply_27 : decode m_Md_apply.2.1 27 = .ok (.aload_n 0, 1) := by decide +kernel
theorem d_Md_apply_28 : decode m_Md_apply.2.1 28 = .ok (.dup, 1) := by decide +kernel
theorem d_Md_apply_29 : decode m_Md_apply.2.1 29 = .ok (.getfield 107, 3) := by decide +kernel
theorem d_Md_apply_32 : decode m_Md_apply.2.1 32 = .ok (.iconst 1, 1) := by decide +kernel
theorem d_Md_apply_33 : decode m_Md_apply.2.1 33 = .ok (.isub, 1) := by decide +kernel
theorem d_Md_apply_34 : decode m_Md_apply.2.1 34 = .ok (.putfield 107, 3) := by decide +kernel
theorem d_Md_apply_37 : decode m_Md_apply.2.1 37 = .ok (.aload_n 0, 1) := by decide +kernel
theorem d_Md_apply_38 : decode m_Md_apply.2.1 38 = .ok (.bipush 41, 2) := by decide +kernel
theorem d_Md_apply_40 : decode m_Md_apply.2.1 40 = .ok (.iconst 0, 1) := by decide +kernel
theorem d_Md_apply_41 : decode m_Md_apply.2.1 41 = .ok (.aload_n 0, 1) := by decide +kernel
theorem d_Md_apply_42 : decode m_Md_apply.2.1 42 = .ok (.getfield 107, 3) := by decide +kernel
theorem d_Md_apply_45 : decode m_Md_apply.2.1 45 = .ok (.iadd, 1) := by decide +kernel
theorem d_Md_apply_46 : decode m_Md_apply.2.1 46 = .ok (.iconst 1, 1) := by decide +kernel
theorem d_Md_apply_47 : decode m_Md_apply.2.1 47 = .ok (.isub, 1) := by decide +kernel
theorem d_Md_apply_48 : decode m_Md_apply.2.1 48 = .ok (.invokevirtual 90, 3) := by decide +kernel
theorem d_Md_apply_51 : decode m_Md_apply.2.1 51 = .ok (.aload_n 0, 1) := by decide +kernel
theorem d_Md_apply_52 : decode m_Md_apply.2.1 52 = .ok (.bipush 40, 2) := by decide +kernel
theorem d_Md_apply_54 : decode m_Md_apply.2.1 54 = .ok (.bipush 6, 2) := by decide +kernel
theorem d_Md_apply_56 : decode m_Md_apply.2.1 56 = .ok (.aload_n 0, 1) := by decide +kernel
theorem d_Md_apply_57 : decode m_Md_apply.2.1 57 = .ok (.getfield 107, 3) := by decide +kernel
theorem d_Md_apply_60 : decode m_Md_apply.2.1 60 = .ok (.iadd, 1) := by decide +kernel
theorem d_Md_apply_61 : decode m_Md_apply.2.1 61 = .ok (.iconst 1, 1) := by decide +kernel
theorem d_Md_apply_62 : decode m_Md_apply.2.1 62 = .ok (.isub, 1) := by decide +kernel
theorem d_Md_apply_63 : decode m_Md_apply.2.1 63 = .ok (.invokevirtual 90, 3) := by decide +kernel
theorem d_Md_apply_66 : decode m_Md_apply.2.1 66 = .ok (.return_, 1) := by decide +kernel
theorem d_Md_assume_0 : decode m_Md_assume.2.1 0 = .ok (.aload_n 0, 1) := by decide +kernel
theorem d_Md_assume_1 : decode m_Md_assume.2.1 1 = .ok (.getfield 107, 3) := by decide +kernel
theorem d_Md_assume_4 : decode m_Md_assume.2.1 4 = .ok (.iconst 1, 1) := by decide +kernel
theorem d_Md_assume_5 : decode m_Md_assume.2.1 5 = .ok (.isub, 1) := by decide +kernel
theorem d_Md_assume_6 : decode m_Md_assume.2.1 6 = .ok (.istore_n 1, 1) := by decide +kernel
theorem d_Md_assume_7 : decode m_Md_assume.2.1 7 = .ok (.aload_n 0, 1) := by decide +kernel
theorem d_Md_assume_8 : decode m_Md_assume.2.1 8 = .ok (.aload_n 0, 1) := by decide +kernel
theorem d_Md_assume_9 : decode m_Md_assume.2.1 9 = .ok (.iload_n 1, 1) := by decide +kernel
theorem d_Md_assume_10 : decode m_Md_assume.2.1 10 = .ok (.invokevirtual 110, 3) := by decide +kernel
theorem d_Md_assume_13 : decode m_Md_assume.2.1 13 = .ok (.ifCond .ne 7, 3) := by decide +kernel
theorem d_Md_assume_16 : decode m_Md_assume.2.1 16 = .ok (.iconst 1, 1) := by decide +kernel
theorem d_Md_assume_17 : decode m_Md_assume.2.1 17 = .ok (.goto 32, 3) := by decide +kernel
theorem d_Md_assume_20 : decode m_Md_assume.2.1 20 = .ok (.aload_n 0, 1) := by decide +kernel
theorem d_Md_assume_21 : decode m_Md_assume.2.1 21 = .ok (.getfield 104, 3) := by decide +kernel
theorem d_Md_assume_24 : decode m_Md_assume.2.1 24 = .ok (.iconst 4, 1) := by decide +kernel
theorem d_Md_assume_25 : decode m_Md_assume.2.1 25 = .ok (.if_icmp .ne 7, 3) := by decide +kernel
theorem d_Md_assume_28 : decode m_Md_assume.2.1 28 = .ok (.iconst 2, 1) := by decide +kernel
theorem d_Md_assume_29 : decode m_Md_assume.2.1 29 = .ok (.goto 20, 3) := by decide +kernel
theorem d_Md_assume_32 : decode m_Md_assume.2.1 32 = .ok (.aload_n 0, 1) := by decide +kernel
theorem d_Md_assume_33 : decode m_Md_assume.2.1 33 = .ok (.bipush 6, 2) := by decide +kernel
theorem d_Md_assume_35 : decode m_Md_assume.2.1 35 = .ok (.iload_n 1, 1) := by decide +kernel
theorem d_Md_assume_36 : decode m_Md_assume.2.1 36 = .ok (.iadd, 1) := by decide +kernel
theorem d_Md_assume_37 : decode m_Md_assume.2.1 37 = .ok (.iconst 0, 1) := by decide +kernel
theorem d_Md_assume_38 : decode m_Md_assume.2.1 38 = .ok (.invokevirtual 129, 3) := by decide +kernel
theorem d_Md_assume_41 : decode m_Md_assume.2.1 41 = .ok (.ifCond .ne 7, 3) := by decide +kernel
theorem d_Md_assume_44 : decode m_Md_assume.2.1 44 = .ok (.iconst 3, 1) := by decide +kernel
theorem d_Md_assume_45 : decode m_Md_assume.2.1 45 = .ok (.goto 4, 3) := by decide +kernel
theorem d_Md_assume_48 : decode m_Md_assume.2.1 48 = .ok (.iconst 0, 1) := by decide +kernel
theorem d_Md_assume_49 : decode m_Md_assume.2.1 49 = .ok (.putfield 41, 3) := by decide +kernel
theorem d_Md_assume_52 : decode m_Md_assume.2.1 52 = .ok (.aload_n 0, 1) := by decide +kernel
theorem d_Md_assume_53 : decode m_Md_assume.2.1 53 = .ok (.getfield 41, 3) := by decide +kernel
theorem d_Md_assume_56 : decode m_Md_assume.2.1 56 = .ok (.ifCond .ne 37, 3) := by decide +kernel
theorem d_Md_assume_59 : decode m_Md_assume.2.1 59 = .ok (.aload_n 0, 1) := by decide +kernel
theorem d_Md_assume_60 : decode m_Md_assume.2.1 60 = .ok (.iconst 0, 1) := by decide +kernel
theorem d_Md_assume_61 : decode m_Md_assume.2.1 61 = .ok (.iload_n 1, 1) := by decide +kernel
theorem d_Md_assume_62 : decode m_Md_assume.2.1 62 = .ok (.iadd, 1) := by decide +kernel
theorem d_Md_assume_63 : decode m_Md_assume.2.1 63 = .ok (.bipush 12, 2) := by decide +kernel
theorem d_Md_assume_65 : decode m_Md_assume.2.1 65 = .ok (.aload_n 0, 1) := by decide +kernel
theorem d_Md_assume_66 : decode m_Md_assume.2.1 66 = .ok (.getfield 104, 3) := by decide +kernel
theorem d_Md_assume_69 : decode m_Md_assume.2.1 69 = .ok (.iadd, 1) := by decide +kernel
theorem d_Md_assume_70 : decode m_Md_assume.2.1 70 = .ok (.invokevirtual 90, 3) := by decide +kernel
theorem d_Md_assume_73 : decode m_Md_assume.2.1 73 = .ok (.aload_n 0, 1) := by decide +kernel
theorem d_Md_assume_74 : decode m_Md_assume.2.1 74 = .ok (.dup, 1) := by decide +kernel
theorem d_Md_assume_75 : decode m_Md_assume.2.1 75 = .ok (.getfield 104, 3) := by decide +kernel
theorem d_Md_assume_78 : decode m_Md_assume.2.1 78 = .ok (.iconst 1, 1) := by decide +kernel
theorem d_Md_assume_79 : decode m_Md_assume.2.1 79 = .ok (.iadd, 1) := by decide +kernel
theorem d_Md_assume_80 : decode m_Md_assume.2.1 80 = .ok (.putfield 104, 3) := by decide +kernel
theorem d_Md_assume_83 : decode m_Md_assume.2.1 83 = .ok (.aload_n 0, 1) := by decide +kernel
theorem d_Md_assume_84 : decode m_Md_assume.2.1 84 = .ok (.dup, 1) := by decide +kernel
theorem d_Md_assume_85 : decode m_Md_assume.2.1 85 = .ok (.getfield 107, 3) := by decide +kernel
theorem d_Md_assume_88 : decode m_Md_assume.2.1 88 = .ok (.iconst 1, 1) := by decide +kernel
theorem d_Md_assume_89 : decode m_Md_assume.2.1 89 = .ok (.isub, 1) := by decide +kernel
theorem d_Md_assume_90 : decode m_Md_assume.2.1 90 = .ok (.putfield 107, 3) := by decide +kernel
theorem d_Md_assume_93 : decode m_Md_assume.2.1 93 = .ok (.return_, 1) := by decide +kernel
theorem d_Md_binds_0 : decode m_Md_binds.2.1 0 = .ok (.aload_n 0, 1) := by decide +kernel
theorem d_Md_binds_1 : decode m_Md_binds.2.1 1 = .ok (.iconst 0, 1) := by decide +kernel
theorem d_Md_binds_2 : decode m_Md_binds.2.1 2 = .ok (.putfield 45, 3) := by decide +kernel
theorem d_Md_binds_5 : decode m_Md_binds.2.1 5 = .ok (.aload_n 0, 1) := by decide +kernel
theorem d_Md_binds_6 : decode m_Md_binds.2.1 6 = .ok (.getfield 13, 3) := by decide +kernel
theorem d_Md_binds_9 : decode m_Md_binds.2.1 9 = .ok (.bipush 41, 2) := by decide +kernel
theorem d_Md_binds_11 : decode m_Md_binds.2.1 11 = .ok (.iconst 0, 1) := by decide +kernel
theorem d_Md_binds_12 : decode m_Md_binds.2.1 12 = .ok (.iastore, 1) := by decide +kernel
theorem d_Md_binds_13 : decode m_Md_binds.2.1 13 = .ok (.aload_n 0, 1) := by decide +kernel
theorem d_Md_binds_14 : decode m_Md_binds.2.1 14 = .ok (.bipush 41, 2) := by decide +kernel
theorem d_Md_binds_16 : decode m_Md_binds.2.1 16 = .ok (.iload_n 1, 1) := by decide +kernel
theorem d_Md_binds_17 : decode m_Md_binds.2.1 17 = .ok (.invokevirtual 53, 3) := by decide +kernel
theorem d_Md_binds_20 : decode m_Md_binds.2.1 20 = .ok (.aload_n 0, 1) := by decide +kernel
theorem d_Md_binds_21 : decode m_Md_binds.2.1 21 = .ok (.bipush 41, 2) := by decide +kernel
theorem d_Md_binds_23 : decode m_Md_binds.2.1 23 = .ok (.bipush 12, 2) := by decide +kernel
theorem d_Md_binds_25 : decode m_Md_binds.2.1 25 = .ok (.aload_n 0, 1) := by decide +kernel
theorem d_Md_binds_26 : decode m_Md_binds.2.1 26 = .ok (.getfield 104, 3) := by decide +kernel
theorem d_Md_binds_29 : decode m_Md_binds.2.1 29 = .ok (.iadd, 1) := by decide +kernel
theorem d_Md_binds_30 : decode m_Md_binds.2.1 30 = .ok (.iconst 1, 1) := by decide +kernel
theorem d_Md_binds_31 : decode m_Md_binds.2.1 31 = .ok (.isub, 1) := by decide +kernel
theorem d_Md_binds_32 : decode m_Md_binds.2.1 32 = .ok (.invokevirtual 57, 3) := by decide +kernel
theorem d_Md_binds_35 : decode m_Md_binds.2.1 35 = .ok (.aload_n 0, 1) := by decide +kernel
theorem d_Md_binds_36 : decode m_Md_binds.2.1 36 = .ok (.bipush 41, 2) := by decide +kernel
theorem d_Md_binds_38 : decode m_Md_binds.2.1 38 = .ok (.iload_n 2, 1) := by decide +kernel
theorem d_Md_binds_39 : decode m_Md_binds.2.1 39 = .ok (.invokevirtual 57, 3) := by decide +kernel
theorem d_Md_binds_42 : decode m_Md_binds.2.1 42 = .ok (.aload_n 0, 1) := by decide +kernel
theorem d_Md_binds_43 : decode m_Md_binds.2.1 43 = .ok (.getfield 45, 3) := by decide +kernel
theorem d_Md_binds_46 : decode m_Md_binds.2.1 46 = .ok (.ifCond .ne 7, 3) := by decide +kernel
theorem d_Md_binds_49 : decode m_Md_binds.2.1 49 = .ok (.iconst 1, 1) := by decide +kernel
theorem d_Md_binds_50 : decode m_Md_binds.2.1 50 = .ok (.goto 4, 3) := by decide +kernel
theorem d_Md_binds_53 : decode m_Md_binds.2.1 53 = .ok (.iconst 0, 1) := by decide +kernel
theorem d_Md_binds_54 : decode m_Md_binds.2.1 54 = .ok (.ireturn, 1) := by decide +kernel
theorem d_Md_canBind_0 : decode m_Md_canBind.2.1 0 = .ok (.aload_n 0, 1) := by decide +kernel
theorem d_Md_canBind_1 : decode m_Md_canBind.2.1 1 = .ok (.getfield 104, 3) := by decide +kernel
theorem d_Md_canBind_4 : decode m_Md_canBind.2.1 4 = .ok (.ifCond .le 27, 3) := by decide +kernel
theorem d_Md_canBind_7 : decode m_Md_canBind.2.1 7 = .ok (.aload_n 0, 1) := by decide +kernel
theorem d_Md_canBind_8 : decode m_Md_canBind.2.1 8 = .ok (.aload_n 0, 1) := by decide +kernel
theorem d_Md_canBind_9 : decode m_Md_canBind.2.1 9 = .ok (.getfield 107, 3) := by decide +kernel
theorem d_Md_canBind_12 : decode m_Md_canBind.2.1 12 = .ok (.iconst 1, 1) := by decide +kernel
theorem d_Md_canBind_13 : decode m_Md_canBind.2.1 13 = .ok (.isub, 1) := by decide +kernel
theorem d_Md_canBind_14 : decode m_Md_canBind.2.1 14 = .ok (.invokevirtual 110, 3) := by decide +kernel
theorem d_Md_canBind_17 : decode m_Md_canBind.2.1 17 = .ok (.ifCond .eq 14, 3) := by decide +kernel
theorem d_Md_canBind_20 : decode m_Md_canBind.2.1 20 = .ok (.aload_n 0, 1) := by decide +kernel
theorem d_Md_canBind_21 : decode m_Md_canBind.2.1 21 = .ok (.invokevirtual 132, 3) := by decide +kernel
theorem d_Md_canBind_24 : decode m_Md_canBind.2.1 24 = .ok (.ifCond .eq 7, 3) := by decide +kernel
theorem d_Md_canBind_27 : decode m_Md_canBind.2.1 27 = .ok (.iconst 1, 1) := by decide +kernel
theorem d_Md_canBind_28 : decode m_Md_canBind.2.1 28 = .ok (.goto 4, 3) := by decide +kernel
theorem d_Md_canBind_31 : decode m_Md_canBind.2.1 31 = .ok (.iconst 0, 1) := by decide +kernel
theorem d_Md_canBind_32 : decode m_Md_canBind.2.1 32 = .ok (.ireturn, 1) := by decide +kernel
theorem d_Md_close_0 : decode m_Md_close.2.1 0 = .ok (.aload_n 0, 1) := by decide +kernel
theorem d_Md_close_1 : decode m_Md_close.2.1 1 = .ok (.dup, 1) := by decide +kernel
theorem d_Md_close_2 : decode m_Md_close.2.1 2 = .ok (.getfield 104, 3) := by decide +kernel
theorem d_Md_close_5 : decode m_Md_close.2.1 5 = .ok (.iconst 1, 1) := by decide +kernel
theorem d_Md_close_6 : decode m_Md_close.2.1 6 = .ok (.isub, 1) := by decide +kernel
theorem d_Md_close_7 : decode m_Md_close.2.1 7 = .ok (.putfield 104, 3) := by decide +kernel
theorem d_Md_close_10 : decode m_Md_close.2.1 10 = .ok (.aload_n 0, 1) := by decide +kernel
theorem d_Md_close_11 : decode m_Md_close.2.1 11 = .ok (.getfield 16, 3) := by decide +kernel
theorem d_Md_close_14 : decode m_Md_close.2.1 14 = .ok (.aload_n 0, 1) := by decide +kernel
theorem d_Md_close_15 : decode m_Md_close.2.1 15 = .ok (.getfield 107, 3) := by decide +kernel
theorem d_Md_close_18 : decode m_Md_close.2.1 18 = .ok (.iconst 1, 1) := by decide +kernel
theorem d_Md_close_19 : decode m_Md_close.2.1 19 = .ok (.isub, 1) := by decide +kernel
theorem d_Md_close_20 : decode m_Md_close.2.1 20 = .ok (.aload_n 0, 1) := by decide +kernel
theorem d_Md_close_21 : decode m_Md_close.2.1 21 = .ok (.getfield 104, 3) := by decide +kernel
theorem d_Md_close_24 : decode m_Md_close.2.1 24 = .ok (.iastore, 1) := by decide +kernel
theorem d_Md_close_25 : decode m_Md_close.2.1 25 = .ok (.return_, 1) := by decide +kernel
theorem d_Md_lambda_0 : decode m_Md_lambda.2.1 0 = .ok (.aload_n 0, 1) := by decide +kernel
theorem d_Md_lambda_1 : decode m_Md_lambda.2.1 1 = .ok (.getfield 107, 3) := by decide +kernel
theorem d_Md_lambda_4 : decode m_Md_lambda.2.1 4 = .ok (.iconst 1, 1) := by decide +kernel
theorem d_Md_lambda_5 : decode m_Md_lambda.2.1 5 = .ok (.isub, 1) := by decide +kernel
theorem d_Md_lambda_6 : decode m_Md_lambda.2.1 6 = .ok (.istore_n 1, 1) := by decide +kernel
theorem d_Md_lambda_7 : decode m_Md_lambda.2.1 7 = .ok (.aload_n 0, 1) := by decide +kernel
theorem d_Md_lambda_8 : decode m_Md_lambda.2.1 8 = .ok (.aload_n 0, 1) := by decide +kernel
theorem d_Md_lambda_9 : decode m_Md_lambda.2.1 9 = .ok (.invokevirtual 135, 3) := by decide +kernel
theorem d_Md_lambda_12 : decode m_Md_lambda.2.1 12 = .ok (.ifCond .ne 7, 3) := by decide +kernel
theorem d_Md_lambda_15 : decode m_Md_lambda.2.1 15 = .ok (.iconst 1, 1) := by decide +kernel
theorem d_Md_lambda_16 : decode m_Md_lambda.2.1 16 = .ok (.goto 47, 3) := by decide +kernel
theorem d_Md_lambda_19 : decode m_Md_lambda.2.1 19 = .ok (.aload_n 0, 1) := by decide +kernel
theorem d_Md_lambda_20 : decode m_Md_lambda.2.1 20 = .ok (.bipush 6, 2) := by decide +kernel
theorem d_Md_lambda_22 : decode m_Md_lambda.2.1 22 = .ok (.iload_n 1, 1) := by decide +kernel
theorem d_Md_lambda_23 : decode m_Md_lambda.2.1 23 = .ok (.iadd, 1) := by decide +kernel
theorem d_Md_lambda_24 : decode m_Md_lambda.2.1 24 = .ok (.iconst 1, 1) := by decide +kernel
theorem d_Md_lambda_25 : decode m_Md_lambda.2.1 25 = .ok (.invokevirtual 129, 3) := by decide +kernel
theorem d_Md_lambda_28 : decode m_Md_lambda.2.1 28 = .ok (.ifCond .eq 7, 3) := by decide +kernel
theorem d_Md_lambda_31 : decode m_Md_lambda.2.1 31 = .ok (.iconst 2, 1) := by decide +kernel
theorem d_Md_lambda_32 : decode m_Md_lambda.2.1 32 = .ok (.goto 31, 3) := by decide +kernel
theorem d_Md_lambda_35 : decode m_Md_lambda.2.1 35 = .ok (.aload_n 0, 1) := by decide +kernel
theorem d_Md_lambda_36 : decode m_Md_lambda.2.1 36 = .ok (.iconst 3, 1) := by decide +kernel
theorem d_Md_lambda_37 : decode m_Md_lambda.2.1 37 = .ok (.iconst 0, 1) := by decide +kernel
theorem d_Md_lambda_38 : decode m_Md_lambda.2.1 38 = .ok (.iload_n 1, 1) := by decide +kernel
theorem d_Md_lambda_39 : decode m_Md_lambda.2.1 39 = .ok (.iadd, 1) := by decide +kernel
theorem d_Md_lambda_40 : decode m_Md_lambda.2.1 40 = .ok (.invokevirtual 138, 3) := by decide +kernel
theorem d_Md_lambda_43 : decode m_Md_lambda.2.1 43 = .ok (.ifCond .eq 19, 3) := by decide +kernel
theorem d_Md_lambda_46 : decode m_Md_lambda.2.1 46 = .ok (.aload_n 0, 1) := by decide +kernel
theorem d_Md_lambda_47 : decode m_Md_lambda.2.1 47 = .ok (.iconst 4, 1) := by decide +kernel
theorem d_Md_lambda_48 : decode m_Md_lambda.2.1 48 = .ok (.bipush 6, 2) := by decide +kernel
theorem d_Md_lambda_50 : decode m_Md_lambda.2.1 50 = .ok (.iload_n 1, 1) := by decide +kernel
theorem d_Md_lambda_51 : decode m_Md_lambda.2.1 51 = .ok (.iadd, 1) := by decide +kernel
theorem d_Md_lambda_52 : decode m_Md_lambda.2.1 52 = .ok (.invokevirtual 138, 3) := by decide +kernel
theorem d_Md_lambda_55 : decode m_Md_lambda.2.1 55 = .ok (.ifCond .eq 7, 3) := by decide +kernel
theorem d_Md_lambda_58 : decode m_Md_lambda.2.1 58 = .ok (.iconst 0, 1) := by decide +kernel
theorem d_Md_lambda_59 : decode m_Md_lambda.2.1 59 = .ok (.goto 4, 3) := by decide +kernel
theorem d_Md_lambda_62 : decode m_Md_lambda.2.1 62 = .ok (.iconst 3, 1) := by decide +kernel
theorem d_Md_lambda_63 : decode m_Md_lambda.2.1 63 = .ok (.putfield 41, 3) := by decide +kernel
theorem d_Md_lambda_66 : decode m_Md_lambda.2.1 66 = .ok (.aload_n 0, 1) := by decide +kernel
theorem d_Md_lambda_67 : decode m_Md_lambda.2.1 67 = .ok (.getfield 41, 3) := by decide +kernel
theorem d_Md_lambda_70 : decode m_Md_lambda.2.1 70 = .ok (.ifCond .ne 35, 3) := by decide +kernel
theorem d_Md_lambda_73 : decode m_Md_lambda.2.1 73 = .ok (.aload_n 0, 1) := by decide +kernel
theorem d_Md_lambda_74 : decode m_Md_lambda.2.1 74 = .ok (.bipush 41, 2) := by decide +kernel
theorem d_Md_lambda_76 : decode m_Md_lambda.2.1 76 = .ok (.bipush 6, 2) := by decide +kernel
theorem d_Md_lambda_78 : decode m_Md_lambda.2.1 78 = .ok (.iload_n 1, 1) := by decide +kernel
theorem d_Md_lambda_79 : decode m_Md_lambda.2.1 79 = .ok (.iadd, 1) := by decide +kernel
theorem d_Md_lambda_80 : decode m_Md_lambda.2.1 80 = .ok (.invokevirtual 90, 3) := by decide +kernel
theorem d_Md_lambda_83 : decode m_Md_lambda.2.1 83 = .ok (.aload_n 0, 1) := by decide +kernel
theorem d_Md_lambda_84 : decode m_Md_lambda.2.1 84 = .ok (.iconst 3, 1) := by decide +kernel
theorem d_Md_lambda_85 : decode m_Md_lambda.2.1 85 = .ok (.iconst 0, 1) := by decide +kernel
theorem d_Md_lambda_86 : decode m_Md_lambda.2.1 86 = .ok (.iload_n 1, 1) := by decide +kernel
theorem d_Md_lambda_87 : decode m_Md_lambda.2.1 87 = .ok (.iadd, 1) := by decide +kernel
theorem d_Md_lambda_88 : decode m_Md_lambda.2.1 88 = .ok (.invokevirtual 138, 3) := by decide +kernel
theorem d_Md_lambda_91 : decode m_Md_lambda.2.1 91 = .ok (.istore_n 2, 1) := by decide +kernel
theorem d_Md_lambda_92 : decode m_Md_lambda.2.1 92 = .ok (.aload_n 0, 1) := by decide +kernel
theorem d_Md_lambda_93 : decode m_Md_lambda.2.1 93 = .ok (.bipush 41, 2) := by decide +kernel
theorem d_Md_lambda_95 : decode m_Md_lambda.2.1 95 = .ok (.iconst 0, 1) := by decide +kernel
theorem d_Md_lambda_96 : decode m_Md_lambda.2.1 96 = .ok (.iload_n 1, 1) := by decide +kernel
theorem d_Md_lambda_97 : decode m_Md_lambda.2.1 97 = .ok (.iadd, 1) := by decide +kernel
theorem d_Md_lambda_98 : decode m_Md_lambda.2.1 98 = .ok (.invokevirtual 90, 3) := by decide +kernel
theorem d_Md_lambda_101 : decode m_Md_lambda.2.1 101 = .ok (.aload_n 0, 1) := by decide +kernel
theorem d_Md_lambda_102 : decode m_Md_lambda.2.1 102 = .ok (.invokevirtual 141, 3) := by decide +kernel
theorem d_Md_lambda_105 : decode m_Md_lambda.2.1 105 = .ok (.return_, 1) := by decide +kernel
theorem d_Md_product_0 : decode m_Md_product.2.1 0 = .ok (.aload_n 0, 1) := by decide +kernel
theorem d_Md_product_1 : decode m_Md_product.2.1 1 = .ok (.getfield 107, 3) := by decide +kernel
theorem d_Md_product_4 : decode m_Md_product.2.1 4 = .ok (.iconst 1, 1) := by decide +kernel
theorem d_Md_product_5 : decode m_Md_product.2.1 5 = .ok (.isub, 1) := by decide +kernel
theorem d_Md_product_6 : decode m_Md_product.2.1 6 = .ok (.istore_n 1, 1) := by decide +kernel
theorem d_Md_product_7 : decode m_Md_product.2.1 7 = .ok (.aload_n 0, 1) := by decide +kernel
theorem d_Md_product_8 : decode m_Md_product.2.1 8 = .ok (.aload_n 0, 1) := by decide +kernel
theorem d_Md_product_9 : decode m_Md_product.2.1 9 = .ok (.invokevirtual 135, 3) := by decide +kernel
theorem d_Md_product_12 : decode m_Md_product.2.1 12 = .ok (.ifCond .ne 7, 3) := by decide +kernel
theorem d_Md_product_15 : decode m_Md_product.2.1 15 = .ok (.iconst 1, 1) := by decide +kernel
theorem d_Md_product_16 : decode m_Md_product.2.1 16 = .ok (.goto 47, 3) := by decide +kernel
theorem d_Md_product_19 : decode m_Md_product.2.1 19 = .ok (.aload_n 0, 1) := by decide +kernel
theorem d_Md_product_20 : decode m_Md_product.2.1 20 = .ok (.bipush 6, 2) := by decide +kernel
theorem d_Md_product_22 : decode m_Md_product.2.1 22 = .ok (.iload_n 1, 1) := by decide +kernel
theorem d_Md_product_23 : decode m_Md_product.2.1 23 = .ok (.iadd, 1) := by decide +kernel
theorem d_Md_product_24 : decode m_Md_product.2.1 24 = .ok (.iconst 0, 1) := by decide +kernel
theorem d_Md_product_25 : decode m_Md_product.2.1 25 = .ok (.invokevirtual 129, 3) := by decide +kernel
theorem d_Md_product_28 : decode m_Md_product.2.1 28 = .ok (.ifCond .ne 19, 3) := by decide +kernel
theorem d_Md_product_31 : decode m_Md_product.2.1 31 = .ok (.aload_n 0, 1) := by decide +kernel
theorem d_Md_product_32 : decode m_Md_product.2.1 32 = .ok (.bipush 6, 2) := by decide +kernel
theorem d_Md_product_34 : decode m_Md_product.2.1 34 = .ok (.iload_n 1, 1) := by decide +kernel
theorem d_Md_product_35 : decode m_Md_product.2.1 35 = .ok (.iadd, 1) := by decide +kernel
theorem d_Md_product_36 : decode m_Md_product.2.1 36 = .ok (.iconst 1, 1) := by decide +kernel
theorem d_Md_product_37 : decode m_Md_product.2.1 37 = .ok (.invokevirtual 129, 3) := by decide +kernel
theorem d_Md_product_40 : decode m_Md_product.2.1 40 = .ok (.ifCond .ne 7, 3) := by decide +kernel
theorem d_Md_product_43 : decode m_Md_product.2.1 43 = .ok (.iconst 2, 1) := by decide +kernel
theorem d_Md_product_44 : decode m_Md_product.2.1 44 = .ok (.goto 19, 3) := by decide +kernel
theorem d_Md_product_47 : decode m_Md_product.2.1 47 = .ok (.aload_n 0, 1) := by decide +kernel
theorem d_Md_product_48 : decode m_Md_product.2.1 48 = .ok (.iconst 4, 1) := by decide +kernel
theorem d_Md_product_49 : decode m_Md_product.2.1 49 = .ok (.iconst 0, 1) := by decide +kernel
theorem d_Md_product_50 : decode m_Md_product.2.1 50 = .ok (.iload_n 1, 1) := by decide +kernel
theorem d_Md_product_51 : decode m_Md_product.2.1 51 = .ok (.iadd, 1) := by decide +kernel
theorem d_Md_product_52 : decode m_Md_product.2.1 52 = .ok (.invokevirtual 138, 3) := by decide +kernel
theorem d_Md_product_55 : decode m_Md_product.2.1 55 = .ok (.ifCond .eq 7, 3) := by decide +kernel
theorem d_Md_product_58 : decode m_Md_product.2.1 58 = .ok (.iconst 0, 1) := by decide +kernel
theorem d_Md_product_59 : decode m_Md_product.2.1 59 = .ok (.goto 4, 3) := by decide +kernel
theorem d_Md_product_62 : decode m_Md_product.2.1 62 = .ok (.iconst 3, 1) := by decide +kernel
theorem d_Md_product_63 : decode m_Md_product.2.1 63 = .ok (.putfield 41, 3) := by decide +kernel
theorem d_Md_product_66 : decode m_Md_product.2.1 66 = .ok (.aload_n 0, 1) := by decide +kernel
theorem d_Md_product_67 : decode m_Md_product.2.1 67 = .ok (.getfield 41, 3) := by decide +kernel
theorem d_Md_product_70 : decode m_Md_product.2.1 70 = .ok (.ifCond .ne 16, 3) := by decide +kernel
theorem d_Md_product_73 : decode m_Md_product.2.1 73 = .ok (.aload_n 0, 1) := by decide +kernel
theorem d_Md_product_74 : decode m_Md_product.2.1 74 = .ok (.bipush 41, 2) := by decide +kernel
theorem d_Md_product_76 : decode m_Md_product.2.1 76 = .ok (.iconst 0, 1) := by decide +kernel
theorem d_Md_product_77 : decode m_Md_product.2.1 77 = .ok (.iload_n 1, 1) := by decide +kernel
theorem d_Md_product_78 : decode m_Md_product.2.1 78 = .ok (.iadd, 1) := by decide +kernel
theorem d_Md_product_79 : decode m_Md_product.2.1 79 = .ok (.invokevirtual 90, 3) := by decide +kernel
theorem d_Md_product_82 : decode m_Md_product.2.1 82 = .ok (.aload_n 0, 1) := by decide +kernel
theorem d_Md_product_83 : decode m_Md_product.2.1 83 = .ok (.invokevirtual 141, 3) := by decide +kernel
theorem d_Md_product_86 : decode m_Md_product.2.1 86 = .ok (.return_, 1) := by decide +kernel
theorem d_Md_declare_0 : decode m_Md_declare.2.1 0 = .ok (.aload_n 0, 1) := by decide +kernel
theorem d_Md_declare_1 : decode m_Md_declare.2.1 1 = .ok (.getfield 107, 3) := by decide +kernel
theorem d_Md_declare_4 : decode m_Md_declare.2.1 4 = .ok (.iconst 1, 1) := by decide +kernel
theorem d_Md_declare_5 : decode m_Md_declare.2.1 5 = .ok (.isub, 1) := by decide +kernel
theorem d_Md_declare_6 : decode m_Md_declare.2.1 6 = .ok (.istore_n 2, 1) := by decide +kernel
theorem d_Md_declare_7 : decode m_Md_declare.2.1 7 = .ok (.aload_n 0, 1) := by decide +kernel
theorem d_Md_declare_8 : decode m_Md_declare.2.1 8 = .ok (.aload_n 0, 1) := by decide +kernel
theorem d_Md_declare_9 : decode m_Md_declare.2.1 9 = .ok (.getfield 107, 3) := by decide +kernel
theorem d_Md_declare_12 : decode m_Md_declare.2.1 12 = .ok (.ifCond .eq 10, 3) := by decide +kernel
theorem d_Md_declare_15 : decode m_Md_declare.2.1 15 = .ok (.aload_n 0, 1) := by decide +kernel
theorem d_Md_declare_16 : decode m_Md_declare.2.1 16 = .ok (.getfield 104, 3) := by decide +kernel
theorem d_Md_declare_19 : decode m_Md_declare.2.1 19 = .ok (.ifCond .le 7, 3) := by decide +kernel
theorem d_Md_declare_22 : decode m_Md_declare.2.1 22 = .ok (.iconst 1, 1) := by decide +kernel
theorem d_Md_declare_23 : decode m_Md_declare.2.1 23 = .ok (.goto 45, 3) := by decide +kernel
theorem d_Md_declare_26 : decode m_Md_declare.2.1 26 = .ok (.aload_n 0, 1) := by decide +kernel
theorem d_Md_declare_27 : decode m_Md_declare.2.1 27 = .ok (.getfield 117, 3) := by decide +kernel
theorem d_Md_declare_30 : decode m_Md_declare.2.1 30 = .ok (.bipush 8, 2) := by decide +kernel
theorem d_Md_declare_32 : decode m_Md_declare.2.1 32 = .ok (.if_icmp .ne 7, 3) := by decide +kernel
theorem d_Md_declare_35 : decode m_Md_declare.2.1 35 = .ok (.iconst 2, 1) := by decide +kernel
theorem d_Md_declare_36 : decode m_Md_declare.2.1 36 = .ok (.goto 32, 3) := by decide +kernel
theorem d_Md_declare_39 : decode m_Md_declare.2.1 39 = .ok (.aload_n 0, 1) := by decide +kernel
theorem d_Md_declare_40 : decode m_Md_declare.2.1 40 = .ok (.bipush 6, 2) := by decide +kernel
theorem d_Md_declare_42 : decode m_Md_declare.2.1 42 = .ok (.iload_n 2, 1) := by decide +kernel
theorem d_Md_declare_43 : decode m_Md_declare.2.1 43 = .ok (.iadd, 1) := by decide +kernel
theorem d_Md_declare_44 : decode m_Md_declare.2.1 44 = .ok (.iconst 0, 1) := by decide +kernel
theorem d_Md_declare_45 : decode m_Md_declare.2.1 45 = .ok (.invokevirtual 129, 3) := by decide +kernel
theorem d_Md_declare_48 : decode m_Md_declare.2.1 48 = .ok (.ifCond .ne 19, 3) := by decide +kernel
theorem d_Md_declare_51 : decode m_Md_declare.2.1 51 = .ok (.aload_n 0, 1) := by decide +kernel
theorem d_Md_declare_52 : decode m_Md_declare.2.1 52 = .ok (.bipush 6, 2) := by decide +kernel
theorem d_Md_declare_54 : decode m_Md_declare.2.1 54 = .ok (.iload_n 2, 1) := by decide +kernel
theorem d_Md_declare_55 : decode m_Md_declare.2.1 55 = .ok (.iadd, 1) := by decide +kernel
theorem d_Md_declare_56 : decode m_Md_declare.2.1 56 = .ok (.iconst 1, 1) := by decide +kernel
theorem d_Md_declare_57 : decode m_Md_declare.2.1 57 = .ok (.invokevirtual 129, 3) := by decide +kernel
theorem d_Md_declare_60 : decode m_Md_declare.2.1 60 = .ok (.ifCond .ne 7, 3) := by decide +kernel
theorem d_Md_declare_63 : decode m_Md_declare.2.1 63 = .ok (.iconst 3, 1) := by decide +kernel
theorem d_Md_declare_64 : decode m_Md_declare.2.1 64 = .ok (.goto 4, 3) := by decide +kernel
theorem d_Md_declare_67 : decode m_Md_declare.2.1 67 = .ok (.iconst 0, 1) := by decide +kernel
theorem d_Md_declare_68 : decode m_Md_declare.2.1 68 = .ok (.putfield 41, 3) := by decide +kernel
theorem d_Md_declare_71 : decode m_Md_declare.2.1 71 = .ok (.aload_n 0, 1) := by decide +kernel
theorem d_Md_declare_72 : decode m_Md_declare.2.1 72 = .ok (.getfield 41, 3) := by decide +kernel
theorem d_Md_declare_75 : decode m_Md_declare.2.1 75 = .ok (.ifCond .eq 5, 3) := by decide +kernel
theorem d_Md_declare_78 : decode m_Md_declare.2.1 78 = .ok (.iconst 0, 1) := by decide +kernel
theorem d_Md_declare_79 : decode m_Md_declare.2.1 79 = .ok (.ireturn, 1) := by decide +kernel
theorem d_Md_declare_80 : decode m_Md_declare.2.1 80 = .ok (.aload_n 0, 1) := by decide +kernel
theorem d_Md_declare_81 : decode m_Md_declare.2.1 81 = .ok (.iconst 0, 1) := by decide +kernel
theorem d_Md_declare_82 : decode m_Md_declare.2.1 82 = .ok (.iload_n 2, 1) := by decide +kernel
theorem d_Md_declare_83 : decode m_Md_declare.2.1 83 = .ok (.iadd, 1) := by decide +kernel
theorem d_Md_declare_84 : decode m_Md_declare.2.1 84 = .ok (.bipush 16, 2) := by decide +kernel
theorem d_Md_declare_86 : decode m_Md_declare.2.1 86 = .ok (.aload_n 0, 1) := by decide +kernel
theorem d_Md_declare_87 : decode m_Md_declare.2.1 87 = .ok (.getfield 117, 3) := by decide +kernel
theorem d_Md_declare_90 : decode m_Md_declare.2.1 90 = .ok (.iadd, 1) := by decide +kernel
theorem d_Md_declare_91 : decode m_Md_declare.2.1 91 = .ok (.invokevirtual 90, 3) := by decide +kernel
theorem d_Md_declare_94 : decode m_Md_declare.2.1 94 = .ok (.aload_n 0, 1) := by decide +kernel
theorem d_Md_declare_95 : decode m_Md_declare.2.1 95 = .ok (.getfield 19, 3) := by decide +kernel
theorem d_Md_declare_98 : decode m_Md_declare.2.1 98 = .ok (.aload_n 0, 1) := by decide +kernel
theorem d_Md_declare_99 : decode m_Md_declare.2.1 99 = .ok (.getfield 117, 3) := by decide +kernel
theorem d_Md_declare_102 : decode m_Md_declare.2.1 102 = .ok (.iload_n 1, 1) := by decide +kernel
theorem d_Md_declare_103 : decode m_Md_declare.2.1 103 = .ok (.bastore, 1) := by decide +kernel
theorem d_Md_declare_104 : decode m_Md_declare.2.1 104 = .ok (.aload_n 0, 1) := by decide +kernel
theorem d_Md_declare_105 : decode m_Md_declare.2.1 105 = .ok (.dup, 1) := by decide +kernel
theorem d_Md_declare_106 : decode m_Md_declare.2.1 106 = .ok (.getfield 117, 3) := by decide +kernel
theorem d_Md_declare_109 : decode m_Md_declare.2.1 109 = .ok (.iconst 1, 1) := by decide +kernel
theorem d_Md_declare_110 : decode m_Md_declare.2.1 110 = .ok (.iadd, 1) := by decide +kernel
theorem d_Md_declare_111 : decode m_Md_declare.2.1 111 = .ok (.putfield 117, 3) := by decide +kernel
theorem d_Md_declare_114 : decode m_Md_declare.2.1 114 = .ok (.aload_n 0, 1) := by decide +kernel
theorem d_Md_declare_115 : decode m_Md_declare.2.1 115 = .ok (.dup, 1) := by decide +kernel
theorem d_Md_declare_116 : decode m_Md_declare.2.1 116 = .ok (.getfield 107, 3) := by decide +kernel
theorem d_Md_declare_119 : decode m_Md_declare.2.1 119 = .ok (.iconst 1, 1) := by decide +kernel
theorem d_Md_declare_120 : decode m_Md_declare.2.1 120 = .ok (.isub, 1) := by decide +kernel
theorem d_Md_declare_121 : decode m_Md_declare.2.1 121 = .ok (.putfield 107, 3) := by decide +kernel
theorem d_Md_declare_124 : decode m_Md_declare.2.1 124 = .ok (.aload_n 0, 1) := by decide +kernel
theorem d_Md_declare_125 : decode m_Md_declare.2.1 125 = .ok (.getfield 117, 3) := by decide +kernel
theorem d_Md_declare_128 : decode m_Md_declare.2.1 128 = .ok (.iconst 1, 1) := by decide +kernel
theorem d_Md_declare_129 : decode m_Md_declare.2.1 129 = .ok (.isub, 1) := by decide +kernel
theorem d_Md_declare_130 : decode m_Md_declare.2.1 130 = .ok (.ireturn, 1) := by decide +kernel
theorem d_Md_isLeft_0 : decode m_Md_isLeft.2.1 0 = .ok (.iconst 0, 1) := by decide +kernel
theorem d_Md_isLeft_1 : decode m_Md_isLeft.2.1 1 = .ok (.istore_n 2, 1) := by decide +kernel
theorem d_Md_isLeft_2 : decode m_Md_isLeft.2.1 2 = .ok (.aload_n 0, 1) := by decide +kernel
theorem d_Md_isLeft_3 : decode m_Md_isLeft.2.1 3 = .ok (.iload_n 1, 1) := by decide +kernel
theorem d_Md_isLeft_4 : decode m_Md_isLeft.2.1 4 = .ok (.iload_n 2, 1) := by decide +kernel
theorem d_Md_isLeft_5 : decode m_Md_isLeft.2.1 5 = .ok (.invokevirtual 49, 3) := by decide +kernel
theorem d_Md_isLeft_8 : decode m_Md_isLeft.2.1 8 = .ok (.iconst 2, 1) := by decide +kernel
theorem d_Md_isLeft_9 : decode m_Md_isLeft.2.1 9 = .ok (.if_icmp .ne 9, 3) := by decide +kernel
theorem d_Md_isLeft_12 : decode m_Md_isLeft.2.1 12 = .ok (.iinc 2 1, 3) := by decide +kernel
theorem d_Md_isLeft_15 : decode m_Md_isLeft.2.1 15 = .ok (.goto (-13), 3) := by decide +kernel
theorem d_Md_isLeft_18 : decode m_Md_isLeft.2.1 18 = .ok (.aload_n 0, 1) := by decide +kernel
theorem d_Md_isLeft_19 : decode m_Md_isLeft.2.1 19 = .ok (.iload_n 1, 1) := by decide +kernel
theorem d_Md_isLeft_20 : decode m_Md_isLeft.2.1 20 = .ok (.iload_n 2, 1) := by decide +kernel
theorem d_Md_isLeft_21 : decode m_Md_isLeft.2.1 21 = .ok (.invokevirtual 49, 3) := by decide +kernel
theorem d_Md_isLeft_24 : decode m_Md_isLeft.2.1 24 = .ok (.bipush 10, 2) := by decide +kernel
theorem d_Md_isLeft_26 : decode m_Md_isLeft.2.1 26 = .ok (.isub, 1) := by decide +kernel
theorem d_Md_isLeft_27 : decode m_Md_isLeft.2.1 27 = .ok (.istore_n 3, 1) := by decide +kernel
theorem d_Md_isLeft_28 : decode m_Md_isLeft.2.1 28 = .ok (.iload_n 3, 1) := by decide +kernel
theorem d_Md_isLeft_29 : decode m_Md_isLeft.2.1 29 = .ok (.ifCond .lt 24, 3) := by decide +kernel
theorem d_Md_isLeft_32 : decode m_Md_isLeft.2.1 32 = .ok (.iload_n 3, 1) := by decide +kernel
theorem d_Md_isLeft_33 : decode m_Md_isLeft.2.1 33 = .ok (.aload_n 0, 1) := by decide +kernel
theorem d_Md_isLeft_34 : decode m_Md_isLeft.2.1 34 = .ok (.getfield 117, 3) := by decide +kernel
theorem d_Md_isLeft_37 : decode m_Md_isLeft.2.1 37 = .ok (.if_icmp .ge 16, 3) := by decide +kernel
theorem d_Md_isLeft_40 : decode m_Md_isLeft.2.1 40 = .ok (.aload_n 0, 1) := by decide +kernel
theorem d_Md_isLeft_41 : decode m_Md_isLeft.2.1 41 = .ok (.getfield 19, 3) := by decide +kernel
theorem d_Md_isLeft_44 : decode m_Md_isLeft.2.1 44 = .ok (.iload_n 3, 1) := by decide +kernel
theorem d_Md_isLeft_45 : decode m_Md_isLeft.2.1 45 = .ok (.baload, 1) := by decide +kernel
theorem d_Md_isLeft_46 : decode m_Md_isLeft.2.1 46 = .ok (.ifCond .eq 7, 3) := by decide +kernel
theorem d_Md_isLeft_49 : decode m_Md_isLeft.2.1 49 = .ok (.iconst 1, 1) := by decide +kernel
theorem d_Md_isLeft_50 : decode m_Md_isLeft.2.1 50 = .ok (.goto 4, 3) := by decide +kernel
theorem d_Md_isLeft_53 : decode m_Md_isLeft.2.1 53 = .ok (.iconst 0, 1) := by decide +kernel
theorem d_Md_isLeft_54 : decode m_Md_isLeft.2.1 54 = .ok (.istore 4, 2) := by decide +kernel
theorem d_Md_isLeft_56 : decode m_Md_isLeft.2.1 56 = .ok (.iconst 0, 1) := by decide +kernel
theorem d_Md_isLeft_57 : decode m_Md_isLeft.2.1 57 = .ok (.istore 5, 2) := by decide +kernel
theorem d_Md_isLeft_59 : decode m_Md_isLeft.2.1 59 = .ok (.iconst 0, 1) := by decide +kernel
theorem d_Md_isLeft_60 : decode m_Md_isLeft.2.1 60 = .ok (.istore 6, 2) := by decide +kernel
theorem d_Md_isLeft_62 : decode m_Md_isLeft.2.1 62 = .ok (.iload 6, 2) := by decide +kernel
theorem d_Md_isLeft_64 : decode m_Md_isLeft.2.1 64 = .ok (.aload_n 0, 1) := by decide +kernel
theorem d_Md_isLeft_65 : decode m_Md_isLeft.2.1 65 = .ok (.getfield 13, 3) := by decide +kernel
theorem d_Md_isLeft_68 : decode m_Md_isLeft.2.1 68 = .ok (.iload_n 1, 1) := by decide +kernel
theorem d_Md_isLeft_69 : decode m_Md_isLeft.2.1 69 = .ok (.iaload, 1) := by decide +kernel
theorem d_Md_isLeft_70 : decode m_Md_isLeft.2.1 70 = .ok (.if_icmp .ge 126, 3) := by decide +kernel
theorem d_Md_isLeft_73 : decode m_Md_isLeft.2.1 73 = .ok (.iload 4, 2) := by decide +kernel
theorem d_Md_isLeft_75 : decode m_Md_isLeft.2.1 75 = .ok (.ifCond .eq 121, 3) := by decide +kernel
theorem d_Md_isLeft_78 : decode m_Md_isLeft.2.1 78 = .ok (.aload_n 0, 1) := by decide +kernel
theorem d_Md_isLeft_79 : decode m_Md_isLeft.2.1 79 = .ok (.iload_n 1, 1) := by decide +kernel
theorem d_Md_isLeft_80 : decode m_Md_isLeft.2.1 80 = .ok (.iload 6, 2) := by decide +kernel
theorem d_Md_isLeft_82 : decode m_Md_isLeft.2.1 82 = .ok (.invokevirtual 49, 3) := by decide +kernel
theorem d_Md_isLeft_85 : decode m_Md_isLeft.2.1 85 = .ok (.istore 7, 2) := by decide +kernel
theorem d_Md_isLeft_87 : decode m_Md_isLeft.2.1 87 = .ok (.iload 7, 2) := by decide +kernel
theorem d_Md_isLeft_89 : decode m_Md_isLeft.2.1 89 = .ok (.iconst 2, 1) := by decide +kernel
theorem d_Md_isLeft_90 : decode m_Md_isLeft.2.1 90 = .ok (.if_icmp .ne 7, 3) := by decide +kernel
theorem d_Md_isLeft_93 : decode m_Md_isLeft.2.1 93 = .ok (.iconst 1, 1) := by decide +kernel
theorem d_Md_isLeft_94 : decode m_Md_isLeft.2.1 94 = .ok (.goto 4, 3) := by decide +kernel
theorem d_Md_isLeft_97 : decode m_Md_isLeft.2.1 97 = .ok (.iconst 0, 1) := by decide +kernel
theorem d_Md_isLeft_98 : decode m_Md_isLeft.2.1 98 = .ok (.istore 8, 2) := by decide +kernel
theorem d_Md_isLeft_100 : decode m_Md_isLeft.2.1 100 = .ok (.iload 7, 2) := by decide +kernel
theorem d_Md_isLeft_102 : decode m_Md_isLeft.2.1 102 = .ok (.bipush 10, 2) := by decide +kernel
theorem d_Md_isLeft_104 : decode m_Md_isLeft.2.1 104 = .ok (.if_icmp .ge 35, 3) := by decide +kernel
theorem d_Md_isLeft_107 : decode m_Md_isLeft.2.1 107 = .ok (.iload 8, 2) := by decide +kernel
theorem d_Md_isLeft_109 : decode m_Md_isLeft.2.1 109 = .ok (.ifCond .eq 34, 3) := by decide +kernel
theorem d_Md_isLeft_112 : decode m_Md_isLeft.2.1 112 = .ok (.aload_n 0, 1) := by decide +kernel
theorem d_Md_isLeft_113 : decode m_Md_isLeft.2.1 113 = .ok (.iload_n 1, 1) := by decide +kernel
theorem d_Md_isLeft_114 : decode m_Md_isLeft.2.1 114 = .ok (.iload 6, 2) := by decide +kernel
theorem d_Md_isLeft_116 : decode m_Md_isLeft.2.1 116 = .ok (.iconst 1, 1) := by decide +kernel
theorem d_Md_isLeft_117 : decode m_Md_isLeft.2.1 117 = .ok (.iadd, 1) := by decide +kernel
theorem d_Md_isLeft_118 : decode m_Md_isLeft.2.1 118 = .ok (.invokevirtual 49, 3) := by decide +kernel
theorem d_Md_isLeft_121 : decode m_Md_isLeft.2.1 121 = .ok (.bipush 100, 2) := by decide +kernel
theorem d_Md_isLeft_123 : decode m_Md_isLeft.2.1 123 = .ok (.if_icmp .ge 20, 3) := by decide +kernel
theorem d_Md_isLeft_126 : decode m_Md_isLeft.2.1 126 = .ok (.aload_n 0, 1) := by decide +kernel
theorem d_Md_isLeft_127 : decode m_Md_isLeft.2.1 127 = .ok (.iload_n 1, 1) := by decide +kernel
theorem d_Md_isLeft_128 : decode m_Md_isLeft.2.1 128 = .ok (.iload 6, 2) := by decide +kernel
theorem d_Md_isLeft_130 : decode m_Md_isLeft.2.1 130 = .ok (.iconst 1, 1) := by decide +kernel
theorem d_Md_isLeft_131 : decode m_Md_isLeft.2.1 131 = .ok (.iadd, 1) := by decide +kernel
theorem d_Md_isLeft_132 : decode m_Md_isLeft.2.1 132 = .ok (.invokevirtual 49, 3) := by decide +kernel
theorem d_Md_isLeft_135 : decode m_Md_isLeft.2.1 135 = .ok (.iconst 3, 1) := by decide +kernel
theorem d_Md_isLeft_136 : decode m_Md_isLeft.2.1 136 = .ok (.if_icmp .eq 7, 3) := by decide +kernel
theorem d_Md_isLeft_139 : decode m_Md_isLeft.2.1 139 = .ok (.iconst 1, 1) := by decide +kernel
theorem d_Md_isLeft_140 : decode m_Md_isLeft.2.1 140 = .ok (.goto 4, 3) := by decide +kernel
theorem d_Md_isLeft_143 : decode m_Md_isLeft.2.1 143 = .ok (.iconst 0, 1) := by decide +kernel
theorem d_Md_isLeft_144 : decode m_Md_isLeft.2.1 144 = .ok (.istore 4, 2) := by decide +kernel
theorem d_Md_isLeft_146 : decode m_Md_isLeft.2.1 146 = .ok (.iload 7, 2) := by decide +kernel
theorem d_Md_isLeft_148 : decode m_Md_isLeft.2.1 148 = .ok (.bipush 100, 2) := by decide +kernel
theorem d_Md_isLeft_150 : decode m_Md_isLeft.2.1 150 = .ok (.if_icmp .lt 40, 3) := by decide +kernel
theorem d_Md_isLeft_153 : decode m_Md_isLeft.2.1 153 = .ok (.iload 4, 2) := by decide +kernel
theorem d_Md_isLeft_155 : decode m_Md_isLeft.2.1 155 = .ok (.ifCond .eq 20, 3) := by decide +kernel
theorem d_Md_isLeft_158 : decode m_Md_isLeft.2.1 158 = .ok (.iload 5, 2) := by decide +kernel
theorem d_Md_isLeft_160 : decode m_Md_isLeft.2.1 160 = .ok (.iload 7, 2) := by decide +kernel
theorem d_Md_isLeft_162 : decode m_Md_isLeft.2.1 162 = .ok (.bipush 100, 2) := by decide +kernel
theorem d_Md_isLeft_164 : decode m_Md_isLeft.2.1 164 = .ok (.isub, 1) := by decide +kernel
theorem d_Md_isLeft_165 : decode m_Md_isLeft.2.1 165 = .ok (.ishr, 1) := by decide +kernel
theorem d_Md_isLeft_166 : decode m_Md_isLeft.2.1 166 = .ok (.iconst 1, 1) := by decide +kernel
theorem d_Md_isLeft_167 : decode m_Md_isLeft.2.1 167 = .ok (.iand, 1) := by decide +kernel
theorem d_Md_isLeft_168 : decode m_Md_isLeft.2.1 168 = .ok (.ifCond .ne 7, 3) := by decide +kernel
theorem d_Md_isLeft_171 : decode m_Md_isLeft.2.1 171 = .ok (.iconst 1, 1) := by decide +kernel
theorem d_Md_isLeft_172 : decode m_Md_isLeft.2.1 172 = .ok (.goto 4, 3) := by decide +kernel
theorem d_Md_isLeft_175 : decode m_Md_isLeft.2.1 175 = .ok (.iconst 0, 1) := by decide +kernel
theorem d_Md_isLeft_176 : decode m_Md_isLeft.2.1 176 = .ok (.istore 4, 2) := by decide +kernel
theorem d_Md_isLeft_178 : decode m_Md_isLeft.2.1 178 = .ok (.iload 5, 2) := by decide +kernel
theorem d_Md_isLeft_180 : decode m_Md_isLeft.2.1 180 = .ok (.iconst 1, 1) := by decide +kernel
theorem d_Md_isLeft_181 : decode m_Md_isLeft.2.1 181 = .ok (.iload 7, 2) := by decide +kernel
theorem d_Md_isLeft_183 : decode m_Md_isLeft.2.1 183 = .ok (.bipush 100, 2) := by decide +kernel
theorem d_Md_isLeft_185 : decode m_Md_isLeft.2.1 185 = .ok (.isub, 1) := by decide +kernel
theorem d_Md_isLeft_186 : decode m_Md_isLeft.2.1 186 = .ok (.ishl, 1) := by decide +kernel
theorem d_Md_isLeft_187 : decode m_Md_isLeft.2.1 187 = .ok (.ior, 1) := by decide +kernel
theorem d_Md_isLeft_188 : decode m_Md_isLeft.2.1 188 = .ok (.istore 5, 2) := by decide +kernel
theorem d_Md_isLeft_190 : decode m_Md_isLeft.2.1 190 = .ok (.iinc 6 1, 3) := by decide +kernel
theorem d_Md_isLeft_193 : decode m_Md_isLeft.2.1 193 = .ok (.goto (-131), 3) := by decide +kernel
theorem d_Md_isLeft_196 : decode m_Md_isLeft.2.1 196 = .ok (.iload 4, 2) := by decide +kernel
theorem d_Md_isLeft_198 : decode m_Md_isLeft.2.1 198 = .ok (.ifCond .eq 20, 3) := by decide +kernel
theorem d_Md_isLeft_201 : decode m_Md_isLeft.2.1 201 = .ok (.iload 5, 2) := by decide +kernel
theorem d_Md_isLeft_203 : decode m_Md_isLeft.2.1 203 = .ok (.iconst 1, 1) := by decide +kernel
theorem d_Md_isLeft_204 : decode m_Md_isLeft.2.1 204 = .ok (.aload_n 0, 1) := by decide +kernel
theorem d_Md_isLeft_205 : decode m_Md_isLeft.2.1 205 = .ok (.getfield 104, 3) := by decide +kernel
theorem d_Md_isLeft_208 : decode m_Md_isLeft.2.1 208 = .ok (.ishl, 1) := by decide +kernel
theorem d_Md_isLeft_209 : decode m_Md_isLeft.2.1 209 = .ok (.iconst 1, 1) := by decide +kernel
theorem d_Md_isLeft_210 : decode m_Md_isLeft.2.1 210 = .ok (.isub, 1) := by decide +kernel
theorem d_Md_isLeft_211 : decode m_Md_isLeft.2.1 211 = .ok (.if_icmp .ne 7, 3) := by decide +kernel
theorem d_Md_isLeft_214 : decode m_Md_isLeft.2.1 214 = .ok (.iconst 1, 1) := by decide +kernel
theorem d_Md_isLeft_215 : decode m_Md_isLeft.2.1 215 = .ok (.goto 4, 3) := by decide +kernel
theorem d_Md_isLeft_218 : decode m_Md_isLeft.2.1 218 = .ok (.iconst 0, 1) := by decide +kernel
theorem d_Md_isLeft_219 : decode m_Md_isLeft.2.1 219 = .ok (.ireturn, 1) := by decide +kernel
theorem d_Md_ruled_0 : decode m_Md_ruled.2.1 0 = .ok (.aload_n 0, 1) := by decide +kernel
theorem d_Md_ruled_1 : decode m_Md_ruled.2.1 1 = .ok (.getfield 107, 3) := by decide +kernel
theorem d_Md_ruled_4 : decode m_Md_ruled.2.1 4 = .ok (.iconst 2, 1) := by decide +kernel
theorem d_Md_ruled_5 : decode m_Md_ruled.2.1 5 = .ok (.if_icmp .ne 19, 3) := by decide +kernel
theorem d_Md_ruled_8 : decode m_Md_ruled.2.1 8 = .ok (.aload_n 0, 1) := by decide +kernel
theorem d_Md_ruled_9 : decode m_Md_ruled.2.1 9 = .ok (.iconst 0, 1) := by decide +kernel
theorem d_Md_ruled_10 : decode m_Md_ruled.2.1 10 = .ok (.invokevirtual 110, 3) := by decide +kernel
theorem d_Md_ruled_13 : decode m_Md_ruled.2.1 13 = .ok (.ifCond .eq 11, 3) := by decide +kernel
theorem d_Md_ruled_16 : decode m_Md_ruled.2.1 16 = .ok (.aload_n 0, 1) := by decide +kernel
theorem d_Md_ruled_17 : decode m_Md_ruled.2.1 17 = .ok (.iconst 1, 1) := by decide +kernel
theorem d_Md_ruled_18 : decode m_Md_ruled.2.1 18 = .ok (.invokevirtual 110, 3) := by decide +kernel
theorem d_Md_ruled_21 : decode m_Md_ruled.2.1 21 = .ok (.ifCond .ne 5, 3) := by decide +kernel
theorem d_Md_ruled_24 : decode m_Md_ruled.2.1 24 = .ok (.iconst 1, 1) := by decide +kernel
theorem d_Md_ruled_25 : decode m_Md_ruled.2.1 25 = .ok (.ireturn, 1) := by decide +kernel
theorem d_Md_ruled_26 : decode m_Md_ruled.2.1 26 = .ok (.aload_n 0, 1) := by decide +kernel
theorem d_Md_ruled_27 : decode m_Md_ruled.2.1 27 = .ok (.getfield 75, 3) := by decide +kernel
theorem d_Md_ruled_30 : decode m_Md_ruled.2.1 30 = .ok (.bipush 8, 2) := by decide +kernel
theorem d_Md_ruled_32 : decode m_Md_ruled.2.1 32 = .ok (.if_icmp .ne 5, 3) := by decide +kernel
theorem d_Md_ruled_35 : decode m_Md_ruled.2.1 35 = .ok (.iconst 2, 1) := by decide +kernel
theorem d_Md_ruled_36 : decode m_Md_ruled.2.1 36 = .ok (.ireturn, 1) := by decide +kernel
theorem d_Md_ruled_37 : decode m_Md_ruled.2.1 37 = .ok (.aload_n 0, 1) := by decide +kernel
theorem d_Md_ruled_38 : decode m_Md_ruled.2.1 38 = .ok (.iconst 0, 1) := by decide +kernel
theorem d_Md_ruled_39 : decode m_Md_ruled.2.1 39 = .ok (.invokevirtual 144, 3) := by decide +kernel
theorem d_Md_ruled_42 : decode m_Md_ruled.2.1 42 = .ok (.ifCond .ne 5, 3) := by decide +kernel
theorem d_Md_ruled_45 : decode m_Md_ruled.2.1 45 = .ok (.iconst 3, 1) := by decide +kernel
theorem d_Md_ruled_46 : decode m_Md_ruled.2.1 46 = .ok (.ireturn, 1) := by decide +kernel
theorem d_Md_ruled_47 : decode m_Md_ruled.2.1 47 = .ok (.aload_n 0, 1) := by decide +kernel
theorem d_Md_ruled_48 : decode m_Md_ruled.2.1 48 = .ok (.iconst 0, 1) := by decide +kernel
theorem d_Md_ruled_49 : decode m_Md_ruled.2.1 49 = .ok (.putfield 45, 3) := by decide +kernel
theorem d_Md_ruled_52 : decode m_Md_ruled.2.1 52 = .ok (.aload_n 0, 1) := by decide +kernel
theorem d_Md_ruled_53 : decode m_Md_ruled.2.1 53 = .ok (.bipush 6, 2) := by decide +kernel
theorem d_Md_ruled_55 : decode m_Md_ruled.2.1 55 = .ok (.invokevirtual 120, 3) := by decide +kernel
theorem d_Md_ruled_58 : decode m_Md_ruled.2.1 58 = .ok (.istore_n 1, 1) := by decide +kernel
theorem d_Md_ruled_59 : decode m_Md_ruled.2.1 59 = .ok (.aload_n 0, 1) := by decide +kernel
theorem d_Md_ruled_60 : decode m_Md_ruled.2.1 60 = .ok (.bipush 40, 2) := by decide +kernel
theorem d_Md_ruled_62 : decode m_Md_ruled.2.1 62 = .ok (.bipush 42, 2) := by decide +kernel
theorem d_Md_ruled_64 : decode m_Md_ruled.2.1 64 = .ok (.invokevirtual 90, 3) := by decide +kernel
theorem d_Md_ruled_67 : decode m_Md_ruled.2.1 67 = .ok (.aload_n 0, 1) := by decide +kernel
theorem d_Md_ruled_68 : decode m_Md_ruled.2.1 68 = .ok (.getfield 45, 3) := by decide +kernel
theorem d_Md_ruled_71 : decode m_Md_ruled.2.1 71 = .ok (.ifCond .eq 5, 3) := by decide +kernel
theorem d_Md_ruled_74 : decode m_Md_ruled.2.1 74 = .ok (.iconst 4, 1) := by decide +kernel
theorem d_Md_ruled_75 : decode m_Md_ruled.2.1 75 = .ok (.ireturn, 1) := by decide +kernel
theorem d_Md_ruled_76 : decode m_Md_ruled.2.1 76 = .ok (.aload_n 0, 1) := by decide +kernel
theorem d_Md_ruled_77 : decode m_Md_ruled.2.1 77 = .ok (.bipush 7, 2) := by decide +kernel
theorem d_Md_ruled_79 : decode m_Md_ruled.2.1 79 = .ok (.invokevirtual 120, 3) := by decide +kernel
theorem d_Md_ruled_82 : decode m_Md_ruled.2.1 82 = .ok (.istore_n 2, 1) := by decide +kernel
theorem d_Md_ruled_83 : decode m_Md_ruled.2.1 83 = .ok (.aload_n 0, 1) := by decide +kernel
theorem d_Md_ruled_84 : decode m_Md_ruled.2.1 84 = .ok (.getfield 45, 3) := by decide +kernel
theorem d_Md_ruled_87 : decode m_Md_ruled.2.1 87 = .ok (.ifCond .eq 7, 3) := by decide +kernel
theorem d_Md_ruled_90 : decode m_Md_ruled.2.1 90 = .ok (.iconst 4, 1) := by decide +kernel
theorem d_Md_ruled_91 : decode m_Md_ruled.2.1 91 = .ok (.goto 19, 3) := by decide +kernel
theorem d_Md_ruled_94 : decode m_Md_ruled.2.1 94 = .ok (.aload_n 0, 1) := by decide +kernel
theorem d_Md_ruled_95 : decode m_Md_ruled.2.1 95 = .ok (.bipush 40, 2) := by decide +kernel
theorem d_Md_ruled_97 : decode m_Md_ruled.2.1 97 = .ok (.bipush 42, 2) := by decide +kernel
theorem d_Md_ruled_99 : decode m_Md_ruled.2.1 99 = .ok (.invokevirtual 147, 3) := by decide +kernel
theorem d_Md_ruled_102 : decode m_Md_ruled.2.1 102 = .ok (.ifCond .eq 7, 3) := by decide +kernel
theorem d_Md_ruled_105 : decode m_Md_ruled.2.1 105 = .ok (.iconst 0, 1) := by decide +kernel
theorem d_Md_ruled_106 : decode m_Md_ruled.2.1 106 = .ok (.goto 4, 3) := by decide +kernel
theorem d_Md_ruled_109 : decode m_Md_ruled.2.1 109 = .ok (.iconst 3, 1) := by decide +kernel
theorem d_Md_ruled_110 : decode m_Md_ruled.2.1 110 = .ok (.ireturn, 1) := by decide +kernel
theorem d_Md_rule_0 : decode m_Md_rule.2.1 0 = .ok (.aload_n 0, 1) := by decide +kernel
theorem d_Md_rule_1 : decode m_Md_rule.2.1 1 = .ok (.aload_n 0, 1) := by decide +kernel
theorem d_Md_rule_2 : decode m_Md_rule.2.1 2 = .ok (.invokevirtual 150, 3) := by decide +kernel
theorem d_Md_rule_5 : decode m_Md_rule.2.1 5 = .ok (.putfield 41, 3) := by decide +kernel
theorem d_Md_rule_8 : decode m_Md_rule.2.1 8 = .ok (.aload_n 0, 1) := by decide +kernel
theorem d_Md_rule_9 : decode m_Md_rule.2.1 9 = .ok (.getfield 41, 3) := by decide +kernel
theorem d_Md_rule_12 : decode m_Md_rule.2.1 12 = .ok (.ifCond .eq 5, 3) := by decide +kernel
theorem d_Md_rule_15 : decode m_Md_rule.2.1 15 = .ok (.iconst 0, 1) := by decide +kernel
theorem d_Md_rule_16 : decode m_Md_rule.2.1 16 = .ok (.ireturn, 1) := by decide +kernel
theorem d_Md_rule_17 : decode m_Md_rule.2.1 17 = .ok (.aload_n 0, 1) := by decide +kernel
theorem d_Md_rule_18 : decode m_Md_rule.2.1 18 = .ok (.iconst 0, 1) := by decide +kernel
theorem d_Md_rule_19 : decode m_Md_rule.2.1 19 = .ok (.bipush 24, 2) := by decide +kernel
theorem d_Md_rule_21 : decode m_Md_rule.2.1 21 = .ok (.aload_n 0, 1) := by decide +kernel
theorem d_Md_rule_22 : decode m_Md_rule.2.1 22 = .ok (.getfield 75, 3) := by decide +kernel
theorem d_Md_rule_25 : decode m_Md_rule.2.1 25 = .ok (.iadd, 1) := by decide +kernel
theorem d_Md_rule_26 : decode m_Md_rule.2.1 26 = .ok (.invokevirtual 90, 3) := by decide +kernel
theorem d_Md_rule_29 : decode m_Md_rule.2.1 29 = .ok (.aload_n 0, 1) := by decide +kernel
theorem d_Md_rule_30 : decode m_Md_rule.2.1 30 = .ok (.iconst 1, 1) := by decide +kernel
theorem d_Md_rule_31 : decode m_Md_rule.2.1 31 = .ok (.bipush 32, 2) := by decide +kernel
theorem d_Md_rule_33 : decode m_Md_rule.2.1 33 = .ok (.aload_n 0, 1) := by decide +kernel
theorem d_Md_rule_34 : decode m_Md_rule.2.1 34 = .ok (.getfield 75, 3) := by decide +kernel
theorem d_Md_rule_37 : decode m_Md_rule.2.1 37 = .ok (.iadd, 1) := by decide +kernel
theorem d_Md_rule_38 : decode m_Md_rule.2.1 38 = .ok (.invokevirtual 90, 3) := by decide +kernel
theorem d_Md_rule_41 : decode m_Md_rule.2.1 41 = .ok (.aload_n 0, 1) := by decide +kernel
theorem d_Md_rule_42 : decode m_Md_rule.2.1 42 = .ok (.getfield 23, 3) := by decide +kernel
theorem d_Md_rule_45 : decode m_Md_rule.2.1 45 = .ok (.aload_n 0, 1) := by decide +kernel
theorem d_Md_rule_46 : decode m_Md_rule.2.1 46 = .ok (.getfield 75, 3) := by decide +kernel
theorem d_Md_rule_49 : decode m_Md_rule.2.1 49 = .ok (.aload_n 0, 1) := by decide +kernel
theorem d_Md_rule_50 : decode m_Md_rule.2.1 50 = .ok (.getfield 104, 3) := by decide +kernel
theorem d_Md_rule_53 : decode m_Md_rule.2.1 53 = .ok (.iastore, 1) := by decide +kernel
theorem d_Md_rule_54 : decode m_Md_rule.2.1 54 = .ok (.aload_n 0, 1) := by decide +kernel
theorem d_Md_rule_55 : decode m_Md_rule.2.1 55 = .ok (.dup, 1) := by decide +kernel
theorem d_Md_rule_56 : decode m_Md_rule.2.1 56 = .ok (.getfield 75, 3) := by decide +kernel
theorem d_Md_rule_59 : decode m_Md_rule.2.1 59 = .ok (.iconst 1, 1) := by decide +kernel
theorem d_Md_rule_60 : decode m_Md_rule.2.1 60 = .ok (.iadd, 1) := by decide +kernel
theorem d_Md_rule_61 : decode m_Md_rule.2.1 61 = .ok (.putfield 75, 3) := by decide +kernel
theorem d_Md_rule_64 : decode m_Md_rule.2.1 64 = .ok (.aload_n 0, 1) := by decide +kernel
theorem d_Md_rule_65 : decode m_Md_rule.2.1 65 = .ok (.iconst 0, 1) := by decide +kernel
theorem d_Md_rule_66 : decode m_Md_rule.2.1 66 = .ok (.putfield 107, 3) := by decide +kernel
theorem d_Md_rule_69 : decode m_Md_rule.2.1 69 = .ok (.aload_n 0, 1) := by decide +kernel
theorem d_Md_rule_70 : decode m_Md_rule.2.1 70 = .ok (.iconst 0, 1) := by decide +kernel
theorem d_Md_rule_71 : decode m_Md_rule.2.1 71 = .ok (.putfield 104, 3) := by decide +kernel
theorem d_Md_rule_74 : decode m_Md_rule.2.1 74 = .ok (.aload_n 0, 1) := by decide +kernel
theorem d_Md_rule_75 : decode m_Md_rule.2.1 75 = .ok (.getfield 75, 3) := by decide +kernel
theorem d_Md_rule_78 : decode m_Md_rule.2.1 78 = .ok (.iconst 1, 1) := by decide +kernel
theorem d_Md_rule_79 : decode m_Md_rule.2.1 79 = .ok (.isub, 1) := by decide +kernel
theorem d_Md_rule_80 : decode m_Md_rule.2.1 80 = .ok (.ireturn, 1) := by decide +kernel
theorem d_Md_normal_0 : decode m_Md_normal.2.1 0 = .ok (.aload_n 0, 1) := by decide +kernel
theorem d_Md_normal_1 : decode m_Md_normal.2.1 1 = .ok (.getfield 107, 3) := by decide +kernel
theorem d_Md_normal_4 : decode m_Md_normal.2.1 4 = .ok (.ifCond .ne 9, 3) := by decide +kernel
theorem d_Md_normal_7 : decode m_Md_normal.2.1 7 = .ok (.aload_n 0, 1) := by decide +kernel
theorem d_Md_normal_8 : decode m_Md_normal.2.1 8 = .ok (.iconst 1, 1) := by decide +kernel
theorem d_Md_normal_9 : decode m_Md_normal.2.1 9 = .ok (.invokevirtual 153, 3) := by decide +kernel
theorem d_Md_normal_12 : decode m_Md_normal.2.1 12 = .ok (.ireturn, 1) := by decide +kernel
theorem d_Md_normal_13 : decode m_Md_normal.2.1 13 = .ok (.aload_n 0, 1) := by decide +kernel
theorem d_Md_normal_14 : decode m_Md_normal.2.1 14 = .ok (.iconst 0, 1) := by decide +kernel
theorem d_Md_normal_15 : decode m_Md_normal.2.1 15 = .ok (.putfield 45, 3) := by decide +kernel
theorem d_Md_normal_18 : decode m_Md_normal.2.1 18 = .ok (.aload_n 0, 1) := by decide +kernel
theorem d_Md_normal_19 : decode m_Md_normal.2.1 19 = .ok (.iconst 0, 1) := by decide +kernel
theorem d_Md_normal_20 : decode m_Md_normal.2.1 20 = .ok (.aload_n 0, 1) := by decide +kernel
theorem d_Md_normal_21 : decode m_Md_normal.2.1 21 = .ok (.getfield 107, 3) := by decide +kernel
theorem d_Md_normal_24 : decode m_Md_normal.2.1 24 = .ok (.iadd, 1) := by decide +kernel
theorem d_Md_normal_25 : decode m_Md_normal.2.1 25 = .ok (.iconst 1, 1) := by decide +kernel
theorem d_Md_normal_26 : decode m_Md_normal.2.1 26 = .ok (.isub, 1) := by decide +kernel
theorem d_Md_normal_27 : decode m_Md_normal.2.1 27 = .ok (.invokevirtual 120, 3) := by decide +kernel
theorem d_Md_normal_30 : decode m_Md_normal.2.1 30 = .ok (.istore_n 1, 1) := by decide +kernel
theorem d_Md_normal_31 : decode m_Md_normal.2.1 31 = .ok (.aload_n 0, 1) := by decide +kernel
theorem d_Md_normal_32 : decode m_Md_normal.2.1 32 = .ok (.getfield 45, 3) := by decide +kernel
theorem d_Md_normal_35 : decode m_Md_normal.2.1 35 = .ok (.ifCond .eq 9, 3) := by decide +kernel
theorem d_Md_normal_38 : decode m_Md_normal.2.1 38 = .ok (.aload_n 0, 1) := by decide +kernel
theorem d_Md_normal_39 : decode m_Md_normal.2.1 39 = .ok (.iconst 2, 1) := by decide +kernel
theorem d_Md_normal_40 : decode m_Md_normal.2.1 40 = .ok (.invokevirtual 153, 3) := by decide +kernel
theorem d_Md_normal_43 : decode m_Md_normal.2.1 43 = .ok (.ireturn, 1) := by decide +kernel
theorem d_Md_normal_44 : decode m_Md_normal.2.1 44 = .ok (.aload_n 0, 1) := by decide +kernel
theorem d_Md_normal_45 : decode m_Md_normal.2.1 45 = .ok (.iconst 0, 1) := by decide +kernel
theorem d_Md_normal_46 : decode m_Md_normal.2.1 46 = .ok (.putfield 41, 3) := by decide +kernel
theorem d_Md_normal_49 : decode m_Md_normal.2.1 49 = .ok (.aload_n 0, 1) := by decide +kernel
theorem d_Md_normal_50 : decode m_Md_normal.2.1 50 = .ok (.bipush 40, 2) := by decide +kernel
theorem d_Md_normal_52 : decode m_Md_normal.2.1 52 = .ok (.iconst 0, 1) := by decide +kernel
theorem d_Md_normal_53 : decode m_Md_normal.2.1 53 = .ok (.aload_n 0, 1) := by decide +kernel
theorem d_Md_normal_54 : decode m_Md_normal.2.1 54 = .ok (.getfield 107, 3) := by decide +kernel
theorem d_Md_normal_57 : decode m_Md_normal.2.1 57 = .ok (.iadd, 1) := by decide +kernel
theorem d_Md_normal_58 : decode m_Md_normal.2.1 58 = .ok (.iconst 1, 1) := by decide +kernel
theorem d_Md_normal_59 : decode m_Md_normal.2.1 59 = .ok (.isub, 1) := by decide +kernel
theorem d_Md_normal_60 : decode m_Md_normal.2.1 60 = .ok (.invokevirtual 90, 3) := by decide +kernel
theorem d_Md_normal_63 : decode m_Md_normal.2.1 63 = .ok (.iload_n 1, 1) := by decide +kernel
theorem d_Md_normal_64 : decode m_Md_normal.2.1 64 = .ok (.ireturn, 1) := by decide +kernel
theorem d_Md_same_0 : decode m_Md_same.2.1 0 = .ok (.aload_n 0, 1) := by decide +kernel
theorem d_Md_same_1 : decode m_Md_same.2.1 1 = .ok (.iconst 0, 1) := by decide +kernel
theorem d_Md_same_2 : decode m_Md_same.2.1 2 = .ok (.putfield 41, 3) := by decide +kernel
theorem d_Md_same_5 : decode m_Md_same.2.1 5 = .ok (.aload_n 0, 1) := by decide +kernel
theorem d_Md_same_6 : decode m_Md_same.2.1 6 = .ok (.getfield 107, 3) := by decide +kernel
theorem d_Md_same_9 : decode m_Md_same.2.1 9 = .ok (.iconst 2, 1) := by decide +kernel
theorem d_Md_same_10 : decode m_Md_same.2.1 10 = .ok (.if_icmp .lt 28, 3) := by decide +kernel
theorem d_Md_same_13 : decode m_Md_same.2.1 13 = .ok (.aload_n 0, 1) := by decide +kernel
theorem d_Md_same_14 : decode m_Md_same.2.1 14 = .ok (.getfield 16, 3) := by decide +kernel
theorem d_Md_same_17 : decode m_Md_same.2.1 17 = .ok (.aload_n 0, 1) := by decide +kernel
theorem d_Md_same_18 : decode m_Md_same.2.1 18 = .ok (.getfield 107, 3) := by decide +kernel
theorem d_Md_same_21 : decode m_Md_same.2.1 21 = .ok (.iconst 1, 1) := by decide +kernel
theorem d_Md_same_22 : decode m_Md_same.2.1 22 = .ok (.isub, 1) := by decide +kernel
theorem d_Md_same_23 : decode m_Md_same.2.1 23 = .ok (.iaload, 1) := by decide +kernel
theorem d_Md_same_24 : decode m_Md_same.2.1 24 = .ok (.aload_n 0, 1) := by decide +kernel
theorem d_Md_same_25 : decode m_Md_same.2.1 25 = .ok (.getfield 16, 3) := by decide +kernel
theorem d_Md_same_28 : decode m_Md_same.2.1 28 = .ok (.aload_n 0, 1) := by decide +kernel
theorem d_Md_same_29 : decode m_Md_same.2.1 29 = .ok (.getfield 107, 3) := by decide +kernel
theorem d_Md_same_32 : decode m_Md_same.2.1 32 = .ok (.iconst 2, 1) := by decide +kernel
theorem d_Md_same_33 : decode m_Md_same.2.1 33 = .ok (.isub, 1) := by decide +kernel
theorem d_Md_same_34 : decode m_Md_same.2.1 34 = .ok (.iaload, 1) := by decide +kernel
theorem d_Md_same_35 : decode m_Md_same.2.1 35 = .ok (.if_icmp .eq 10, 3) := by decide +kernel
theorem d_Md_same_38 : decode m_Md_same.2.1 38 = .ok (.aload_n 0, 1) := by decide +kernel
theorem d_Md_same_39 : decode m_Md_same.2.1 39 = .ok (.iconst 1, 1) := by decide +kernel
theorem d_Md_same_40 : decode m_Md_same.2.1 40 = .ok (.putfield 41, 3) := by decide +kernel
theorem d_Md_same_43 : decode m_Md_same.2.1 43 = .ok (.iconst 0, 1) := by decide +kernel
theorem d_Md_same_44 : decode m_Md_same.2.1 44 = .ok (.ireturn, 1) := by decide +kernel
theorem d_Md_same_45 : decode m_Md_same.2.1 45 = .ok (.aload_n 0, 1) := by decide +kernel
theorem d_Md_same_46 : decode m_Md_same.2.1 46 = .ok (.iconst 0, 1) := by decide +kernel
theorem d_Md_same_47 : decode m_Md_same.2.1 47 = .ok (.putfield 45, 3) := by decide +kernel
theorem d_Md_same_50 : decode m_Md_same.2.1 50 = .ok (.aload_n 0, 1) := by decide +kernel
theorem d_Md_same_51 : decode m_Md_same.2.1 51 = .ok (.iconst 0, 1) := by decide +kernel
theorem d_Md_same_52 : decode m_Md_same.2.1 52 = .ok (.aload_n 0, 1) := by decide +kernel
theorem d_Md_same_53 : decode m_Md_same.2.1 53 = .ok (.getfield 107, 3) := by decide +kernel
theorem d_Md_same_56 : decode m_Md_same.2.1 56 = .ok (.iadd, 1) := by decide +kernel
theorem d_Md_same_57 : decode m_Md_same.2.1 57 = .ok (.iconst 2, 1) := by decide +kernel
theorem d_Md_same_58 : decode m_Md_same.2.1 58 = .ok (.isub, 1) := by decide +kernel
theorem d_Md_same_59 : decode m_Md_same.2.1 59 = .ok (.invokevirtual 120, 3) := by decide +kernel
theorem d_Md_same_62 : decode m_Md_same.2.1 62 = .ok (.istore_n 1, 1) := by decide +kernel
theorem d_Md_same_63 : decode m_Md_same.2.1 63 = .ok (.aload_n 0, 1) := by decide +kernel
theorem d_Md_same_64 : decode m_Md_same.2.1 64 = .ok (.bipush 40, 2) := by decide +kernel
theorem d_Md_same_66 : decode m_Md_same.2.1 66 = .ok (.bipush 42, 2) := by decide +kernel
theorem d_Md_same_68 : decode m_Md_same.2.1 68 = .ok (.invokevirtual 90, 3) := by decide +kernel
theorem d_Md_same_71 : decode m_Md_same.2.1 71 = .ok (.aload_n 0, 1) := by decide +kernel
theorem d_Md_same_72 : decode m_Md_same.2.1 72 = .ok (.getfield 45, 3) := by decide +kernel
theorem d_Md_same_75 : decode m_Md_same.2.1 75 = .ok (.ifCond .eq 7, 3) := by decide +kernel
theorem d_Md_same_78 : decode m_Md_same.2.1 78 = .ok (.iconst 0, 1) := by decide +kernel
theorem d_Md_same_79 : decode m_Md_same.2.1 79 = .ok (.goto 15, 3) := by decide +kernel
theorem d_Md_same_82 : decode m_Md_same.2.1 82 = .ok (.aload_n 0, 1) := by decide +kernel
theorem d_Md_same_83 : decode m_Md_same.2.1 83 = .ok (.iconst 0, 1) := by decide +kernel
theorem d_Md_same_84 : decode m_Md_same.2.1 84 = .ok (.aload_n 0, 1) := by decide +kernel
theorem d_Md_same_85 : decode m_Md_same.2.1 85 = .ok (.getfield 107, 3) := by decide +kernel
theorem d_Md_same_88 : decode m_Md_same.2.1 88 = .ok (.iadd, 1) := by decide +kernel
theorem d_Md_same_89 : decode m_Md_same.2.1 89 = .ok (.iconst 1, 1) := by decide +kernel
theorem d_Md_same_90 : decode m_Md_same.2.1 90 = .ok (.isub, 1) := by decide +kernel
theorem d_Md_same_91 : decode m_Md_same.2.1 91 = .ok (.invokevirtual 120, 3) := by decide +kernel
theorem d_Md_same_94 : decode m_Md_same.2.1 94 = .ok (.istore_n 2, 1) := by decide +kernel
theorem d_Md_same_95 : decode m_Md_same.2.1 95 = .ok (.aload_n 0, 1) := by decide +kernel
theorem d_Md_same_96 : decode m_Md_same.2.1 96 = .ok (.aload_n 0, 1) := by decide +kernel
theorem d_Md_same_97 : decode m_Md_same.2.1 97 = .ok (.getfield 45, 3) := by decide +kernel
theorem d_Md_same_100 : decode m_Md_same.2.1 100 = .ok (.ifCond .eq 7, 3) := by decide +kernel
theorem d_Md_same_103 : decode m_Md_same.2.1 103 = .ok (.iconst 2, 1) := by decide +kernel
theorem d_Md_same_104 : decode m_Md_same.2.1 104 = .ok (.goto 4, 3) := by decide +kernel
theorem d_Md_same_107 : decode m_Md_same.2.1 107 = .ok (.iconst 0, 1) := by decide +kernel
theorem d_Md_same_108 : decode m_Md_same.2.1 108 = .ok (.putfield 41, 3) := by decide +kernel
theorem d_Md_same_111 : decode m_Md_same.2.1 111 = .ok (.aload_n 0, 1) := by decide +kernel
theorem d_Md_same_112 : decode m_Md_same.2.1 112 = .ok (.getfield 45, 3) := by decide +kernel
theorem d_Md_same_115 : decode m_Md_same.2.1 115 = .ok (.ifCond .ne 18, 3) := by decide +kernel
theorem d_Md_same_118 : decode m_Md_same.2.1 118 = .ok (.aload_n 0, 1) := by decide +kernel
theorem d_Md_same_119 : decode m_Md_same.2.1 119 = .ok (.bipush 40, 2) := by decide +kernel
theorem d_Md_same_121 : decode m_Md_same.2.1 121 = .ok (.bipush 42, 2) := by decide +kernel
theorem d_Md_same_123 : decode m_Md_same.2.1 123 = .ok (.invokevirtual 147, 3) := by decide +kernel
theorem d_Md_same_126 : decode m_Md_same.2.1 126 = .ok (.ifCond .eq 7, 3) := by decide +kernel
theorem d_Md_same_129 : decode m_Md_same.2.1 129 = .ok (.iconst 1, 1) := by decide +kernel
theorem d_Md_same_130 : decode m_Md_same.2.1 130 = .ok (.goto 4, 3) := by decide +kernel
theorem d_Md_same_133 : decode m_Md_same.2.1 133 = .ok (.iconst 0, 1) := by decide +kernel
theorem d_Md_same_134 : decode m_Md_same.2.1 134 = .ok (.ireturn, 1) := by decide +kernel
theorem d_Md_drop_0 : decode m_Md_drop.2.1 0 = .ok (.aload_n 0, 1) := by decide +kernel
theorem d_Md_drop_1 : decode m_Md_drop.2.1 1 = .ok (.iconst 0, 1) := by decide +kernel
theorem d_Md_drop_2 : decode m_Md_drop.2.1 2 = .ok (.putfield 41, 3) := by decide +kernel
theorem d_Md_drop_5 : decode m_Md_drop.2.1 5 = .ok (.aload_n 0, 1) := by decide +kernel
theorem d_Md_drop_6 : decode m_Md_drop.2.1 6 = .ok (.getfield 107, 3) := by decide +kernel
theorem d_Md_drop_9 : decode m_Md_drop.2.1 9 = .ok (.ifCond .ne 5, 3) := by decide +kernel
theorem d_Md_drop_12 : decode m_Md_drop.2.1 12 = .ok (.iconst 0, 1) := by decide +kernel
theorem d_Md_drop_13 : decode m_Md_drop.2.1 13 = .ok (.ireturn, 1) := by decide +kernel
theorem d_Md_drop_14 : decode m_Md_drop.2.1 14 = .ok (.aload_n 0, 1) := by decide +kernel
theorem d_Md_drop_15 : decode m_Md_drop.2.1 15 = .ok (.dup, 1) := by decide +kernel
theorem d_Md_drop_16 : decode m_Md_drop.2.1 16 = .ok (.getfield 107, 3) := by decide +kernel
theorem d_Md_drop_19 : decode m_Md_drop.2.1 19 = .ok (.iconst 1, 1) := by decide +kernel
theorem d_Md_drop_20 : decode m_Md_drop.2.1 20 = .ok (.isub, 1) := by decide +kernel
theorem d_Md_drop_21 : decode m_Md_drop.2.1 21 = .ok (.putfield 107, 3) := by decide +kernel
theorem d_Md_drop_24 : decode m_Md_drop.2.1 24 = .ok (.iconst 1, 1) := by decide +kernel
theorem d_Md_drop_25 : decode m_Md_drop.2.1 25 = .ok (.ireturn, 1) := by decide +kernel
theorem d_Md_leave_0 : decode m_Md_leave.2.1 0 = .ok (.aload_n 0, 1) := by decide +kernel
theorem d_Md_leave_1 : decode m_Md_leave.2.1 1 = .ok (.iconst 0, 1) := by decide +kernel
theorem d_Md_leave_2 : decode m_Md_leave.2.1 2 = .ok (.putfield 41, 3) := by decide +kernel
theorem d_Md_leave_5 : decode m_Md_leave.2.1 5 = .ok (.aload_n 0, 1) := by decide +kernel
theorem d_Md_leave_6 : decode m_Md_leave.2.1 6 = .ok (.getfield 104, 3) := by decide +kernel
theorem d_Md_leave_9 : decode m_Md_leave.2.1 9 = .ok (.ifCond .eq 23, 3) := by decide +kernel
theorem d_Md_leave_12 : decode m_Md_leave.2.1 12 = .ok (.aload_n 0, 1) := by decide +kernel
theorem d_Md_leave_13 : decode m_Md_leave.2.1 13 = .ok (.invokevirtual 132, 3) := by decide +kernel
theorem d_Md_leave_16 : decode m_Md_leave.2.1 16 = .ok (.ifCond .eq 16, 3) := by decide +kernel
theorem d_Md_leave_19 : decode m_Md_leave.2.1 19 = .ok (.aload_n 0, 1) := by decide +kernel
theorem d_Md_leave_20 : decode m_Md_leave.2.1 20 = .ok (.aload_n 0, 1) := by decide +kernel
theorem d_Md_leave_21 : decode m_Md_leave.2.1 21 = .ok (.getfield 107, 3) := by decide +kernel
theorem d_Md_leave_24 : decode m_Md_leave.2.1 24 = .ok (.iconst 1, 1) := by decide +kernel
theorem d_Md_leave_25 : decode m_Md_leave.2.1 25 = .ok (.isub, 1) := by decide +kernel
theorem d_Md_leave_26 : decode m_Md_leave.2.1 26 = .ok (.invokevirtual 110, 3) := by decide +kernel
theorem d_Md_leave_29 : decode m_Md_leave.2.1 29 = .ok (.ifCond .eq 5, 3) := by decide +kernel
theorem d_Md_leave_32 : decode m_Md_leave.2.1 32 = .ok (.iconst 0, 1) := by decide +kernel
theorem d_Md_leave_33 : decode m_Md_leave.2.1 33 = .ok (.ireturn, 1) := by decide +kernel
theorem d_Md_leave_34 : decode m_Md_leave.2.1 34 = .ok (.aload_n 0, 1) := by decide +kernel
theorem d_Md_leave_35 : decode m_Md_leave.2.1 35 = .ok (.dup, 1) := by decide +kernel
theorem d_Md_leave_36 : decode m_Md_leave.2.1 36 = .ok (.getfield 104, 3) := by decide +kernel
theorem d_Md_leave_39 : decode m_Md_leave.2.1 39 = .ok (.iconst 1, 1) := by decide +kernel
theorem d_Md_leave_40 : decode m_Md_leave.2.1 40 = .ok (.isub, 1) := by decide +kernel
theorem d_Md_leave_41 : decode m_Md_leave.2.1 41 = .ok (.putfield 104, 3) := by decide +kernel
theorem d_Md_leave_44 : decode m_Md_leave.2.1 44 = .ok (.iconst 1, 1) := by decide +kernel
theorem d_Md_leave_45 : decode m_Md_leave.2.1 45 = .ok (.ireturn, 1) := by decide +kernel
theorem d_Md_counts_0 : decode m_Md_counts.2.1 0 = .ok (.aload_n 0, 1) := by decide +kernel
theorem d_Md_counts_1 : decode m_Md_counts.2.1 1 = .ok (.iconst 0, 1) := by decide +kernel
theorem d_Md_counts_2 : decode m_Md_counts.2.1 2 = .ok (.putfield 41, 3) := by decide +kernel
theorem d_Md_counts_5 : decode m_Md_counts.2.1 5 = .ok (.aload_n 0, 1) := by decide +kernel
theorem d_Md_counts_6 : decode m_Md_counts.2.1 6 = .ok (.getfield 107, 3) := by decide +kernel
theorem d_Md_counts_9 : decode m_Md_counts.2.1 9 = .ok (.bipush 8, 2) := by decide +kernel
theorem d_Md_counts_11 : decode m_Md_counts.2.1 11 = .ok (.aload_n 0, 1) := by decide +kernel
theorem d_Md_counts_12 : decode m_Md_counts.2.1 12 = .ok (.getfield 104, 3) := by decide +kernel
theorem d_Md_counts_15 : decode m_Md_counts.2.1 15 = .ok (.imul, 1) := by decide +kernel
theorem d_Md_counts_16 : decode m_Md_counts.2.1 16 = .ok (.iadd, 1) := by decide +kernel
theorem d_Md_counts_17 : decode m_Md_counts.2.1 17 = .ok (.bipush 64, 2) := by decide +kernel
theorem d_Md_counts_19 : decode m_Md_counts.2.1 19 = .ok (.aload_n 0, 1) := by decide +kernel
theorem d_Md_counts_20 : decode m_Md_counts.2.1 20 = .ok (.getfield 117, 3) := by decide +kernel
theorem d_Md_counts_23 : decode m_Md_counts.2.1 23 = .ok (.imul, 1) := by decide +kernel
theorem d_Md_counts_24 : decode m_Md_counts.2.1 24 = .ok (.iadd, 1) := by decide +kernel
theorem d_Md_counts_25 : decode m_Md_counts.2.1 25 = .ok (.sipush 1024, 3) := by decide +kernel
theorem d_Md_counts_28 : decode m_Md_counts.2.1 28 = .ok (.aload_n 0, 1) := by decide +kernel
theorem d_Md_counts_29 : decode m_Md_counts.2.1 29 = .ok (.getfield 75, 3) := by decide +kernel
theorem d_Md_counts_32 : decode m_Md_counts.2.1 32 = .ok (.imul, 1) := by decide +kernel
theorem d_Md_counts_33 : decode m_Md_counts.2.1 33 = .ok (.iadd, 1) := by decide +kernel
theorem d_Md_counts_34 : decode m_Md_counts.2.1 34 = .ok (.ireturn, 1) := by decide +kernel
theorem d_Md_seen_0 : decode m_Md_seen.2.1 0 = .ok (.iload_n 2, 1) := by decide +kernel
theorem d_Md_seen_1 : decode m_Md_seen.2.1 1 = .ok (.ifCond .lt 22, 3) := by decide +kernel
theorem d_Md_seen_4 : decode m_Md_seen.2.1 4 = .ok (.iload_n 2, 1) := by decide +kernel
theorem d_Md_seen_5 : decode m_Md_seen.2.1 5 = .ok (.aload_n 0, 1) := by decide +kernel
theorem d_Md_seen_6 : decode m_Md_seen.2.1 6 = .ok (.getfield 13, 3) := by decide +kernel
theorem d_Md_seen_9 : decode m_Md_seen.2.1 9 = .ok (.iload_n 1, 1) := by decide +kernel
theorem d_Md_seen_10 : decode m_Md_seen.2.1 10 = .ok (.iaload, 1) := by decide +kernel
theorem d_Md_seen_11 : decode m_Md_seen.2.1 11 = .ok (.if_icmp .ge 12, 3) := by decide +kernel
theorem d_Md_seen_14 : decode m_Md_seen.2.1 14 = .ok (.aload_n 0, 1) := by decide +kernel
theorem d_Md_seen_15 : decode m_Md_seen.2.1 15 = .ok (.iload_n 1, 1) := by decide +kernel
theorem d_Md_seen_16 : decode m_Md_seen.2.1 16 = .ok (.iload_n 2, 1) := by decide +kernel
theorem d_Md_seen_17 : decode m_Md_seen.2.1 17 = .ok (.invokevirtual 49, 3) := by decide +kernel
theorem d_Md_seen_20 : decode m_Md_seen.2.1 20 = .ok (.goto 4, 3) := by decide +kernel
theorem d_Md_seen_23 : decode m_Md_seen.2.1 23 = .ok (.iconst (-1), 1) := by decide +kernel
theorem d_Md_seen_24 : decode m_Md_seen.2.1 24 = .ok (.ireturn, 1) := by decide +kernel
theorem d_Md_judgement_0 : decode m_Md_judgement.2.1 0 = .ok (.aload_n 0, 1) := by decide +kernel
theorem d_Md_judgement_1 : decode m_Md_judgement.2.1 1 = .ok (.iconst 0, 1) := by decide +kernel
theorem d_Md_judgement_2 : decode m_Md_judgement.2.1 2 = .ok (.putfield 41, 3) := by decide +kernel
theorem d_Md_judgement_5 : decode m_Md_judgement.2.1 5 = .ok (.iload_n 1, 1) := by decide +kernel
theorem d_Md_judgement_6 : decode m_Md_judgement.2.1 6 = .ok (.ifCond .lt 11, 3) := by decide +kernel
theorem d_Md_judgement_9 : decode m_Md_judgement.2.1 9 = .ok (.iload_n 1, 1) := by decide +kernel
theorem d_Md_judgement_10 : decode m_Md_judgement.2.1 10 = .ok (.aload_n 0, 1) := by decide +kernel
theorem d_Md_judgement_11 : decode m_Md_judgement.2.1 11 = .ok (.getfield 107, 3) := by decide +kernel
theorem d_Md_judgement_14 : decode m_Md_judgement.2.1 14 = .ok (.if_icmp .lt 7, 3) := by decide +kernel
theorem d_Md_judgement_17 : decode m_Md_judgement.2.1 17 = .ok (.iconst (-1), 1) := by decide +kernel
theorem d_Md_judgement_18 : decode m_Md_judgement.2.1 18 = .ok (.goto 27, 3) := by decide +kernel
theorem d_Md_judgement_21 : decode m_Md_judgement.2.1 21 = .ok (.aload_n 0, 1) := by decide +kernel
theorem d_Md_judgement_22 : decode m_Md_judgement.2.1 22 = .ok (.iload_n 2, 1) := by decide +kernel
theorem d_Md_judgement_23 : decode m_Md_judgement.2.1 23 = .ok (.ifCond .eq 8, 3) := by decide +kernel
theorem d_Md_judgement_26 : decode m_Md_judgement.2.1 26 = .ok (.bipush 6, 2) := by decide +kernel
theorem d_Md_judgement_28 : decode m_Md_judgement.2.1 28 = .ok (.goto 4, 3) := by decide +kernel
theorem d_Md_judgement_31 : decode m_Md_judgement.2.1 31 = .ok (.iconst 0, 1) := by decide +kernel
theorem d_Md_judgement_32 : decode m_Md_judgement.2.1 32 = .ok (.aload_n 0, 1) := by decide +kernel
theorem d_Md_judgement_33 : decode m_Md_judgement.2.1 33 = .ok (.getfield 107, 3) := by decide +kernel
theorem d_Md_judgement_36 : decode m_Md_judgement.2.1 36 = .ok (.iadd, 1) := by decide +kernel
theorem d_Md_judgement_37 : decode m_Md_judgement.2.1 37 = .ok (.iconst 1, 1) := by decide +kernel
theorem d_Md_judgement_38 : decode m_Md_judgement.2.1 38 = .ok (.isub, 1) := by decide +kernel
theorem d_Md_judgement_39 : decode m_Md_judgement.2.1 39 = .ok (.iload_n 1, 1) := by decide +kernel
theorem d_Md_judgement_40 : decode m_Md_judgement.2.1 40 = .ok (.isub, 1) := by decide +kernel
theorem d_Md_judgement_41 : decode m_Md_judgement.2.1 41 = .ok (.iload_n 3, 1) := by decide +kernel
theorem d_Md_judgement_42 : decode m_Md_judgement.2.1 42 = .ok (.invokevirtual 156, 3) := by decide +kernel
theorem d_Md_judgement_45 : decode m_Md_judgement.2.1 45 = .ok (.ireturn, 1) := by decide +kernel
theorem d_Md_made_0 : decode m_Md_made.2.1 0 = .ok (.aload_n 0, 1) := by decide +kernel
theorem d_Md_made_1 : decode m_Md_made.2.1 1 = .ok (.iconst 0, 1) := by decide +kernel
theorem d_Md_made_2 : decode m_Md_made.2.1 2 = .ok (.putfield 41, 3) := by decide +kernel
theorem d_Md_made_5 : decode m_Md_made.2.1 5 = .ok (.iload_n 1, 1) := by decide +kernel
theorem d_Md_made_6 : decode m_Md_made.2.1 6 = .ok (.ifCond .lt 11, 3) := by decide +kernel
theorem d_Md_made_9 : decode m_Md_made.2.1 9 = .ok (.iload_n 1, 1) := by decide +kernel
theorem d_Md_made_10 : decode m_Md_made.2.1 10 = .ok (.aload_n 0, 1) := by decide +kernel
theorem d_Md_made_11 : decode m_Md_made.2.1 11 = .ok (.getfield 107, 3) := by decide +kernel
theorem d_Md_made_14 : decode m_Md_made.2.1 14 = .ok (.if_icmp .lt 7, 3) := by decide +kernel
theorem d_Md_made_17 : decode m_Md_made.2.1 17 = .ok (.iconst (-1), 1) := by decide +kernel
theorem d_Md_made_18 : decode m_Md_made.2.1 18 = .ok (.goto 16, 3) := by decide +kernel
theorem d_Md_made_21 : decode m_Md_made.2.1 21 = .ok (.aload_n 0, 1) := by decide +kernel
theorem d_Md_made_22 : decode m_Md_made.2.1 22 = .ok (.getfield 16, 3) := by decide +kernel
theorem d_Md_made_25 : decode m_Md_made.2.1 25 = .ok (.aload_n 0, 1) := by decide +kernel
theorem d_Md_made_26 : decode m_Md_made.2.1 26 = .ok (.getfield 107, 3) := by decide +kernel
theorem d_Md_made_29 : decode m_Md_made.2.1 29 = .ok (.iconst 1, 1) := by decide +kernel
theorem d_Md_made_30 : decode m_Md_made.2.1 30 = .ok (.isub, 1) := by decide +kernel
theorem d_Md_made_31 : decode m_Md_made.2.1 31 = .ok (.iload_n 1, 1) := by decide +kernel
theorem d_Md_made_32 : decode m_Md_made.2.1 32 = .ok (.isub, 1) := by decide +kernel
theorem d_Md_made_33 : decode m_Md_made.2.1 33 = .ok (.iaload, 1) := by decide +kernel
theorem d_Md_made_34 : decode m_Md_made.2.1 34 = .ok (.ireturn, 1) := by decide +kernel
theorem d_Md_entry_0 : decode m_Md_entry.2.1 0 = .ok (.aload_n 0, 1) := by decide +kernel
theorem d_Md_entry_1 : decode m_Md_entry.2.1 1 = .ok (.iconst 0, 1) := by decide +kernel
theorem d_Md_entry_2 : decode m_Md_entry.2.1 2 = .ok (.putfield 41, 3) := by decide +kernel
theorem d_Md_entry_5 : decode m_Md_entry.2.1 5 = .ok (.iload_n 1, 1) := by decide +kernel
theorem d_Md_entry_6 : decode m_Md_entry.2.1 6 = .ok (.ifCond .lt 11, 3) := by decide +kernel
theorem d_Md_entry_9 : decode m_Md_entry.2.1 9 = .ok (.iload_n 1, 1) := by decide +kernel
theorem d_Md_entry_10 : decode m_Md_entry.2.1 10 = .ok (.aload_n 0, 1) := by decide +kernel
theorem d_Md_entry_11 : decode m_Md_entry.2.1 11 = .ok (.getfield 104, 3) := by decide +kernel
theorem d_Md_entry_14 : decode m_Md_entry.2.1 14 = .ok (.if_icmp .lt 7, 3) := by decide +kernel
theorem d_Md_entry_17 : decode m_Md_entry.2.1 17 = .ok (.iconst (-1), 1) := by decide +kernel
theorem d_Md_entry_18 : decode m_Md_entry.2.1 18 = .ok (.goto 19, 3) := by decide +kernel
theorem d_Md_entry_21 : decode m_Md_entry.2.1 21 = .ok (.aload_n 0, 1) := by decide +kernel
theorem d_Md_entry_22 : decode m_Md_entry.2.1 22 = .ok (.bipush 12, 2) := by decide +kernel
theorem d_Md_entry_24 : decode m_Md_entry.2.1 24 = .ok (.aload_n 0, 1) := by decide +kernel
theorem d_Md_entry_25 : decode m_Md_entry.2.1 25 = .ok (.getfield 104, 3) := by decide +kernel
theorem d_Md_entry_28 : decode m_Md_entry.2.1 28 = .ok (.iadd, 1) := by decide +kernel
theorem d_Md_entry_29 : decode m_Md_entry.2.1 29 = .ok (.iconst 1, 1) := by decide +kernel
theorem d_Md_entry_30 : decode m_Md_entry.2.1 30 = .ok (.isub, 1) := by decide +kernel
theorem d_Md_entry_31 : decode m_Md_entry.2.1 31 = .ok (.iload_n 1, 1) := by decide +kernel
theorem d_Md_entry_32 : decode m_Md_entry.2.1 32 = .ok (.isub, 1) := by decide +kernel
theorem d_Md_entry_33 : decode m_Md_entry.2.1 33 = .ok (.iload_n 2, 1) := by decide +kernel
theorem d_Md_entry_34 : decode m_Md_entry.2.1 34 = .ok (.invokevirtual 156, 3) := by decide +kernel
theorem d_Md_entry_37 : decode m_Md_entry.2.1 37 = .ok (.ireturn, 1) := by decide +kernel
theorem d_Md_type_0 : decode m_Md_type.2.1 0 = .ok (.aload_n 0, 1) := by decide +kernel
theorem d_Md_type_1 : decode m_Md_type.2.1 1 = .ok (.iconst 0, 1) := by decide +kernel
theorem d_Md_type_2 : decode m_Md_type.2.1 2 = .ok (.putfield 41, 3) := by decide +kernel
theorem d_Md_type_5 : decode m_Md_type.2.1 5 = .ok (.iload_n 1, 1) := by decide +kernel
theorem d_Md_type_6 : decode m_Md_type.2.1 6 = .ok (.ifCond .lt 11, 3) := by decide +kernel
theorem d_Md_type_9 : decode m_Md_type.2.1 9 = .ok (.iload_n 1, 1) := by decide +kernel
theorem d_Md_type_10 : decode m_Md_type.2.1 10 = .ok (.aload_n 0, 1) := by decide +kernel
theorem d_Md_type_11 : decode m_Md_type.2.1 11 = .ok (.getfield 117, 3) := by decide +kernel
theorem d_Md_type_14 : decode m_Md_type.2.1 14 = .ok (.if_icmp .lt 5, 3) := by decide +kernel
theorem d_Md_type_17 : decode m_Md_type.2.1 17 = .ok (.iconst (-1), 1) := by decide +kernel
theorem d_Md_type_18 : decode m_Md_type.2.1 18 = .ok (.ireturn, 1) := by decide +kernel
theorem d_Md_type_19 : decode m_Md_type.2.1 19 = .ok (.iload_n 2, 1) := by decide +kernel
theorem d_Md_type_20 : decode m_Md_type.2.1 20 = .ok (.iconst (-1), 1) := by decide +kernel
theorem d_Md_type_21 : decode m_Md_type.2.1 21 = .ok (.if_icmp .ne 20, 3) := by decide +kernel
theorem d_Md_type_24 : decode m_Md_type.2.1 24 = .ok (.aload_n 0, 1) := by decide +kernel
theorem d_Md_type_25 : decode m_Md_type.2.1 25 = .ok (.getfield 19, 3) := by decide +kernel
theorem d_Md_type_28 : decode m_Md_type.2.1 28 = .ok (.iload_n 1, 1) := by decide +kernel
theorem d_Md_type_29 : decode m_Md_type.2.1 29 = .ok (.baload, 1) := by decide +kernel
theorem d_Md_type_30 : decode m_Md_type.2.1 30 = .ok (.ifCond .eq 7, 3) := by decide +kernel
theorem d_Md_type_33 : decode m_Md_type.2.1 33 = .ok (.iconst 1, 1) := by decide +kernel
theorem d_Md_type_34 : decode m_Md_type.2.1 34 = .ok (.goto 16, 3) := by decide +kernel
theorem d_Md_type_37 : decode m_Md_type.2.1 37 = .ok (.iconst 0, 1) := by decide +kernel
theorem d_Md_type_38 : decode m_Md_type.2.1 38 = .ok (.goto 12, 3) := by decide +kernel
theorem d_Md_type_41 : decode m_Md_type.2.1 41 = .ok (.aload_n 0, 1) := by decide +kernel
theorem d_Md_type_42 : decode m_Md_type.2.1 42 = .ok (.bipush 16, 2) := by decide +kernel
theorem d_Md_type_44 : decode m_Md_type.2.1 44 = .ok (.iload_n 1, 1) := by decide +kernel
theorem d_Md_type_45 : decode m_Md_type.2.1 45 = .ok (.iadd, 1) := by decide +kernel
theorem d_Md_type_46 : decode m_Md_type.2.1 46 = .ok (.iload_n 2, 1) := by decide +kernel
theorem d_Md_type_47 : decode m_Md_type.2.1 47 = .ok (.invokevirtual 156, 3) := by decide +kernel
theorem d_Md_type_50 : decode m_Md_type.2.1 50 = .ok (.ireturn, 1) := by decide +kernel
theorem d_Md_side_0 : decode m_Md_side.2.1 0 = .ok (.aload_n 0, 1) := by decide +kernel
theorem d_Md_side_1 : decode m_Md_side.2.1 1 = .ok (.iconst 0, 1) := by decide +kernel
theorem d_Md_side_2 : decode m_Md_side.2.1 2 = .ok (.putfield 41, 3) := by decide +kernel
theorem d_Md_side_5 : decode m_Md_side.2.1 5 = .ok (.iload_n 1, 1) := by decide +kernel
theorem d_Md_side_6 : decode m_Md_side.2.1 6 = .ok (.ifCond .lt 11, 3) := by decide +kernel
theorem d_Md_side_9 : decode m_Md_side.2.1 9 = .ok (.iload_n 1, 1) := by decide +kernel
theorem d_Md_side_10 : decode m_Md_side.2.1 10 = .ok (.aload_n 0, 1) := by decide +kernel
theorem d_Md_side_11 : decode m_Md_side.2.1 11 = .ok (.getfield 75, 3) := by decide +kernel
theorem d_Md_side_14 : decode m_Md_side.2.1 14 = .ok (.if_icmp .lt 5, 3) := by decide +kernel
theorem d_Md_side_17 : decode m_Md_side.2.1 17 = .ok (.iconst (-1), 1) := by decide +kernel
theorem d_Md_side_18 : decode m_Md_side.2.1 18 = .ok (.ireturn, 1) := by decide +kernel
theorem d_Md_side_19 : decode m_Md_side.2.1 19 = .ok (.iload_n 3, 1) := by decide +kernel
theorem d_Md_side_20 : decode m_Md_side.2.1 20 = .ok (.iconst (-1), 1) := by decide +kernel
theorem d_Md_side_21 : decode m_Md_side.2.1 21 = .ok (.if_icmp .ne 12, 3) := by decide +kernel
theorem d_Md_side_24 : decode m_Md_side.2.1 24 = .ok (.aload_n 0, 1) := by decide +kernel
theorem d_Md_side_25 : decode m_Md_side.2.1 25 = .ok (.getfield 23, 3) := by decide +kernel
theorem d_Md_side_28 : decode m_Md_side.2.1 28 = .ok (.iload_n 1, 1) := by decide +kernel
theorem d_Md_side_29 : decode m_Md_side.2.1 29 = .ok (.iaload, 1) := by decide +kernel
theorem d_Md_side_30 : decode m_Md_side.2.1 30 = .ok (.goto 21, 3) := by decide +kernel
theorem d_Md_side_33 : decode m_Md_side.2.1 33 = .ok (.aload_n 0, 1) := by decide +kernel
theorem d_Md_side_34 : decode m_Md_side.2.1 34 = .ok (.iload_n 2, 1) := by decide +kernel
theorem d_Md_side_35 : decode m_Md_side.2.1 35 = .ok (.ifCond .eq 8, 3) := by decide +kernel
theorem d_Md_side_38 : decode m_Md_side.2.1 38 = .ok (.bipush 32, 2) := by decide +kernel
theorem d_Md_side_40 : decode m_Md_side.2.1 40 = .ok (.goto 5, 3) := by decide +kernel
theorem d_Md_side_43 : decode m_Md_side.2.1 43 = .ok (.bipush 24, 2) := by decide +kernel
theorem d_Md_side_45 : decode m_Md_side.2.1 45 = .ok (.iload_n 1, 1) := by decide +kernel
theorem d_Md_side_46 : decode m_Md_side.2.1 46 = .ok (.iadd, 1) := by decide +kernel
theorem d_Md_side_47 : decode m_Md_side.2.1 47 = .ok (.iload_n 3, 1) := by decide +kernel
theorem d_Md_side_48 : decode m_Md_side.2.1 48 = .ok (.invokevirtual 156, 3) := by decide +kernel
theorem d_Md_side_51 : decode m_Md_side.2.1 51 = .ok (.ireturn, 1) := by decide +kernel
end
section
/-! more words: constructors, new cells, arraycopy (printed by wip/whole/tools/gen_links.py) -/
section ZL
variable {G : z_G}
theorem w_oi1 (HG : z_ok G) : Cond.instanceMethod Lib.objectInit ∈ G.Ts := HG.mem (k_in 23 (by decide +kernel) rfl)
theorem w_oi2 (HG : z_ok G) : Cond.code Lib.objectInit ⟨#[0xb1]⟩ 1 none ∈ G.Ts := HG.mem (k_in 24 (by decide +kernel) rfl)
theorem w_ac1 (HG : z_ok G) : Cond.methodLink "TypeKernel$Row" 33 arraycopyName ∈ G.Ts := HG.mem (k_in 363 (by decide +kernel) rfl)
theorem w_ac2 (HG : z_ok G) : Cond.native arraycopyName ∈ G.Ts := HG.mem (k_in 365 (by decide +kernel) rfl)
theorem w_ac3 (HG : z_ok G) : Cond.static arraycopyName ∈ G.Ts := HG.mem (k_in 364 (by decide +kernel) rfl)
theorem w_ac4 (HG : z_ok G) : Cond.initialized "java/lang/System" ∈ G.Ts := HG.mem (k_in 14 (by decide +kernel) rfl)
theorem w_a_int (HG : z_ok G) : Cond.arrayClass .int ∈ G.Ts := HG.mem (k_in 53 (by decide +kernel) rfl)
theorem w_a_long (HG : z_ok G) : Cond.arrayClass .long ∈ G.Ts := HG.mem (k_in 839 (by decide +kernel) rfl)
theorem w_a_boolean (HG : z_ok G) : Cond.arrayClass .boolean ∈ G.Ts := HG.mem (k_in 52 (by decide +kernel) rfl)
theorem w_n_Lw (HG : z_ok G) : Cond.initialized "TypeKernelLaw" ∈ G.Ts := HG.mem (k_in 0 (by decide +kernel) rfl)
theorem w_n_TK (HG : z_ok G) : Cond.initialized "TypeKernel" ∈ G.Ts := HG.mem (k_in 1 (by decide +kernel) rfl)
theorem w_n_Rw (HG : z_ok G) : Cond.initialized "TypeKernel$Rewriter" ∈ G.Ts := HG.mem (k_in 2 (by decide +kernel) rfl)
theorem w_n_Row (HG : z_ok G) : Cond.initialized "TypeKernel$Row" ∈ G.Ts := HG.mem (k_in 3 (by decide +kernel) rfl)
theorem w_n_Wk (HG : z_ok G) : Cond.initialized "TypeKernel$Walk" ∈ G.Ts := HG.mem (k_in 4 (by decide +kernel) rfl)
theorem w_n_Ru (HG : z_ok G) : Cond.initialized "TypeKernel$Rule" ∈ G.Ts := HG.mem (k_in 5 (by decide +kernel) rfl)
theorem w_n_Jd (HG : z_ok G) : Cond.initialized "TypeKernel$Judgement" ∈ G.Ts := HG.mem (k_in 6 (by decide +kernel) rfl)
theorem w_n_Md (HG : z_ok G) : Cond.initialized "TypeKernelModel" ∈ G.Ts := HG.mem (k_in 7 (by decide +kernel) rfl)
theorem w_c_Lw_8 (HG : z_ok G) : Cond.classLink "TypeKernelLaw" 8 "TypeKernel" ∈ G.Ts := HG.mem (k_in 17 (by decide +kernel) rfl)
theorem w_i_TK (HG : z_ok G) : Cond.instantiable "TypeKernel" 12 ∈ G.Ts := HG.mem (k_in 18 (by decide +kernel) rfl)
theorem w_o_TK (HG : z_ok G) : Cond.methodLink "TypeKernel" 1 Lib.objectInit ∈ G.Ts := HG.mem (k_in 22 (by decide +kernel) rfl)
theorem w_c_TK_9 (HG : z_ok G) : Cond.classLink "TypeKernel" 9 "TypeKernel$Judgement" ∈ G.Ts := HG.mem (k_in 25 (by decide +kernel) rfl)
theorem w_ov_Jd (HG : z_ok G) : Cond.arrayOver (.object "TypeKernel$Judgement") ∈ G.Ts := HG.mem (k_in 26 (by decide +kernel) rfl)
theorem w_c_TK_19 (HG : z_ok G) : Cond.classLink "TypeKernel" 19 "TypeKernel$Row" ∈ G.Ts := HG.mem (k_in 27 (by decide +kernel) rfl)
theorem w_ov_Row (HG : z_ok G) : Cond.arrayOver (.object "TypeKernel$Row") ∈ G.Ts := HG.mem (k_in 28 (by decide +kernel) rfl)
theorem w_c_TK_38 (HG : z_ok G) : Cond.classLink "TypeKernel" 38 "TypeKernel$Rewriter" ∈ G.Ts := HG.mem (k_in 29 (by decide +kernel) rfl)
theorem w_i_Rw (HG : z_ok G) : Cond.instantiable "TypeKernel$Rewriter" 7 ∈ G.Ts := HG.mem (k_in 30 (by decide +kernel) rfl)
theorem w_o_Rw (HG : z_ok G) : Cond.methodLink "TypeKernel$Rewriter" 3 Lib.objectInit ∈ G.Ts := HG.mem (k_in 34 (by decide +kernel) rfl)
theorem w_c_Rw_9 (HG : z_ok G) : Cond.classLink "TypeKernel$Rewriter" 9 "TypeKernel$Rule" ∈ G.Ts := HG.mem (k_in 35 (by decide +kernel) rfl)
theorem w_ov_Ru (HG : z_ok G) : Cond.arrayOver (.object "TypeKernel$Rule") ∈ G.Ts := HG.mem (k_in 36 (by decide +kernel) rfl)
theorem w_c_Rw_21 (HG : z_ok G) : Cond.classLink "TypeKernel$Rewriter" 21 "TypeKernel$Row" ∈ G.Ts := HG.mem (k_in 37 (by decide +kernel) rfl)
theorem w_i_Row (HG : z_ok G) : Cond.instantiable "TypeKernel$Row" 2 ∈ G.Ts := HG.mem (k_in 38 (by decide +kernel) rfl)
theorem w_o_Row (HG : z_ok G) : Cond.methodLink "TypeKernel$Row" 3 Lib.objectInit ∈ G.Ts := HG.mem (k_in 42 (by decide +kernel) rfl)
theorem w_c_Rw_35 (HG : z_ok G) : Cond.classLink "TypeKernel$Rewriter" 35 "TypeKernel$Walk" ∈ G.Ts := HG.mem (k_in 54 (by decide +kernel) rfl)
theorem w_i_Wk (HG : z_ok G) : Cond.instantiable "TypeKernel$Walk" 2 ∈ G.Ts := HG.mem (k_in 55 (by decide +kernel) rfl)
theorem w_o_Wk (HG : z_ok G) : Cond.methodLink "TypeKernel$Walk" 3 Lib.objectInit ∈ G.Ts := HG.mem (k_in 59 (by decide +kernel) rfl)
theorem w_i_Ru (HG : z_ok G) : Cond.instantiable "TypeKernel$Rule" 3 ∈ G.Ts := HG.mem (k_in 67 (by decide +kernel) rfl)
theorem w_o_Ru (HG : z_ok G) : Cond.methodLink "TypeKernel$Rule" 1 Lib.objectInit ∈ G.Ts := HG.mem (k_in 71 (by decide +kernel) rfl)
theorem w_c_Ru_7 (HG : z_ok G) : Cond.classLink "TypeKernel$Rule" 7 "TypeKernel$Row" ∈ G.Ts := HG.mem (k_in 72 (by decide +kernel) rfl)
theorem w_i_Jd (HG : z_ok G) : Cond.instantiable "TypeKernel$Judgement" 3 ∈ G.Ts := HG.mem (k_in 115 (by decide +kernel) rfl)
theorem w_o_Jd (HG : z_ok G) : Cond.methodLink "TypeKernel$Judgement" 1 Lib.objectInit ∈ G.Ts := HG.mem (k_in 119 (by decide +kernel) rfl)
theorem w_c_Jd_7 (HG : z_ok G) : Cond.classLink "TypeKernel$Judgement" 7 "TypeKernel$Row" ∈ G.Ts := HG.mem (k_in 120 (by decide +kernel) rfl)
theorem w_c_Lw_12 (HG : z_ok G) : Cond.classLink "TypeKernelLaw" 12 "java/lang/UnsupportedOperationException" ∈ G.Ts := HG.mem (k_in 235 (by decide +kernel) rfl)
theorem w_c_TK_129 (HG : z_ok G) : Cond.classLink "TypeKernel" 129 "java/lang/UnsupportedOperationException" ∈ G.Ts := HG.mem (k_in 244 (by decide +kernel) rfl)
theorem w_c_Row_19 (HG : z_ok G) : Cond.classLink "TypeKernel$Row" 19 "java/lang/ArithmeticException" ∈ G.Ts := HG.mem (k_in 321 (by decide +kernel) rfl)
theorem w_c_Lw_18 (HG : z_ok G) : Cond.classLink "TypeKernelLaw" 18 "java/lang/IndexOutOfBoundsException" ∈ G.Ts := HG.mem (k_in 339 (by decide +kernel) rfl)
theorem w_c_TK_78 (HG : z_ok G) : Cond.classLink "TypeKernel" 78 "java/lang/IndexOutOfBoundsException" ∈ G.Ts := HG.mem (k_in 344 (by decide +kernel) rfl)
theorem w_c_Lw_26 (HG : z_ok G) : Cond.classLink "TypeKernelLaw" 26 "java/lang/IllegalStateException" ∈ G.Ts := HG.mem (k_in 395 (by decide +kernel) rfl)
theorem w_c_Lw_28 (HG : z_ok G) : Cond.classLink "TypeKernelLaw" 28 "java/lang/IllegalArgumentException" ∈ G.Ts := HG.mem (k_in 396 (by decide +kernel) rfl)
theorem w_c_Lw_30 (HG : z_ok G) : Cond.classLink "TypeKernelLaw" 30 "java/lang/ArithmeticException" ∈ G.Ts := HG.mem (k_in 397 (by decide +kernel) rfl)
theorem w_c_TK_146 (HG : z_ok G) : Cond.classLink "TypeKernel" 146 "java/lang/IllegalStateException" ∈ G.Ts := HG.mem (k_in 410 (by decide +kernel) rfl)
theorem w_c_Rw_63 (HG : z_ok G) : Cond.classLink "TypeKernel$Rewriter" 63 "java/lang/ArithmeticException" ∈ G.Ts := HG.mem (k_in 472 (by decide +kernel) rfl)
theorem w_c_TK_111 (HG : z_ok G) : Cond.classLink "TypeKernel" 111 "java/lang/IllegalArgumentException" ∈ G.Ts := HG.mem (k_in 474 (by decide +kernel) rfl)
theorem w_c_Lw_57 (HG : z_ok G) : Cond.classLink "TypeKernelLaw" 57 "TypeKernelModel" ∈ G.Ts := HG.mem (k_in 589 (by decide +kernel) rfl)
theorem w_i_Md (HG : z_ok G) : Cond.instantiable "TypeKernelModel" 16 ∈ G.Ts := HG.mem (k_in 590 (by decide +kernel) rfl)
theorem w_o_Md (HG : z_ok G) : Cond.methodLink "TypeKernelModel" 1 Lib.objectInit ∈ G.Ts := HG.mem (k_in 594 (by decide +kernel) rfl)
end ZL
end
section
/-! Row's methods -/
theorem i_in {i : Int32} {n N : Nat} (c1 : ¬ i < 0) (c2 : ¬ nI n ≤ i) (hn : n ≤ N) (hN : N < 2 ^ 31) : vp_in i N := by
  rcases pk_ix i (n := n) (by omega) with h | h | ⟨j, hj, rfl⟩
  · exact absurd h c1
  · exact absurd h c2
  · exact vp_in_nI (by omega) hN
def k_at (n : Nat) (f : Nat → Int32) (i : Int32) : Int32 := if i < 0 then -1 else if nI n ≤ i then -1 else f i.toNatClampNeg
theorem k_at_in {n j : Nat} (f : Nat → Int32) (hj : j < n) (hn : n ≤ 40) : k_at n f (nI j) = f j := by
  unfold k_at
  rw [if_neg (nI_pos (by omega)), if_neg (nI_ge hj (by omega)), nI_clamp (by omega)]
theorem k_at_out {n j : Nat} (f : Nat → Int32) (hj : n ≤ j) (hn : j < 2 ^ 31) : k_at n f (nI j) = -1 := by
  unfold k_at
  rw [if_neg (nI_pos hn), if_pos (nI_le hj hn)]
section RW
variable {G : z_G} {h : z_H} {d r n : Nat} {f : Nat → Int32}
theorem c_Row_at (HG : z_ok G) (hr : rowAt G h r n f) (hn : n ≤ 40) (i : Int32) : z_C G m_Row_at d [.ref r, .int i] h (z_rq (some (.int (k_at n f i))) h) := by
  refine z_C.of (Nat.le_of_ble_eq_true rfl) ?_
  refine z_iload_n d_Row_at_0 rfl rfl ?_
  refine z_if_lt (tgt := 21) d_Row_at_1 rfl (fun c1 => ?_) (fun c1 => ?_)
  · refine z_iconst (v := -1) d_Row_at_21 (by decide) ?_
    exact z_ireturn d_Row_at_22 rfl rfl ⟨by rw [k_at, if_pos c1], rfl⟩
  · refine z_iload_n d_Row_at_4 rfl rfl ?_
    refine z_aload_n d_Row_at_5 rfl rfl ?_
    refine z_getf (L_Row_15K HG) (by decide) (L_Row_15 HG) d_Row_at_6 hr.1 (by rfl) ?_
    refine z_icmp_ge (tgt := 21) d_Row_at_9 rfl (fun c2 => ?_) (fun c2 => ?_)
    · refine z_iconst (v := -1) d_Row_at_21 (by decide) ?_
      exact z_ireturn d_Row_at_22 rfl rfl ⟨by rw [k_at, if_neg c1, if_pos c2], rfl⟩
    · refine z_aload_n d_Row_at_12 rfl rfl ?_
      refine z_getf (L_Row_9K HG) (by decide) (L_Row_9 HG) d_Row_at_13 hr.1 (by rfl) ?_
      refine z_iload_n d_Row_at_16 rfl rfl ?_
      refine z_iald d_Row_at_17 (ty0 HG) hr.2 (i_in c1 c2 hn (by decide)) ?_
      refine z_goto (tgt := 22) d_Row_at_18 rfl ?_
      exact z_ireturn d_Row_at_22 rfl rfl ⟨by rw [k_at, if_neg c1, if_neg c2], rfl⟩
theorem c_Row_is (HG : z_ok G) (hr : rowAt G h r n f) (hn : n ≤ 40) (v : Int32) : z_C G m_Row_is d [.ref r, .int v] h (z_rq (some (.int (if n = 1 ∧ f 0 = v then nI 1 else nI 0))) h) := by
  refine z_C.of (Nat.le_of_ble_eq_true rfl) ?_
  refine z_aload_n d_Row_is_0 rfl rfl ?_
  refine z_getf (L_Row_15K HG) (by decide) (L_Row_15 HG) d_Row_is_1 hr.1 (by rfl) ?_
  refine z_iconst (v := nI 1) d_Row_is_4 (by decide) ?_
  refine z_icmp_ne (tgt := 22) d_Row_is_5 rfl (fun c1 => ?_) (fun c1 => ?_)
  · rw [nI_eq (by omega) (by omega)] at c1
    refine z_iconst (v := nI 0) d_Row_is_22 (by decide) ?_
    exact z_ireturn d_Row_is_23 rfl rfl ⟨by rw [if_neg (fun q => c1 q.1)], rfl⟩
  · rw [nI_eq (by omega) (by omega)] at c1
    refine z_aload_n d_Row_is_8 rfl rfl ?_
    refine z_getf (L_Row_9K HG) (by decide) (L_Row_9 HG) d_Row_is_9 hr.1 (by rfl) ?_
    refine z_iconst (v := nI 0) d_Row_is_12 (by decide) ?_
    refine z_iald d_Row_is_13 (ty0 HG) hr.2 (vp_in_nI (by decide) (by decide)) ?_
    rw [nI_clamp (by decide)]
    refine z_iload_n d_Row_is_14 rfl rfl ?_
    refine z_icmp_ne (tgt := 22) d_Row_is_15 rfl (fun c2 => ?_) (fun c2 => ?_)
    · refine z_iconst (v := nI 0) d_Row_is_22 (by decide) ?_
      exact z_ireturn d_Row_is_23 rfl rfl ⟨by rw [if_neg (fun q => c2 q.2)], rfl⟩
    · refine z_iconst (v := nI 1) d_Row_is_18 (by decide) ?_
      refine z_goto (tgt := 23) d_Row_is_19 rfl ?_
      exact z_ireturn d_Row_is_23 rfl rfl ⟨by rw [if_pos ⟨c1, c2⟩], rfl⟩
theorem c_Row_clear (HG : z_ok G) (hr : rowAt G h r n f) : z_C G m_Row_clear d [.ref r] h (z_rq none (rset G h r 0 f)) := by
  refine z_C.of (Nat.le_of_ble_eq_true rfl) ?_
  refine z_aload_n d_Row_clear_0 rfl rfl ?_
  refine z_iconst (v := nI 0) d_Row_clear_1 (by decide) ?_
  refine z_putf (L_Row_15K HG) (by decide) (L_Row_15 HG) rfl d_Row_clear_2 hr.1 rfl rfl (Nat.le_of_ble_eq_true rfl) ?_
  exact z_return d_Row_clear_5 rfl ⟨rfl, rset_len 0 hr⟩
theorem c_Row_append (HG : z_ok G) (hr : rowAt G h r n f) (hn : n < 40) (v : Int32) : z_C G m_Row_append d [.ref r, .int v] h (z_rq none (rset G h r (n + 1) (upd f n v))) := by
  refine z_C.of (Nat.le_of_ble_eq_true rfl) ?_
  refine z_aload_n d_Row_append_0 rfl rfl ?_
  refine z_getf (L_Row_15K HG) (by decide) (L_Row_15 HG) d_Row_append_1 hr.1 (by rfl) ?_
  refine z_bipush (v := nI 40) d_Row_append_4 (by decide +kernel) ?_
  refine z_icmp_ne (tgt := 17) d_Row_append_6 rfl (fun c1 => ?_) (fun c1 => ?_)
  · refine z_aload_n d_Row_append_17 rfl rfl ?_
    refine z_getf (L_Row_9K HG) (by decide) (L_Row_9 HG) d_Row_append_18 hr.1 (by rfl) ?_
    refine z_aload_n d_Row_append_21 rfl rfl ?_
    refine z_getf (L_Row_15K HG) (by decide) (L_Row_15 HG) d_Row_append_22 hr.1 (by rfl) ?_
    refine z_iload_n d_Row_append_25 rfl rfl ?_
    refine z_iast d_Row_append_26 (ty0 HG) hr.2 (vp_in_nI hn (by decide)) ?_
    rw [nI_clamp (by omega)]
    have hr' : (z_set h (r + 1) (.inl (G.ca 0, 40, .inl (upd f n v)))).2.2 r = some (k_row r n) := (va_up_ne _ _ (by omega)).trans hr.1
    refine z_aload_n d_Row_append_27 rfl rfl ?_
    refine z_dup d_Row_append_28 rfl ?_
    refine z_getf (L_Row_15K HG) (by decide) (L_Row_15 HG) d_Row_append_29 hr' (by rfl) ?_
    refine z_iconst (v := nI 1) d_Row_append_32 (by decide) ?_
    refine z_iadd d_Row_append_33 ?_
    refine z_putf (L_Row_15K HG) (by decide) (L_Row_15 HG) rfl d_Row_append_34 hr' rfl rfl (Nat.le_of_ble_eq_true rfl) ?_
    rw [nI_add]
    exact z_return d_Row_append_37 rfl ⟨rfl, rfl⟩
  · rw [nI_eq (by omega) (by omega)] at c1
    omega
theorem c_Row_appendX (HG : z_ok G) (hr : rowAt G h r 40 f) (hrm : z_rm G h) (v : Int32) : z_C G m_Row_append d [.ref r, .int v] h (z_xq "java/lang/ArithmeticException" (fun h' => h' = z_exc h)) := by
  refine z_C.of (Nat.le_of_ble_eq_true rfl) ?_
  refine z_aload_n d_Row_append_0 rfl rfl ?_
  refine z_getf (L_Row_15K HG) (by decide) (L_Row_15 HG) d_Row_append_1 hr.1 (by rfl) ?_
  refine z_bipush (v := nI 40) d_Row_append_4 (by decide +kernel) ?_
  refine z_icmp_ne (tgt := 17) d_Row_append_6 rfl (fun c1 => ?_) (fun c1 => ?_)
  · exact absurd rfl c1
  · exact z_throw d_Row_append_9 d_Row_append_12 d_Row_append_13 d_Row_append_16 rfl (by decide +kernel) (t_Row_19 HG) hrm.1 hrm.2 (by decide) ⟨rfl, rfl⟩
theorem c_Row_become (HG : z_ok G) (hr : rowAt G h r n f) (v : Int32) : z_C G m_Row_become (d + 1) [.ref r, .int v] h (z_rq none (rset G h r 1 (upd f 0 v))) := by
  refine z_C.of (Nat.le_of_ble_eq_true rfl) ?_
  refine z_aload_n d_Row_become_0 rfl rfl ?_
  refine z_callV0v (dY := d) d_Row_become_1 rfl (by omega) (Y_Row_30 HG) hr.1 (cl_Row HG) (by decide) (c_Row_clear HG hr) ?_
  refine z_aload_n d_Row_become_4 rfl rfl ?_
  refine z_iload_n d_Row_become_5 rfl rfl ?_
  have hr' := rset_at G h r 0 f
  refine z_callV1v (dY := d) d_Row_become_6 rfl (by omega) (Y_Row_26 HG) hr'.1 (cl_Row HG) (by decide) (c_Row_append HG hr' (by decide) v) ?_
  exact z_return d_Row_become_9 rfl ⟨rfl, rset_rset ..⟩
end RW
end
section
/-! Row's methods that go through rows -/
theorem l_dt {l : List Nat} {i k : Nat} (h : i < l.length) : (l.drop i).take (k + 1) = l.getD i 0 :: (l.drop (i + 1)).take k := by
  rw [List.drop_eq_getElem_cons h, List.take_succ_cons, List.getD_eq_getElem?_getD, List.getElem?_eq_getElem h]
  rfl
theorem l_dc {l : List Nat} {i : Nat} (h : i < l.length) : l.drop i = l.getD i 0 :: l.drop (i + 1) := by
  rw [List.drop_eq_getElem_cons h, List.getD_eq_getElem?_getD, List.getElem?_eq_getElem h]
  rfl
theorem i_inc (i : Nat) : nI i + Int32.ofInt 1 = nI (i + 1) := by rw [lit1, nI_1]
theorem rl.len {f : Nat → Int32} {l : List Nat} (h : rl f l) : l.length ≤ 40 := h.1
theorem rl.eq {f : Nat → Int32} {l : List Nat} (h : rl f l) {i : Nat} (hi : i < l.length) : f i = nI (l.getD i 0) := (h.2 i hi).1
theorem rl.lt {f : Nat → Int32} {l : List Nat} (h : rl f l) {i : Nat} (hi : i < l.length) : l.getD i 0 < 1000 := (h.2 i hi).2
section RY
variable {G : z_G} {h : z_H} {d r s n ns : Nat} {f fs : Nat → Int32} {l ls : List Nat}
theorem k_app_cons (g : Nat → Int32) (m v : Nat) (t : List Nat) : k_app (upd g m (nI v)) (m + 1) t = k_app g m (v :: t) := by
  rw [k_app_one]
  exact k_app_app g m [v] t
theorem l_Row_appendPart (HG : z_ok G) {b : Nat} (hls : rl fs ls) (hb : b ≤ ls.length) (e1 : s ≠ r) (e2 : s ≠ r + 1) (e3 : s + 1 ≠ r) : ∀ (k i m : Nat) (g : Nat → Int32) (h : z_H), rowAt G h r m g → rowAt G h s ls.length fs → i + k = b → m + k ≤ 40 →
    z_V G m_Row_appendPart (d + 1) 3 [(0, .ref r), (1, .ref s), (3, .int (nI b)), (4, .int (nI i))] [] h (z_rq none (rset G h r (m + k) (k_app g m ((ls.drop i).take k)))) := by
  have hl40 := hls.len
  intro k
  induction k with
  | zero =>
    intro i m g h hr hs hi hm
    refine z_iload d_Row_appendPart_3 rfl ?_
    refine z_iload_n d_Row_appendPart_5 rfl rfl ?_
    refine z_icmp_ge (tgt := 25) d_Row_appendPart_6 rfl (fun c1 => ?_) (fun c1 => ?_)
    · exact z_return d_Row_appendPart_25 rfl ⟨rfl, by rw [List.take_zero, k_app_nil]; exact (rset_self hr).symm⟩
    · rw [nI_leI (by omega) (by omega)] at c1
      omega
  | succ k ih =>
    intro i m g h hr hs hi hm
    refine z_iload d_Row_appendPart_3 rfl ?_
    refine z_iload_n d_Row_appendPart_5 rfl rfl ?_
    refine z_icmp_ge (tgt := 25) d_Row_appendPart_6 rfl (fun c1 => ?_) (fun c1 => ?_)
    · rw [nI_leI (by omega) (by omega)] at c1
      omega
    · refine z_aload_n d_Row_appendPart_9 rfl rfl ?_
      refine z_aload_n d_Row_appendPart_10 rfl rfl ?_
      refine z_iload d_Row_appendPart_11 rfl ?_
      refine z_callV1r (dY := d) d_Row_appendPart_13 rfl (by omega) (Y_Row_22 HG) hs.1 (cl_Row HG) (Nat.le_of_ble_eq_true rfl) (c_Row_at HG hs hl40 (nI i)) ?_
      rw [k_at_in fs (by omega) hl40, hls.eq (by omega)]
      refine z_callV1v (dY := d) d_Row_appendPart_16 rfl (by omega) (Y_Row_26 HG) hr.1 (cl_Row HG) (Nat.le_of_ble_eq_true rfl) (c_Row_append HG hr (by omega) _) ?_
      refine z_iinc (v := nI (i + 1)) d_Row_appendPart_19 rfl (i_inc i) (by decide) ?_
      refine z_goto (tgt := 3) d_Row_appendPart_22 rfl ?_
      refine z_fg [(0, .ref r), (1, .ref s), (3, .int (nI b)), (4, .int (nI (i + 1)))] ⟨rfl, rfl, rfl, rfl, trivial⟩ ?_
      refine (ih (i + 1) (m + 1) (upd g m (nI (ls.getD i 0))) _ (rset_at ..) (rset_row _ _ hs e1 e2 e3) (by omega) (by omega)).mono (fun q h' hq => ?_)
      rw [rset_rset, k_app_cons, ← l_dt (by omega), show m + 1 + k = m + (k + 1) by omega] at hq
      exact hq
theorem c_Row_appendPart (HG : z_ok G) {a b : Nat} (hr : rowAt G h r n f) (hs : rowAt G h s ls.length fs) (hls : rl fs ls) (ha : a ≤ b) (hb : b ≤ ls.length) (e1 : s ≠ r) (e2 : s ≠ r + 1) (e3 : s + 1 ≠ r) (hm : n + (b - a) ≤ 40) :
    z_C G m_Row_appendPart (d + 1) [.ref r, .ref s, .int (nI a), .int (nI b)] h (z_rq none (rset G h r (n + (b - a)) (k_app f n ((ls.drop a).take (b - a))))) := by
  refine z_C.of (Nat.le_of_ble_eq_true rfl) ?_
  refine z_iload_n d_Row_appendPart_0 rfl rfl ?_
  refine z_istore d_Row_appendPart_1 (by decide) ?_
  refine z_fg [(0, .ref r), (1, .ref s), (3, .int (nI b)), (4, .int (nI a))] ⟨rfl, rfl, rfl, rfl, trivial⟩ ?_
  exact l_Row_appendPart HG hls hb e1 e2 e3 (b - a) a n f h hr hs (by omega) hm
theorem l_Row_appendPartX (HG : z_ok G) {b : Nat} (hls : rl fs ls) (hb : b ≤ ls.length) (e1 : s ≠ r) (e2 : s ≠ r + 1) (e3 : s + 1 ≠ r) : ∀ (k i m : Nat) (g : Nat → Int32) (h : z_H), z_rm G h → rowAt G h r m g → rowAt G h s ls.length fs → i + k = b → m ≤ 40 → 40 < m + k →
    z_V G m_Row_appendPart (d + 1) 3 [(0, .ref r), (1, .ref s), (3, .int (nI b)), (4, .int (nI i))] [] h (z_xq "java/lang/ArithmeticException" (fun h' => ∃ f', h' = z_exc (rset G h r 40 f'))) := by
  have hl40 := hls.len
  intro k
  induction k with
  | zero =>
    intro i m g h hrm hr hs hi hm hm2
    omega
  | succ k ih =>
    intro i m g h hrm hr hs hi hm hm2
    refine z_iload d_Row_appendPart_3 rfl ?_
    refine z_iload_n d_Row_appendPart_5 rfl rfl ?_
    refine z_icmp_ge (tgt := 25) d_Row_appendPart_6 rfl (fun c1 => ?_) (fun c1 => ?_)
    · rw [nI_leI (by omega) (by omega)] at c1
      omega
    · refine z_aload_n d_Row_appendPart_9 rfl rfl ?_
      refine z_aload_n d_Row_appendPart_10 rfl rfl ?_
      refine z_iload d_Row_appendPart_11 rfl ?_
      refine z_callV1r (dY := d) d_Row_appendPart_13 rfl (by omega) (Y_Row_22 HG) hs.1 (cl_Row HG) (Nat.le_of_ble_eq_true rfl) (c_Row_at HG hs hl40 (nI i)) ?_
      by_cases hm3 : m = 40
      · subst hm3
        exact z_callV1x (dY := d) d_Row_appendPart_16 rfl (by omega) (Y_Row_26 HG) hr.1 (cl_Row HG) (Nat.le_of_ble_eq_true rfl) (c_Row_appendX HG hr hrm _) (fun h' hh => ⟨rfl, g, by rw [hh, rset_self hr]⟩)
      · refine z_callV1v (dY := d) d_Row_appendPart_16 rfl (by omega) (Y_Row_26 HG) hr.1 (cl_Row HG) (Nat.le_of_ble_eq_true rfl) (c_Row_append HG hr (by omega) _) ?_
        refine z_iinc (v := nI (i + 1)) d_Row_appendPart_19 rfl (i_inc i) (by decide) ?_
        refine z_goto (tgt := 3) d_Row_appendPart_22 rfl ?_
        refine z_fg [(0, .ref r), (1, .ref s), (3, .int (nI b)), (4, .int (nI (i + 1)))] ⟨rfl, rfl, rfl, rfl, trivial⟩ ?_
        refine (ih (i + 1) (m + 1) _ _ (hrm.rset ..) (rset_at ..) (rset_row _ _ hs e1 e2 e3) (by omega) (by omega) (by omega)).mono (fun q h' hq => ?_)
        obtain ⟨hq1, f', hq2⟩ := hq
        exact ⟨hq1, f', by rw [hq2, rset_rset]⟩
theorem c_Row_appendPartX (HG : z_ok G) {a b : Nat} (hrm : z_rm G h) (hr : rowAt G h r n f) (hs : rowAt G h s ls.length fs) (hls : rl fs ls) (ha : a ≤ b) (hb : b ≤ ls.length) (e1 : s ≠ r) (e2 : s ≠ r + 1) (e3 : s + 1 ≠ r) (hn : n ≤ 40) (hm : 40 < n + (b - a)) :
    z_C G m_Row_appendPart (d + 1) [.ref r, .ref s, .int (nI a), .int (nI b)] h (z_xq "java/lang/ArithmeticException" (fun h' => ∃ f', h' = z_exc (rset G h r 40 f'))) := by
  refine z_C.of (Nat.le_of_ble_eq_true rfl) ?_
  refine z_iload_n d_Row_appendPart_0 rfl rfl ?_
  refine z_istore d_Row_appendPart_1 (by decide) ?_
  refine z_fg [(0, .ref r), (1, .ref s), (3, .int (nI b)), (4, .int (nI a))] ⟨rfl, rfl, rfl, rfl, trivial⟩ ?_
  exact l_Row_appendPartX HG hls hb e1 e2 e3 (b - a) a n f h hrm hr hs (by omega) hn hm
theorem c_Row_hasParts (HG : z_ok G) {v : Nat} (hv : v < 1000) : z_C G m_Row_hasParts d [.int (nI v)] h (z_rq (some (.int (if p_two v = true then nI 1 else nI 0))) h) := by
  refine z_C.of (Nat.le_of_ble_eq_true rfl) ?_
  refine z_iload_n d_Row_hasParts_0 rfl rfl ?_
  refine z_iconst (v := nI 2) d_Row_hasParts_1 (by decide) ?_
  refine z_icmp_eq (tgt := 15) d_Row_hasParts_2 rfl (fun c1 => ?_) (fun c1 => ?_)
  · rw [nI_eq (by omega) (by omega)] at c1
    refine z_iconst (v := nI 1) d_Row_hasParts_15 (by decide) ?_
    refine z_goto (tgt := 20) d_Row_hasParts_16 rfl ?_
    exact z_ireturn d_Row_hasParts_20 rfl rfl ⟨by rw [if_pos (by simp [p_two, c1])], rfl⟩
  · rw [nI_eq (by omega) (by omega)] at c1
    refine z_iload_n d_Row_hasParts_5 rfl rfl ?_
    refine z_iconst (v := nI 3) d_Row_hasParts_6 (by decide) ?_
    refine z_icmp_eq (tgt := 15) d_Row_hasParts_7 rfl (fun c2 => ?_) (fun c2 => ?_)
    · rw [nI_eq (by omega) (by omega)] at c2
      refine z_iconst (v := nI 1) d_Row_hasParts_15 (by decide) ?_
      refine z_goto (tgt := 20) d_Row_hasParts_16 rfl ?_
      exact z_ireturn d_Row_hasParts_20 rfl rfl ⟨by rw [if_pos (by simp [p_two, c2])], rfl⟩
    · rw [nI_eq (by omega) (by omega)] at c2
      refine z_iload_n d_Row_hasParts_10 rfl rfl ?_
      refine z_iconst (v := nI 4) d_Row_hasParts_11 (by decide) ?_
      refine z_icmp_ne (tgt := 19) d_Row_hasParts_12 rfl (fun c3 => ?_) (fun c3 => ?_)
      · rw [nI_eq (by omega) (by omega)] at c3
        refine z_iconst (v := nI 0) d_Row_hasParts_19 (by decide) ?_
        exact z_ireturn d_Row_hasParts_20 rfl rfl ⟨by rw [if_neg (by simp [p_two, c1, c2, c3])], rfl⟩
      · rw [nI_eq (by omega) (by omega)] at c3
        refine z_iconst (v := nI 1) d_Row_hasParts_15 (by decide) ?_
        refine z_goto (tgt := 20) d_Row_hasParts_16 rfl ?_
        exact z_ireturn d_Row_hasParts_20 rfl rfl ⟨by rw [if_pos (by simp [p_two, c3])], rfl⟩
theorem l_Row_endOf (HG : z_ok G) (hr : rowAt G h r l.length f) (hl : rl f l) : ∀ (m i k : Nat), i + m = l.length → k ≤ i + 1 →
    z_V G m_Row_endOf (d + 1) 4 [(0, .ref r), (2, .int (nI k)), (3, .int (nI i))] [] h (z_rq (some (.int (nI (i + p_end k (l.drop i))))) h) := by
  have hl40 := hl.len
  intro m
  induction m with
  | zero =>
    intro i k hi hk
    refine z_iload_n d_Row_endOf_4 rfl rfl ?_
    refine z_aload_n d_Row_endOf_5 rfl rfl ?_
    refine z_getf (L_Row_15K HG) (by decide) (L_Row_15 HG) d_Row_endOf_6 hr.1 (by rfl) ?_
    refine z_icmp_ge (tgt := 42) d_Row_endOf_9 rfl (fun c1 => ?_) (fun c1 => ?_)
    · refine z_iload_n d_Row_endOf_42 rfl rfl ?_
      exact z_ireturn d_Row_endOf_43 rfl rfl ⟨by rw [List.drop_eq_nil_of_le (by omega), p_end_nil, Nat.add_zero], rfl⟩
    · rw [nI_leI (by omega) (by omega)] at c1
      omega
  | succ m ih =>
    intro i k hi hk
    refine z_iload_n d_Row_endOf_4 rfl rfl ?_
    refine z_aload_n d_Row_endOf_5 rfl rfl ?_
    refine z_getf (L_Row_15K HG) (by decide) (L_Row_15 HG) d_Row_endOf_6 hr.1 (by rfl) ?_
    refine z_icmp_ge (tgt := 42) d_Row_endOf_9 rfl (fun c1 => ?_) (fun c1 => ?_)
    · rw [nI_leI (by omega) (by omega)] at c1
      omega
    · refine z_iload_n d_Row_endOf_12 rfl rfl ?_
      refine z_if_le (tgt := 42) d_Row_endOf_13 rfl (fun c2 => ?_) (fun c2 => ?_)
      · have hk0 : k = 0 := by
          rw [← nI_0, nI_leI (by omega) (by omega)] at c2
          omega
        subst hk0
        refine z_iload_n d_Row_endOf_42 rfl rfl ?_
        exact z_ireturn d_Row_endOf_43 rfl rfl ⟨by rw [p_end_zero, Nat.add_zero], rfl⟩
      · obtain ⟨k, rfl⟩ : ∃ q, k = q + 1 := by
          cases k with
          | zero => exact absurd (by rw [nI_0]; exact Int32.le_refl _) c2
          | succ q => exact ⟨q, rfl⟩
        refine z_iload_n d_Row_endOf_16 rfl rfl ?_
        refine z_aload_n d_Row_endOf_17 rfl rfl ?_
        refine z_getf (L_Row_9K HG) (by decide) (L_Row_9 HG) d_Row_endOf_18 hr.1 (by rfl) ?_
        refine z_iload_n d_Row_endOf_21 rfl rfl ?_
        refine z_iald d_Row_endOf_22 (ty0 HG) hr.2 (vp_in_nI (by omega) (by decide)) ?_
        rw [nI_clamp (by omega), hl.eq (by omega)]
        refine z_callS1r (dY := d) d_Row_endOf_23 rfl (by omega) (Y_Row_46 HG) (Nat.le_of_ble_eq_true rfl) (c_Row_hasParts HG (hl.lt (by omega))) ?_
        have hp : p_end (k + 1) (l.drop i) = p_end (if p_two (l.getD i 0) = true then k + 2 else k) (l.drop (i + 1)) + 1 := by
          rw [l_dc (by omega)]
          rfl
        rw [hp]
        by_cases ht : p_two (l.getD i 0) = true
        · rw [if_pos ht, if_pos ht]
          refine z_if_eq (tgt := 33) d_Row_endOf_26 rfl (fun c3 => ?_) (fun c3 => ?_)
          · exact absurd c3 (by decide)
          · refine z_iconst (v := nI 1) d_Row_endOf_29 (by decide) ?_
            refine z_goto (tgt := 34) d_Row_endOf_30 rfl ?_
            refine z_iadd d_Row_endOf_34 ?_
            rw [nI_add]
            refine z_istore_n d_Row_endOf_35 rfl (by decide) ?_
            refine z_iinc (v := nI (i + 1)) d_Row_endOf_36 rfl (i_inc i) (by decide) ?_
            refine z_goto (tgt := 4) d_Row_endOf_39 rfl ?_
            refine z_fg [(0, .ref r), (2, .int (nI (k + 2))), (3, .int (nI (i + 1)))] ⟨rfl, rfl, rfl, trivial⟩ ?_
            refine (ih (i + 1) (k + 2) (by omega) (by omega)).mono (fun q h' hq => ?_)
            rw [show i + 1 + p_end (k + 2) (l.drop (i + 1)) = i + (p_end (k + 2) (l.drop (i + 1)) + 1) by omega] at hq
            exact hq
        · rw [if_neg ht, if_neg ht]
          refine z_if_eq (tgt := 33) d_Row_endOf_26 rfl (fun c3 => ?_) (fun c3 => ?_)
          · refine z_iconst (v := -1) d_Row_endOf_33 (by decide) ?_
            refine z_iadd d_Row_endOf_34 ?_
            rw [pk_m1]
            refine z_istore_n d_Row_endOf_35 rfl (by decide) ?_
            refine z_iinc (v := nI (i + 1)) d_Row_endOf_36 rfl (i_inc i) (by decide) ?_
            refine z_goto (tgt := 4) d_Row_endOf_39 rfl ?_
            refine z_fg [(0, .ref r), (2, .int (nI k)), (3, .int (nI (i + 1)))] ⟨rfl, rfl, rfl, trivial⟩ ?_
            refine (ih (i + 1) k (by omega) (by omega)).mono (fun q h' hq => ?_)
            rw [show i + 1 + p_end k (l.drop (i + 1)) = i + (p_end k (l.drop (i + 1)) + 1) by omega] at hq
            exact hq
          · exact absurd (by rw [nI_0]) c3
theorem c_Row_endOf (HG : z_ok G) (hr : rowAt G h r l.length f) (hl : rl f l) {a : Nat} (ha : a ≤ l.length) : z_C G m_Row_endOf (d + 1) [.ref r, .int (nI a)] h (z_rq (some (.int (nI (a + p_end 1 (l.drop a))))) h) := by
  refine z_C.of (Nat.le_of_ble_eq_true rfl) ?_
  refine z_iconst (v := nI 1) d_Row_endOf_0 (by decide) ?_
  refine z_istore_n d_Row_endOf_1 rfl (by decide) ?_
  refine z_iload_n d_Row_endOf_2 rfl rfl ?_
  refine z_istore_n d_Row_endOf_3 rfl (by decide) ?_
  refine z_fg [(0, .ref r), (2, .int (nI 1)), (3, .int (nI a))] ⟨rfl, rfl, rfl, trivial⟩ ?_
  exact l_Row_endOf HG hr hl (l.length - a) a 1 (by omega) (by omega)
end RY
end
section
/-! Row's methods: heads, counts, comparisons, copies, the constructor -/
def p_head : List Nat → Nat
  | [] => 0
  | v :: l => if v = 2 then p_head l + 1 else 0
theorem p_head_le : ∀ l : List Nat, p_head l ≤ l.length
  | [] => Nat.le_refl _
  | v :: l => by
    unfold p_head
    split
    · exact Nat.succ_le_succ (p_head_le l)
    · exact Nat.zero_le _
theorem k_app_rl {f g : Nat → Int32} {l : List Nat} (h : rl f l) : va_cpy f g 0 0 l.length = k_app g 0 l := by
  funext j
  unfold va_cpy k_app
  by_cases hj : j < l.length
  · rw [if_pos (by omega), if_pos (by omega), Nat.sub_zero, Nat.zero_add]
    exact h.eq hj
  · rw [if_neg (by omega), if_neg (by omega)]
section RZ
variable {G : z_G} {h : z_H} {d r s s2 n : Nat} {f fs fs2 : Nat → Int32} {l ls ls2 : List Nat}
theorem l_Row_headOf (HG : z_ok G) (hr : rowAt G h r l.length f) (hl : rl f l) : ∀ (m i : Nat), i + m = l.length →
    z_V G m_Row_headOf d 2 [(0, .ref r), (2, .int (nI i))] [] h (z_rq (some (.int (nI (i + p_head (l.drop i))))) h) := by
  have hl40 := hl.len
  intro m
  induction m with
  | zero =>
    intro i hi
    refine z_iload_n d_Row_headOf_2 rfl rfl ?_
    refine z_aload_n d_Row_headOf_3 rfl rfl ?_
    refine z_getf (L_Row_15K HG) (by decide) (L_Row_15 HG) d_Row_headOf_4 hr.1 (by rfl) ?_
    refine z_icmp_ge (tgt := 26) d_Row_headOf_7 rfl (fun c1 => ?_) (fun c1 => ?_)
    · refine z_iload_n d_Row_headOf_26 rfl rfl ?_
      exact z_ireturn d_Row_headOf_27 rfl rfl ⟨by rw [List.drop_eq_nil_of_le (by omega)]; rfl, rfl⟩
    · rw [nI_leI (by omega) (by omega)] at c1
      omega
  | succ m ih =>
    intro i hi
    refine z_iload_n d_Row_headOf_2 rfl rfl ?_
    refine z_aload_n d_Row_headOf_3 rfl rfl ?_
    refine z_getf (L_Row_15K HG) (by decide) (L_Row_15 HG) d_Row_headOf_4 hr.1 (by rfl) ?_
    refine z_icmp_ge (tgt := 26) d_Row_headOf_7 rfl (fun c1 => ?_) (fun c1 => ?_)
    · rw [nI_leI (by omega) (by omega)] at c1
      omega
    · refine z_aload_n d_Row_headOf_10 rfl rfl ?_
      refine z_getf (L_Row_9K HG) (by decide) (L_Row_9 HG) d_Row_headOf_11 hr.1 (by rfl) ?_
      refine z_iload_n d_Row_headOf_14 rfl rfl ?_
      refine z_iald d_Row_headOf_15 (ty0 HG) hr.2 (vp_in_nI (by omega) (by decide)) ?_
      rw [nI_clamp (by omega), hl.eq (by omega)]
      have hlt := hl.lt (i := i) (by omega)
      refine z_iconst (v := nI 2) d_Row_headOf_16 (by decide) ?_
      rw [l_dc (l := l) (i := i) (by omega)]
      refine z_icmp_ne (tgt := 26) d_Row_headOf_17 rfl (fun c2 => ?_) (fun c2 => ?_)
      · rw [nI_eq (by omega) (by omega)] at c2
        refine z_iload_n d_Row_headOf_26 rfl rfl ?_
        exact z_ireturn d_Row_headOf_27 rfl rfl ⟨by rw [p_head, if_neg c2]; rfl, rfl⟩
      · rw [nI_eq (by omega) (by omega)] at c2
        refine z_iinc (v := nI (i + 1)) d_Row_headOf_20 rfl (i_inc i) (by decide) ?_
        refine z_goto (tgt := 2) d_Row_headOf_23 rfl ?_
        refine z_fg [(0, .ref r), (2, .int (nI (i + 1)))] ⟨rfl, rfl, trivial⟩ ?_
        refine (ih (i + 1) (by omega)).mono (fun q h' hq => ?_)
        rw [p_head, if_pos c2, show i + (p_head (l.drop (i + 1)) + 1) = i + 1 + p_head (l.drop (i + 1)) by omega]
        exact hq
theorem c_Row_headOf (HG : z_ok G) (hr : rowAt G h r l.length f) (hl : rl f l) : z_C G m_Row_headOf d [.ref r, .int (nI 0)] h (z_rq (some (.int (nI (p_head l)))) h) := by
  refine z_C.of (Nat.le_of_ble_eq_true rfl) ?_
  refine z_iload_n d_Row_headOf_0 rfl rfl ?_
  refine z_istore_n d_Row_headOf_1 rfl (by decide) ?_
  refine z_fg [(0, .ref r), (2, .int (nI 0))] ⟨rfl, rfl, trivial⟩ ?_
  refine (l_Row_headOf HG hr hl l.length 0 (by omega)).mono (fun q h' hq => ?_)
  rw [Nat.zero_add, List.drop_zero] at hq
  exact hq
theorem l_Row_countOf (HG : z_ok G) (hr : rowAt G h r l.length f) (hl : rl f l) {v : Nat} (hv : v < 1000) : ∀ (m i k : Nat), i + m = l.length → k ≤ i →
    z_V G m_Row_countOf d 4 [(0, .ref r), (1, .int (nI v)), (2, .int (nI k)), (3, .int (nI i))] [] h (z_rq (some (.int (nI (k + (l.drop i).count v)))) h) := by
  have hl40 := hl.len
  intro m
  induction m with
  | zero =>
    intro i k hi hk
    refine z_iload_n d_Row_countOf_4 rfl rfl ?_
    refine z_aload_n d_Row_countOf_5 rfl rfl ?_
    refine z_getf (L_Row_15K HG) (by decide) (L_Row_15 HG) d_Row_countOf_6 hr.1 (by rfl) ?_
    refine z_icmp_ge (tgt := 31) d_Row_countOf_9 rfl (fun c1 => ?_) (fun c1 => ?_)
    · refine z_iload_n d_Row_countOf_31 rfl rfl ?_
      exact z_ireturn d_Row_countOf_32 rfl rfl ⟨by rw [List.drop_eq_nil_of_le (by omega)]; rfl, rfl⟩
    · rw [nI_leI (by omega) (by omega)] at c1
      omega
  | succ m ih =>
    intro i k hi hk
    refine z_iload_n d_Row_countOf_4 rfl rfl ?_
    refine z_aload_n d_Row_countOf_5 rfl rfl ?_
    refine z_getf (L_Row_15K HG) (by decide) (L_Row_15 HG) d_Row_countOf_6 hr.1 (by rfl) ?_
    refine z_icmp_ge (tgt := 31) d_Row_countOf_9 rfl (fun c1 => ?_) (fun c1 => ?_)
    · rw [nI_leI (by omega) (by omega)] at c1
      omega
    · refine z_aload_n d_Row_countOf_12 rfl rfl ?_
      refine z_getf (L_Row_9K HG) (by decide) (L_Row_9 HG) d_Row_countOf_13 hr.1 (by rfl) ?_
      refine z_iload_n d_Row_countOf_16 rfl rfl ?_
      refine z_iald d_Row_countOf_17 (ty0 HG) hr.2 (vp_in_nI (by omega) (by decide)) ?_
      rw [nI_clamp (by omega), hl.eq (by omega)]
      have hlt := hl.lt (i := i) (by omega)
      refine z_iload_n d_Row_countOf_18 rfl rfl ?_
      rw [l_dc (l := l) (i := i) (by omega)]
      refine z_icmp_ne (tgt := 25) d_Row_countOf_19 rfl (fun c2 => ?_) (fun c2 => ?_)
      · rw [nI_eq (by omega) (by omega)] at c2
        refine z_iinc (v := nI (i + 1)) d_Row_countOf_25 rfl (i_inc i) (by decide) ?_
        refine z_goto (tgt := 4) d_Row_countOf_28 rfl ?_
        refine z_fg [(0, .ref r), (1, .int (nI v)), (2, .int (nI k)), (3, .int (nI (i + 1)))] ⟨rfl, rfl, rfl, rfl, trivial⟩ ?_
        refine (ih (i + 1) k (by omega) (by omega)).mono (fun q h' hq => ?_)
        rw [List.count_cons_of_ne c2]
        exact hq
      · rw [nI_eq (by omega) (by omega)] at c2
        refine z_iinc (v := nI (k + 1)) d_Row_countOf_22 rfl (i_inc k) (by decide) ?_
        refine z_iinc (v := nI (i + 1)) d_Row_countOf_25 rfl (i_inc i) (by decide) ?_
        refine z_goto (tgt := 4) d_Row_countOf_28 rfl ?_
        refine z_fg [(0, .ref r), (1, .int (nI v)), (2, .int (nI (k + 1))), (3, .int (nI (i + 1)))] ⟨rfl, rfl, rfl, rfl, trivial⟩ ?_
        refine (ih (i + 1) (k + 1) (by omega) (by omega)).mono (fun q h' hq => ?_)
        rw [c2, List.count_cons_self, show k + (List.count v (l.drop (i + 1)) + 1) = k + 1 + List.count v (l.drop (i + 1)) by omega]
        exact hq
theorem c_Row_countOf (HG : z_ok G) (hr : rowAt G h r l.length f) (hl : rl f l) {v : Nat} (hv : v < 1000) : z_C G m_Row_countOf d [.ref r, .int (nI v)] h (z_rq (some (.int (nI (l.count v)))) h) := by
  refine z_C.of (Nat.le_of_ble_eq_true rfl) ?_
  refine z_iconst (v := nI 0) d_Row_countOf_0 (by decide) ?_
  refine z_istore_n d_Row_countOf_1 rfl (by decide) ?_
  refine z_iconst (v := nI 0) d_Row_countOf_2 (by decide) ?_
  refine z_istore_n d_Row_countOf_3 rfl (by decide) ?_
  refine z_fg [(0, .ref r), (1, .int (nI v)), (2, .int (nI 0)), (3, .int (nI 0))] ⟨rfl, rfl, rfl, rfl, trivial⟩ ?_
  refine (l_Row_countOf HG hr hl hv l.length 0 0 (by omega) (by omega)).mono (fun q h' hq => ?_)
  rw [Nat.zero_add, List.drop_zero] at hq
  exact hq
theorem l_Row_isPart (HG : z_ok G) {a : Nat} (hr : rowAt G h r l.length f) (hl : rl f l) (hs : rowAt G h s ls.length fs) (hls : rl fs ls) (hal : a + l.length ≤ ls.length) : ∀ (m i : Nat), i + m = l.length →
    z_V G m_Row_isPart (d + 1) 15 [(0, .ref r), (1, .ref s), (2, .int (nI a)), (4, .int (nI i))] [] h (z_rq (some (.int (if l.drop i = (ls.drop (a + i)).take (l.length - i) then nI 1 else nI 0))) h) := by
  have hl40 := hl.len
  have hls40 := hls.len
  intro m
  induction m with
  | zero =>
    intro i hi
    refine z_iload d_Row_isPart_15 rfl ?_
    refine z_aload_n d_Row_isPart_17 rfl rfl ?_
    refine z_getf (L_Row_15K HG) (by decide) (L_Row_15 HG) d_Row_isPart_18 hr.1 (by rfl) ?_
    refine z_icmp_ge (tgt := 50) d_Row_isPart_21 rfl (fun c1 => ?_) (fun c1 => ?_)
    · refine z_iconst (v := nI 1) d_Row_isPart_50 (by decide) ?_
      exact z_ireturn d_Row_isPart_51 rfl rfl ⟨by rw [if_pos]; rw [List.drop_eq_nil_of_le (by omega), show l.length - i = 0 by omega, List.take_zero], rfl⟩
    · rw [nI_leI (by omega) (by omega)] at c1
      omega
  | succ m ih =>
    intro i hi
    refine z_iload d_Row_isPart_15 rfl ?_
    refine z_aload_n d_Row_isPart_17 rfl rfl ?_
    refine z_getf (L_Row_15K HG) (by decide) (L_Row_15 HG) d_Row_isPart_18 hr.1 (by rfl) ?_
    refine z_icmp_ge (tgt := 50) d_Row_isPart_21 rfl (fun c1 => ?_) (fun c1 => ?_)
    · rw [nI_leI (by omega) (by omega)] at c1
      omega
    · refine z_aload_n d_Row_isPart_24 rfl rfl ?_
      refine z_getf (L_Row_9K HG) (by decide) (L_Row_9 HG) d_Row_isPart_25 hr.1 (by rfl) ?_
      refine z_iload d_Row_isPart_28 rfl ?_
      refine z_iald d_Row_isPart_30 (ty0 HG) hr.2 (vp_in_nI (by omega) (by decide)) ?_
      rw [nI_clamp (by omega), hl.eq (by omega)]
      refine z_aload_n d_Row_isPart_31 rfl rfl ?_
      refine z_iload_n d_Row_isPart_32 rfl rfl ?_
      refine z_iload d_Row_isPart_33 rfl ?_
      refine z_iadd d_Row_isPart_35 ?_
      rw [nI_add]
      refine z_callV1r (dY := d) d_Row_isPart_36 rfl (by omega) (Y_Row_22 HG) hs.1 (cl_Row HG) (Nat.le_of_ble_eq_true rfl) (c_Row_at HG hs hls40 (nI (a + i))) ?_
      rw [k_at_in fs (by omega) hls40, hls.eq (by omega)]
      have h1 := hl.lt (i := i) (by omega)
      have h2 := hls.lt (i := a + i) (by omega)
      rw [l_dc (l := l) (i := i) (by omega), show l.length - i = (l.length - (i + 1)) + 1 by omega, l_dt (l := ls) (i := a + i) (by omega)]
      refine z_icmp_eq (tgt := 44) d_Row_isPart_39 rfl (fun c2 => ?_) (fun c2 => ?_)
      · rw [nI_eq (by omega) (by omega)] at c2
        refine z_iinc (v := nI (i + 1)) d_Row_isPart_44 rfl (i_inc i) (by decide) ?_
        refine z_goto (tgt := 15) d_Row_isPart_47 rfl ?_
        refine z_fg [(0, .ref r), (1, .ref s), (2, .int (nI a)), (4, .int (nI (i + 1)))] ⟨rfl, rfl, rfl, rfl, trivial⟩ ?_
        refine (ih (i + 1) (by omega)).mono (fun q h' hq => ?_)
        rw [c2]
        rw [show a + (i + 1) = a + i + 1 by omega] at hq
        simp only [List.cons.injEq, true_and]
        exact hq
      · rw [nI_eq (by omega) (by omega)] at c2
        refine z_iconst (v := nI 0) d_Row_isPart_42 (by decide) ?_
        exact z_ireturn d_Row_isPart_43 rfl rfl ⟨by rw [if_neg (fun q => c2 (List.cons.inj q).1)], rfl⟩
theorem c_Row_isPart (HG : z_ok G) {a b : Nat} (hr : rowAt G h r l.length f) (hl : rl f l) (hs : rowAt G h s ls.length fs) (hls : rl fs ls) (hab : a ≤ b) (hb : b ≤ ls.length) :
    z_C G m_Row_isPart (d + 1) [.ref r, .ref s, .int (nI a), .int (nI b)] h (z_rq (some (.int (if l = (ls.drop a).take (b - a) then nI 1 else nI 0))) h) := by
  have hl40 := hl.len
  have hls40 := hls.len
  refine z_C.of (Nat.le_of_ble_eq_true rfl) ?_
  refine z_aload_n d_Row_isPart_0 rfl rfl ?_
  refine z_getf (L_Row_15K HG) (by decide) (L_Row_15 HG) d_Row_isPart_1 hr.1 (by rfl) ?_
  refine z_iload_n d_Row_isPart_4 rfl rfl ?_
  refine z_iload_n d_Row_isPart_5 rfl rfl ?_
  refine z_isub d_Row_isPart_6 ?_
  rw [pk_sub hab]
  refine z_icmp_eq (tgt := 12) d_Row_isPart_7 rfl (fun c1 => ?_) (fun c1 => ?_)
  · rw [nI_eq (by omega) (by omega)] at c1
    refine z_iconst (v := nI 0) d_Row_isPart_12 (by decide) ?_
    refine z_istore d_Row_isPart_13 (by decide) ?_
    refine z_fg [(0, .ref r), (1, .ref s), (2, .int (nI a)), (4, .int (nI 0))] ⟨rfl, rfl, rfl, rfl, trivial⟩ ?_
    refine (l_Row_isPart HG hr hl hs hls (by omega) l.length 0 (by omega)).mono (fun q h' hq => ?_)
    rw [List.drop_zero, Nat.add_zero, Nat.sub_zero, c1] at hq
    exact hq
  · rw [nI_eq (by omega) (by omega)] at c1
    refine z_iconst (v := nI 0) d_Row_isPart_10 (by decide) ?_
    refine z_ireturn d_Row_isPart_11 rfl rfl ⟨by rw [if_neg]; intro q; apply c1; rw [q, List.length_take, List.length_drop]; omega, rfl⟩
theorem c_Row_equalsRow (HG : z_ok G) (hr : rowAt G h r l.length f) (hl : rl f l) (hs : rowAt G h s ls.length fs) (hls : rl fs ls) :
    z_C G m_Row_equalsRow (d + 2) [.ref r, .ref s] h (z_rq (some (.int (if l = ls then nI 1 else nI 0))) h) := by
  refine z_C.of (Nat.le_of_ble_eq_true rfl) ?_
  refine z_aload_n d_Row_equalsRow_0 rfl rfl ?_
  refine z_aload_n d_Row_equalsRow_1 rfl rfl ?_
  refine z_iconst (v := nI 0) d_Row_equalsRow_2 (by decide) ?_
  refine z_aload_n d_Row_equalsRow_3 rfl rfl ?_
  refine z_getf (L_Row_15K HG) (by decide) (L_Row_15 HG) d_Row_equalsRow_4 hs.1 (by rfl) ?_
  refine z_callV3r (dY := d + 1) d_Row_equalsRow_7 rfl (by omega) (Y_Row_50 HG) hr.1 (cl_Row HG) (Nat.le_of_ble_eq_true rfl) (c_Row_isPart HG hr hl hs hls (Nat.zero_le _) (Nat.le_refl _)) ?_
  refine z_ireturn d_Row_equalsRow_10 rfl ?_ ⟨by rw [List.drop_zero, Nat.sub_zero, List.take_length], rfl⟩
  split <;> rfl
theorem c_Row_copy (HG : z_ok G) (hr : rowAt G h r n f) (hs : rowAt G h s ls.length fs) (hls : rl fs ls) (e1 : s ≠ r) (e2 : s ≠ r + 1) (e3 : s + 1 ≠ r) :
    z_C G m_Row_copy d [.ref r, .ref s] h (z_rq none (rset G h r ls.length (k_app f 0 ls))) := by
  have hls40 := hls.len
  refine z_C.of (Nat.le_of_ble_eq_true rfl) ?_
  refine z_aload_n d_Row_copy_0 rfl rfl ?_
  refine z_getf (L_Row_9K HG) (by decide) (L_Row_9 HG) d_Row_copy_1 hs.1 (by rfl) ?_
  refine z_iconst (v := nI 0) d_Row_copy_4 (by decide) ?_
  refine z_aload_n d_Row_copy_5 rfl rfl ?_
  refine z_getf (L_Row_9K HG) (by decide) (L_Row_9 HG) d_Row_copy_6 hr.1 (by rfl) ?_
  refine z_iconst (v := nI 0) d_Row_copy_9 (by decide) ?_
  refine z_aload_n d_Row_copy_10 rfl rfl ?_
  refine z_getf (L_Row_15K HG) (by decide) (L_Row_15 HG) d_Row_copy_11 hs.1 (by rfl) ?_
  refine z_copy d_Row_copy_14 (ty0 HG) (w_ac1 HG) (w_ac2 HG) (w_ac3 HG) (w_ac4 HG) hs.2 hr.2 (nI_pos (by decide)) (nI_pos (by decide)) (nI_pos (by omega)) (by rw [nI_clamp (by decide), nI_clamp (by omega)]; omega) (by rw [nI_clamp (by decide), nI_clamp (by omega)]; omega) (by decide) ?_
  rw [nI_clamp (by decide), nI_clamp (by omega), k_app_rl hls]
  have hs1 : (z_set h (r + 1) (.inl (G.ca 0, 40, .inl (k_app f 0 ls)))).2.2 s = some (k_row s ls.length) := (va_up_ne _ _ e2).trans hs.1
  have hr1 : (z_set h (r + 1) (.inl (G.ca 0, 40, .inl (k_app f 0 ls)))).2.2 r = some (k_row r n) := (va_up_ne _ _ (by omega)).trans hr.1
  refine z_aload_n d_Row_copy_17 rfl rfl ?_
  refine z_aload_n d_Row_copy_18 rfl rfl ?_
  refine z_getf (L_Row_15K HG) (by decide) (L_Row_15 HG) d_Row_copy_19 hs1 (by rfl) ?_
  refine z_putf (L_Row_15K HG) (by decide) (L_Row_15 HG) rfl d_Row_copy_22 hr1 rfl rfl (Nat.le_of_ble_eq_true rfl) ?_
  exact z_return d_Row_copy_25 rfl ⟨rfl, rfl⟩
theorem c_Row_join (HG : z_ok G) {v : Nat} (hr : rowAt G h r n f) (hs : rowAt G h s ls.length fs) (hls : rl fs ls) (hs2 : rowAt G h s2 ls2.length fs2) (hls2 : rl fs2 ls2) (e1 : s ≠ r) (e2 : s ≠ r + 1) (e3 : s + 1 ≠ r) (g1 : s2 ≠ r) (g2 : s2 ≠ r + 1) (g3 : s2 + 1 ≠ r) (hm : 1 + ls.length + ls2.length ≤ 40) :
    z_C G m_Row_join (d + 2) [.ref r, .int (nI v), .ref s, .ref s2] h (z_rq none (rset G h r (1 + ls.length + ls2.length) (k_app f 0 (v :: (ls ++ ls2))))) := by
  refine z_C.of (Nat.le_of_ble_eq_true rfl) ?_
  refine z_aload_n d_Row_join_0 rfl rfl ?_
  refine z_iload_n d_Row_join_1 rfl rfl ?_
  refine z_callV1v (dY := d + 1) d_Row_join_2 rfl (by omega) (Y_Row_39 HG) hr.1 (cl_Row HG) (Nat.le_of_ble_eq_true rfl) (c_Row_become HG hr (nI v)) ?_
  have hr1 := rset_at G h r 1 (upd f 0 (nI v))
  have hs1 := rset_row 1 (upd f 0 (nI v)) hs e1 e2 e3
  have hs21 := rset_row 1 (upd f 0 (nI v)) hs2 g1 g2 g3
  refine z_aload_n d_Row_join_5 rfl rfl ?_
  refine z_aload_n d_Row_join_6 rfl rfl ?_
  refine z_iconst (v := nI 0) d_Row_join_7 (by decide) ?_
  refine z_aload_n d_Row_join_8 rfl rfl ?_
  refine z_getf (L_Row_15K HG) (by decide) (L_Row_15 HG) d_Row_join_9 hs1.1 (by rfl) ?_
  refine z_callV3v (dY := d + 1) d_Row_join_12 rfl (by omega) (Y_Row_42 HG) hr1.1 (cl_Row HG) (Nat.le_of_ble_eq_true rfl) (c_Row_appendPart HG hr1 hs1 hls (Nat.zero_le _) (Nat.le_refl _) e1 e2 e3 (by omega)) ?_
  rw [rset_rset, List.drop_zero, Nat.sub_zero, List.take_length]
  have hr2 := rset_at G h r (1 + ls.length) (k_app (upd f 0 (nI v)) 1 ls)
  have hs22 := rset_row (1 + ls.length) (k_app (upd f 0 (nI v)) 1 ls) hs2 g1 g2 g3
  refine z_aload_n d_Row_join_15 rfl rfl ?_
  refine z_aload_n d_Row_join_16 rfl rfl ?_
  refine z_iconst (v := nI 0) d_Row_join_17 (by decide) ?_
  refine z_aload_n d_Row_join_18 rfl rfl ?_
  refine z_getf (L_Row_15K HG) (by decide) (L_Row_15 HG) d_Row_join_19 hs22.1 (by rfl) ?_
  refine z_callV3v (dY := d + 1) d_Row_join_22 rfl (by omega) (Y_Row_42 HG) hr2.1 (cl_Row HG) (Nat.le_of_ble_eq_true rfl) (c_Row_appendPart HG hr2 hs22 hls2 (Nat.zero_le _) (Nat.le_refl _) g1 g2 g3 (by omega)) ?_
  rw [rset_rset, List.drop_zero, Nat.sub_zero, List.take_length]
  refine z_return d_Row_join_25 rfl ⟨rfl, ?_⟩
  rw [← k_app_cons f 0 v (ls ++ ls2), ← k_app_app]
theorem c_Row_joinX (HG : z_ok G) {v : Nat} (hrm : z_rm G h) (hr : rowAt G h r n f) (hs : rowAt G h s ls.length fs) (hls : rl fs ls) (hs2 : rowAt G h s2 ls2.length fs2) (hls2 : rl fs2 ls2) (e1 : s ≠ r) (e2 : s ≠ r + 1) (e3 : s + 1 ≠ r) (g1 : s2 ≠ r) (g2 : s2 ≠ r + 1) (g3 : s2 + 1 ≠ r) (hm : 40 < 1 + ls.length + ls2.length) :
    z_C G m_Row_join (d + 2) [.ref r, .int (nI v), .ref s, .ref s2] h (z_xq "java/lang/ArithmeticException" (fun h' => ∃ f', h' = z_exc (rset G h r 40 f'))) := by
  have hl40 := hls.len
  refine z_C.of (Nat.le_of_ble_eq_true rfl) ?_
  refine z_aload_n d_Row_join_0 rfl rfl ?_
  refine z_iload_n d_Row_join_1 rfl rfl ?_
  refine z_callV1v (dY := d + 1) d_Row_join_2 rfl (by omega) (Y_Row_39 HG) hr.1 (cl_Row HG) (Nat.le_of_ble_eq_true rfl) (c_Row_become HG hr (nI v)) ?_
  have hr1 := rset_at G h r 1 (upd f 0 (nI v))
  have hs1 := rset_row 1 (upd f 0 (nI v)) hs e1 e2 e3
  have hs21 := rset_row 1 (upd f 0 (nI v)) hs2 g1 g2 g3
  refine z_aload_n d_Row_join_5 rfl rfl ?_
  refine z_aload_n d_Row_join_6 rfl rfl ?_
  refine z_iconst (v := nI 0) d_Row_join_7 (by decide) ?_
  refine z_aload_n d_Row_join_8 rfl rfl ?_
  refine z_getf (L_Row_15K HG) (by decide) (L_Row_15 HG) d_Row_join_9 hs1.1 (by rfl) ?_
  by_cases hf : 1 + ls.length ≤ 40
  · refine z_callV3v (dY := d + 1) d_Row_join_12 rfl (by omega) (Y_Row_42 HG) hr1.1 (cl_Row HG) (Nat.le_of_ble_eq_true rfl) (c_Row_appendPart HG hr1 hs1 hls (Nat.zero_le _) (Nat.le_refl _) e1 e2 e3 (by omega)) ?_
    rw [rset_rset, List.drop_zero, Nat.sub_zero, List.take_length]
    have hr2 := rset_at G h r (1 + ls.length) (k_app (upd f 0 (nI v)) 1 ls)
    have hs22 := rset_row (1 + ls.length) (k_app (upd f 0 (nI v)) 1 ls) hs2 g1 g2 g3
    refine z_aload_n d_Row_join_15 rfl rfl ?_
    refine z_aload_n d_Row_join_16 rfl rfl ?_
    refine z_iconst (v := nI 0) d_Row_join_17 (by decide) ?_
    refine z_aload_n d_Row_join_18 rfl rfl ?_
    refine z_getf (L_Row_15K HG) (by decide) (L_Row_15 HG) d_Row_join_19 hs22.1 (by rfl) ?_
    exact z_callV3x (dY := d + 1) d_Row_join_22 rfl (by omega) (Y_Row_42 HG) hr2.1 (cl_Row HG) (Nat.le_of_ble_eq_true rfl) (c_Row_appendPartX HG (hrm.rset ..) hr2 hs22 hls2 (Nat.zero_le _) (Nat.le_refl _) g1 g2 g3 hf (by omega)) (fun h' hh => by
      obtain ⟨f', hh⟩ := hh
      exact ⟨rfl, f', by rw [hh, rset_rset]⟩)
  · exact z_callV3x (dY := d + 1) d_Row_join_12 rfl (by omega) (Y_Row_42 HG) hr1.1 (cl_Row HG) (Nat.le_of_ble_eq_true rfl) (c_Row_appendPartX HG (hrm.rset ..) hr1 hs1 hls (Nat.zero_le _) (Nat.le_refl _) e1 e2 e3 (by omega) (by omega)) (fun h' hh => by
      obtain ⟨f', hh⟩ := hh
      exact ⟨rfl, f', by rw [hh, rset_rset]⟩)
end RZ
end
section
/-! Walk: a stack of depths, the next one on top -/
def k_wk (w n : Nat) : va_E := .inr (3, [.ref (w + 1), .int (nI n)])
def wkAt (G : z_G) (h : z_H) (w n : Nat) (g : Nat → Int32) : Prop := h.2.2 w = some (k_wk w n) ∧ h.2.2 (w + 1) = some (k_ints G 41 g)
def wset (G : z_G) (h : z_H) (w n : Nat) (g : Nat → Int32) : z_H := (h.1, h.2.1, va_up (va_up h.2.2 (w + 1) (some (k_ints G 41 g))) w (some (k_wk w n)))
theorem wset_at (G : z_G) (h : z_H) (w n : Nat) (g : Nat → Int32) : wkAt G (wset G h w n g) w n g := by
  refine ⟨va_up_self _ _ _, ?_⟩
  show va_up (va_up h.2.2 (w + 1) _) w _ (w + 1) = _
  rw [va_up_ne _ _ (by omega), va_up_self]
theorem wset_ne (G : z_G) (h : z_H) {w q : Nat} (n : Nat) (g : Nat → Int32) (h1 : q ≠ w) (h2 : q ≠ w + 1) : (wset G h w n g).2.2 q = h.2.2 q := by
  show va_up (va_up h.2.2 (w + 1) _) w _ q = _
  rw [va_up_ne _ _ h1, va_up_ne _ _ h2]
theorem wset_row {G : z_G} {h : z_H} {w r n' : Nat} {f' : Nat → Int32} (n : Nat) (g : Nat → Int32) (H : rowAt G h r n' f') (h1 : r ≠ w) (h2 : r ≠ w + 1) (h3 : r + 1 ≠ w) : rowAt G (wset G h w n g) r n' f' :=
  ⟨(wset_ne G h n g h1 h2).trans H.1, (wset_ne G h n g h3 (by omega)).trans H.2⟩
theorem rset_wk {G : z_G} {h : z_H} {w r n' : Nat} {g : Nat → Int32} (n : Nat) (f : Nat → Int32) (H : wkAt G h w n' g) (h1 : w ≠ r) (h2 : w ≠ r + 1) (h3 : w + 1 ≠ r) : wkAt G (rset G h r n f) w n' g :=
  ⟨(rset_ne G h n f h1 h2).trans H.1, (rset_ne G h n f h3 (by omega)).trans H.2⟩
theorem wset_wset (G : z_G) (h : z_H) (w n m : Nat) (f g : Nat → Int32) : wset G (wset G h w n f) w m g = wset G h w m g := by
  unfold wset
  refine congrArg (fun z => (h.1, h.2.1, z)) ?_
  funext q
  simp only [va_up]
  split
  · rfl
  · split <;> rfl
theorem wset_self {G : z_G} {h : z_H} {w n : Nat} {g : Nat → Int32} (H : wkAt G h w n g) : wset G h w n g = h := by
  unfold wset
  obtain ⟨a, b, u⟩ := h
  refine congrArg (fun z => (a, b, z)) ?_
  funext q
  simp only [va_up]
  split
  · rename_i e
    rw [e]
    exact H.1.symm
  · split
    · rename_i e
      rw [e]
      exact H.2.symm
    · rfl
theorem wset_len {G : z_G} {h : z_H} {w n : Nat} {g : Nat → Int32} (m : Nat) (H : wkAt G h w n g) : z_set h w (k_wk w m) = wset G h w m g := by
  unfold wset z_set
  refine congrArg (fun z => (h.1, h.2.1, z)) ?_
  funext q
  simp only [va_up]
  split
  · rfl
  · split
    · rename_i e
      rw [e]
      exact H.2
    · rfl
theorem wr_comm (G : z_G) (h : z_H) {w r n m : Nat} {f g : Nat → Int32} (h1 : w ≠ r) (h2 : w ≠ r + 1) (h3 : w + 1 ≠ r) : rset G (wset G h w n g) r m f = wset G (rset G h r m f) w n g := by
  unfold wset rset
  refine congrArg (fun z => (h.1, h.2.1, z)) ?_
  funext q
  simp only [va_up]
  by_cases q1 : q = r
  · subst q1
    rw [if_pos rfl, if_neg (Ne.symm h1), if_neg (Ne.symm h3), if_pos rfl]
  · rw [if_neg q1]
    by_cases q2 : q = r + 1
    · subst q2
      rw [if_pos rfl, if_neg (Ne.symm h2), if_neg (by omega), if_neg (by omega), if_pos rfl]
    · rw [if_neg q2]
      split
      · rfl
      · split
        · rfl
        · rfl
/-- the array holds the stack -/
def wk (g : Nat → Int32) : List Nat → Prop
  | [] => True
  | d :: S => g S.length = nI d ∧ wk g S
theorem wk_upd {g : Nat → Int32} {k : Nat} {x : Int32} : ∀ {S : List Nat}, S.length ≤ k → wk g S → wk (upd g k x) S
  | [], _, _ => trivial
  | d :: S, hk, h => by
    have hk' : S.length < k := hk
    exact ⟨(pk_un (by omega)).trans h.1, wk_upd (by omega) h.2⟩
def wk_up (g : Nat → Int32) (v d m : Nat) : Nat → Int32 := if p_two v = true then upd (upd g m (nI (if v = 2 then d else d + 1))) (m + 1) (nI d) else g
theorem wk_up_ok {g : Nat → Int32} {S : List Nat} (v d : Nat) (h : wk g S) : wk (wk_up g v d S.length) (p_aw v d S) := by
  unfold wk_up p_aw
  split
  · refine ⟨pk_us, ?_, ?_⟩
    · rw [pk_un (by omega), pk_us]
    · exact wk_upd (by omega) (wk_upd (Nat.le_refl _) h)
  · exact h
section WK
variable {G : z_G} {h : z_H} {d w n : Nat} {g : Nat → Int32}
theorem c_Wk_begin (HG : z_ok G) (hw : wkAt G h w n g) : z_C G m_Wk_begin d [.ref w] h (z_rq none (wset G h w 1 (upd g 0 (nI 0)))) := by
  refine z_C.of (Nat.le_of_ble_eq_true rfl) ?_
  refine z_aload_n d_Wk_begin_0 rfl rfl ?_
  refine z_getf (L_Wk_9K HG) (by decide) (L_Wk_9 HG) d_Wk_begin_1 hw.1 (by rfl) ?_
  refine z_iconst (v := nI 0) d_Wk_begin_4 (by decide) ?_
  refine z_iconst (v := nI 0) d_Wk_begin_5 (by decide) ?_
  refine z_iast d_Wk_begin_6 (ty0 HG) hw.2 (vp_in_nI (by decide) (by decide)) ?_
  rw [nI_clamp (by decide)]
  have hw1 : (z_set h (w + 1) (.inl (G.ca 0, 41, .inl (upd g 0 (nI 0))))).2.2 w = some (k_wk w n) := (va_up_ne _ _ (by omega)).trans hw.1
  refine z_aload_n d_Wk_begin_7 rfl rfl ?_
  refine z_iconst (v := nI 1) d_Wk_begin_8 (by decide) ?_
  refine z_putf (L_Wk_15K HG) (by decide) (L_Wk_15 HG) rfl d_Wk_begin_9 hw1 rfl rfl (Nat.le_of_ble_eq_true rfl) ?_
  exact z_return d_Wk_begin_12 rfl ⟨rfl, rfl⟩
theorem c_Wk_goesOn (HG : z_ok G) (hw : wkAt G h w n g) (hn : n ≤ 41) : z_C G m_Wk_goesOn d [.ref w] h (z_rq (some (.int (if n = 0 then nI 0 else nI 1))) h) := by
  refine z_C.of (Nat.le_of_ble_eq_true rfl) ?_
  refine z_aload_n d_Wk_goesOn_0 rfl rfl ?_
  refine z_getf (L_Wk_15K HG) (by decide) (L_Wk_15 HG) d_Wk_goesOn_1 hw.1 (by rfl) ?_
  refine z_if_le (tgt := 11) d_Wk_goesOn_4 rfl (fun c1 => ?_) (fun c1 => ?_)
  · rw [← nI_0, nI_leI (by omega) (by omega)] at c1
    refine z_iconst (v := nI 0) d_Wk_goesOn_11 (by decide) ?_
    exact z_ireturn d_Wk_goesOn_12 rfl rfl ⟨by rw [if_pos (by omega)], rfl⟩
  · rw [← nI_0, nI_leI (by omega) (by omega)] at c1
    refine z_iconst (v := nI 1) d_Wk_goesOn_7 (by decide) ?_
    refine z_goto (tgt := 12) d_Wk_goesOn_8 rfl ?_
    exact z_ireturn d_Wk_goesOn_12 rfl rfl ⟨by rw [if_neg (by omega)], rfl⟩
/-- behind the choice of the lower depth -/
theorem l_Wk_55 (HG : z_ok G) {k x dd : Nat} (hw : wkAt G h w k g) (hk : k + 1 < 41) (lo : List (Nat × Value)) (h0 : z_get lo 0 = some (.ref w)) (h2 : z_get lo 2 = some (.int (nI dd))) :
    z_V G m_Wk_depthOf d 55 lo [.int (nI x), .int (nI k), .ref (w + 1)] h (z_rq (some (.int (nI dd))) (wset G h w (k + 2) (upd (upd g k (nI x)) (k + 1) (nI dd)))) := by
  refine z_iast d_Wk_depthOf_55 (ty0 HG) hw.2 (vp_in_nI (by omega) (by decide)) ?_
  rw [nI_clamp (by omega)]
  have hw1 : (z_set h (w + 1) (.inl (G.ca 0, 41, .inl (upd g k (nI x))))).2.2 w = some (k_wk w k) := (va_up_ne _ _ (by omega)).trans hw.1
  have hw2 : (z_set h (w + 1) (.inl (G.ca 0, 41, .inl (upd g k (nI x))))).2.2 (w + 1) = some (.inl (G.ca 0, 41, .inl (upd g k (nI x)))) := va_up_self _ _ _
  refine z_aload_n d_Wk_depthOf_56 rfl h0 ?_
  refine z_getf (L_Wk_9K HG) (by decide) (L_Wk_9 HG) d_Wk_depthOf_57 hw1 (by rfl) ?_
  refine z_aload_n d_Wk_depthOf_60 rfl h0 ?_
  refine z_getf (L_Wk_15K HG) (by decide) (L_Wk_15 HG) d_Wk_depthOf_61 hw1 (by rfl) ?_
  refine z_iconst (v := nI 1) d_Wk_depthOf_64 (by decide) ?_
  refine z_iadd d_Wk_depthOf_65 ?_
  rw [nI_add]
  refine z_iload_n d_Wk_depthOf_66 rfl h2 ?_
  refine z_iast d_Wk_depthOf_67 (ty0 HG) hw2 (vp_in_nI (by omega) (by decide)) ?_
  rw [nI_clamp (by omega)]
  have hw3 : (z_set (z_set h (w + 1) (.inl (G.ca 0, 41, .inl (upd g k (nI x))))) (w + 1) (.inl (G.ca 0, 41, .inl (upd (upd g k (nI x)) (k + 1) (nI dd))))).2.2 w = some (k_wk w k) := (va_up_ne _ _ (by omega)).trans hw1
  refine z_aload_n d_Wk_depthOf_68 rfl h0 ?_
  refine z_dup d_Wk_depthOf_69 rfl ?_
  refine z_getf (L_Wk_15K HG) (by decide) (L_Wk_15 HG) d_Wk_depthOf_70 hw3 (by rfl) ?_
  refine z_iconst (v := nI 2) d_Wk_depthOf_73 (by decide) ?_
  refine z_iadd d_Wk_depthOf_74 ?_
  rw [nI_add]
  refine z_putf (L_Wk_15K HG) (by decide) (L_Wk_15 HG) rfl d_Wk_depthOf_75 hw3 rfl rfl (Nat.le_of_ble_eq_true rfl) ?_
  refine z_iload_n d_Wk_depthOf_78 rfl h2 ?_
  refine z_ireturn d_Wk_depthOf_79 rfl rfl ⟨rfl, ?_⟩
  unfold wset
  refine congrArg (fun z => (h.1, h.2.1, z)) ?_
  funext q
  simp only [va_up]
  split
  · rfl
  · split <;> rfl
theorem l_Wk_35 (HG : z_ok G) {k v dd : Nat} (hv : v < 1000) (hp : p_two v = true) (hw : wkAt G h w k g) (hk : k + 1 < 41) (lo : List (Nat × Value)) (h0 : z_get lo 0 = some (.ref w)) (h1 : z_get lo 1 = some (.int (nI v))) (h2 : z_get lo 2 = some (.int (nI dd))) :
    z_V G m_Wk_depthOf d 35 lo [] h (z_rq (some (.int (nI dd))) (wset G h w (k + 2) (wk_up g v dd k))) := by
  unfold wk_up
  rw [if_pos hp]
  refine z_aload_n d_Wk_depthOf_35 rfl h0 ?_
  refine z_getf (L_Wk_9K HG) (by decide) (L_Wk_9 HG) d_Wk_depthOf_36 hw.1 (by rfl) ?_
  refine z_aload_n d_Wk_depthOf_39 rfl h0 ?_
  refine z_getf (L_Wk_15K HG) (by decide) (L_Wk_15 HG) d_Wk_depthOf_40 hw.1 (by rfl) ?_
  refine z_iload_n d_Wk_depthOf_43 rfl h1 ?_
  refine z_iconst (v := nI 2) d_Wk_depthOf_44 (by decide) ?_
  refine z_icmp_ne (tgt := 52) d_Wk_depthOf_45 rfl (fun c2 => ?_) (fun c2 => ?_)
  · rw [nI_eq (by omega) (by omega)] at c2
    rw [if_neg c2]
    refine z_iload_n d_Wk_depthOf_52 rfl h2 ?_
    refine z_iconst (v := nI 1) d_Wk_depthOf_53 (by decide) ?_
    refine z_iadd d_Wk_depthOf_54 ?_
    rw [nI_add]
    exact l_Wk_55 HG hw hk lo h0 h2
  · rw [nI_eq (by omega) (by omega)] at c2
    rw [if_pos c2]
    refine z_iload_n d_Wk_depthOf_48 rfl h2 ?_
    refine z_goto (tgt := 55) d_Wk_depthOf_49 rfl ?_
    exact l_Wk_55 HG hw hk lo h0 h2
theorem c_Wk_depthOf (HG : z_ok G) {v dd : Nat} {S : List Nat} (hv : v < 1000) (hw : wkAt G h w (dd :: S).length g) (hk : wk g (dd :: S)) (hS : S.length + 1 < 41) :
    z_C G m_Wk_depthOf d [.ref w, .int (nI v)] h (z_rq (some (.int (nI dd))) (wset G h w (p_aw v dd S).length (wk_up g v dd S.length))) := by
  refine z_C.of (Nat.le_of_ble_eq_true rfl) ?_
  refine z_aload_n d_Wk_depthOf_0 rfl rfl ?_
  refine z_dup d_Wk_depthOf_1 rfl ?_
  refine z_getf (L_Wk_15K HG) (by decide) (L_Wk_15 HG) d_Wk_depthOf_2 hw.1 (by rfl) ?_
  refine z_iconst (v := nI 1) d_Wk_depthOf_5 (by decide) ?_
  refine z_isub d_Wk_depthOf_6 ?_
  rw [pk_sub (by simp), List.length_cons, Nat.add_sub_cancel]
  refine z_putf (L_Wk_15K HG) (by decide) (L_Wk_15 HG) rfl d_Wk_depthOf_7 hw.1 rfl rfl (Nat.le_of_ble_eq_true rfl) ?_
  have e0 : z_set h w (.inr (3, [Value.ref (w + 1), .int (nI (dd :: S).length)].set 1 (.int (nI S.length)))) = wset G h w S.length g := wset_len S.length hw
  rw [e0]
  have hw1 := wset_at G h w S.length g
  refine z_aload_n d_Wk_depthOf_10 rfl rfl ?_
  refine z_getf (L_Wk_9K HG) (by decide) (L_Wk_9 HG) d_Wk_depthOf_11 hw1.1 (by rfl) ?_
  refine z_aload_n d_Wk_depthOf_14 rfl rfl ?_
  refine z_getf (L_Wk_15K HG) (by decide) (L_Wk_15 HG) d_Wk_depthOf_15 hw1.1 (by rfl) ?_
  refine z_iald d_Wk_depthOf_18 (ty0 HG) hw1.2 (vp_in_nI (by omega) (by decide)) ?_
  rw [nI_clamp (by omega), hk.1]
  refine z_istore_n d_Wk_depthOf_19 rfl (by decide) ?_
  refine z_iload_n d_Wk_depthOf_20 rfl rfl ?_
  refine z_iconst (v := nI 2) d_Wk_depthOf_21 (by decide) ?_
  rw [p_aw_len]
  have two : p_two v = true → z_V G m_Wk_depthOf d 35 (z_sto (lv_args 0 [.ref w, .int (nI v)]) 2 (.int (nI dd))) [] (wset G h w S.length g) (z_rq (some (.int (nI dd))) (wset G h w (if p_two v = true then S.length + 2 else S.length) (wk_up g v dd S.length))) := fun hp => by
    rw [if_pos hp]
    refine (l_Wk_35 HG hv hp hw1 hS _ rfl rfl rfl).mono (fun q h' hq => ?_)
    rw [wset_wset] at hq
    exact hq
  refine z_icmp_eq (tgt := 35) d_Wk_depthOf_22 rfl (fun c1 => ?_) (fun c1 => ?_)
  · rw [nI_eq (by omega) (by omega)] at c1
    exact two (by simp [p_two, c1])
  · rw [nI_eq (by omega) (by omega)] at c1
    refine z_iload_n d_Wk_depthOf_25 rfl rfl ?_
    refine z_iconst (v := nI 3) d_Wk_depthOf_26 (by decide) ?_
    refine z_icmp_eq (tgt := 35) d_Wk_depthOf_27 rfl (fun c3 => ?_) (fun c3 => ?_)
    · rw [nI_eq (by omega) (by omega)] at c3
      exact two (by simp [p_two, c3])
    · rw [nI_eq (by omega) (by omega)] at c3
      refine z_iload_n d_Wk_depthOf_30 rfl rfl ?_
      refine z_iconst (v := nI 4) d_Wk_depthOf_31 (by decide) ?_
      refine z_icmp_ne (tgt := 78) d_Wk_depthOf_32 rfl (fun c5 => ?_) (fun c5 => ?_)
      · rw [nI_eq (by omega) (by omega)] at c5
        have hp : ¬ p_two v = true := by simp [p_two, c1, c3, c5]
        rw [if_neg hp]
        refine z_iload_n d_Wk_depthOf_78 rfl rfl ?_
        exact z_ireturn d_Wk_depthOf_79 rfl rfl ⟨rfl, by rw [wk_up, if_neg hp]⟩
      · rw [nI_eq (by omega) (by omega)] at c5
        exact two (by simp [p_two, c5])
end WK
end
section
/-! calls whose picture behind is said by a predicate -/
def z_pq (v : Option Value) (P : z_H → Prop) : z_R → z_H → Prop := fun r h' => r = .inl v ∧ P h'
section ZP
variable {G : z_G} {mt mtY : z_M} {d dY pc : Nat} {lo : List (Nat × Value)} {st : List Value} {h : z_H} {Q QY : z_R → z_H → Prop} {as : List Value}
theorem z_callV0p {b ci N idx : Nat} {T : u_T} {fs : List Value} (hd : decode mt.2.1 pc = .ok (.invokevirtual idx, 3)) (hh : mt.2.2.2.2 = []) (hdp : dY + 1 ≤ d) (Y : z_Yv G mt.1.cls idx mtY 0) (hb : h.2.2 b = some (.inr (ci, fs))) (hcl : G.cl[ci]? = some (mtY.1.cls, T, N)) (hst : (st.map fun v => v.category).sum ≤ 8) {P : z_H → Prop} (hM : z_C G mtY dY [.ref b] h (z_pq none P)) (kk : ∀ h', P h' → z_V G mt d (pc + 3) lo st h' Q) : z_V G mt d pc lo (.ref b :: st) h Q :=
  z_callV (as := []) hd hh hdp Y rfl hb hcl hst hM (fun v h' q => by obtain ⟨q1, q2⟩ := q; cases q1; exact kk h' q2) (fun X h' q => by obtain ⟨q1, -⟩ := q; cases q1)
theorem z_callV0q {b ci N idx : Nat} {T : u_T} {fs : List Value} (hd : decode mt.2.1 pc = .ok (.invokevirtual idx, 3)) (hh : mt.2.2.2.2 = []) (hdp : dY + 1 ≤ d) (Y : z_Yv G mt.1.cls idx mtY 0) (hb : h.2.2 b = some (.inr (ci, fs))) (hcl : G.cl[ci]? = some (mtY.1.cls, T, N)) (hst : (st.map fun v => v.category).sum ≤ 8) {x : Value} {P : z_H → Prop} (hM : z_C G mtY dY [.ref b] h (z_pq (some x) P)) (kk : ∀ h', P h' → z_V G mt d (pc + 3) lo (x :: st) h' Q) : z_V G mt d pc lo (.ref b :: st) h Q :=
  z_callV (as := []) hd hh hdp Y rfl hb hcl hst hM (fun v h' q => by obtain ⟨q1, q2⟩ := q; cases q1; exact kk h' q2) (fun X h' q => by obtain ⟨q1, -⟩ := q; cases q1)
theorem z_callV1p {x1 : Value} {b ci N idx : Nat} {T : u_T} {fs : List Value} (hd : decode mt.2.1 pc = .ok (.invokevirtual idx, 3)) (hh : mt.2.2.2.2 = []) (hdp : dY + 1 ≤ d) (Y : z_Yv G mt.1.cls idx mtY 1) (hb : h.2.2 b = some (.inr (ci, fs))) (hcl : G.cl[ci]? = some (mtY.1.cls, T, N)) (hst : (st.map fun v => v.category).sum ≤ 8) {P : z_H → Prop} (hM : z_C G mtY dY [.ref b, x1] h (z_pq none P)) (kk : ∀ h', P h' → z_V G mt d (pc + 3) lo st h' Q) : z_V G mt d pc lo (x1 :: .ref b :: st) h Q :=
  z_callV (as := [x1]) hd hh hdp Y rfl hb hcl hst hM (fun v h' q => by obtain ⟨q1, q2⟩ := q; cases q1; exact kk h' q2) (fun X h' q => by obtain ⟨q1, -⟩ := q; cases q1)
theorem z_callV1q {x1 : Value} {b ci N idx : Nat} {T : u_T} {fs : List Value} (hd : decode mt.2.1 pc = .ok (.invokevirtual idx, 3)) (hh : mt.2.2.2.2 = []) (hdp : dY + 1 ≤ d) (Y : z_Yv G mt.1.cls idx mtY 1) (hb : h.2.2 b = some (.inr (ci, fs))) (hcl : G.cl[ci]? = some (mtY.1.cls, T, N)) (hst : (st.map fun v => v.category).sum ≤ 8) {x : Value} {P : z_H → Prop} (hM : z_C G mtY dY [.ref b, x1] h (z_pq (some x) P)) (kk : ∀ h', P h' → z_V G mt d (pc + 3) lo (x :: st) h' Q) : z_V G mt d pc lo (x1 :: .ref b :: st) h Q :=
  z_callV (as := [x1]) hd hh hdp Y rfl hb hcl hst hM (fun v h' q => by obtain ⟨q1, q2⟩ := q; cases q1; exact kk h' q2) (fun X h' q => by obtain ⟨q1, -⟩ := q; cases q1)
theorem z_callV2p {x1 x2 : Value} {b ci N idx : Nat} {T : u_T} {fs : List Value} (hd : decode mt.2.1 pc = .ok (.invokevirtual idx, 3)) (hh : mt.2.2.2.2 = []) (hdp : dY + 1 ≤ d) (Y : z_Yv G mt.1.cls idx mtY 2) (hb : h.2.2 b = some (.inr (ci, fs))) (hcl : G.cl[ci]? = some (mtY.1.cls, T, N)) (hst : (st.map fun v => v.category).sum ≤ 8) {P : z_H → Prop} (hM : z_C G mtY dY [.ref b, x1, x2] h (z_pq none P)) (kk : ∀ h', P h' → z_V G mt d (pc + 3) lo st h' Q) : z_V G mt d pc lo (x2 :: x1 :: .ref b :: st) h Q :=
  z_callV (as := [x1, x2]) hd hh hdp Y rfl hb hcl hst hM (fun v h' q => by obtain ⟨q1, q2⟩ := q; cases q1; exact kk h' q2) (fun X h' q => by obtain ⟨q1, -⟩ := q; cases q1)
theorem z_callV2q {x1 x2 : Value} {b ci N idx : Nat} {T : u_T} {fs : List Value} (hd : decode mt.2.1 pc = .ok (.invokevirtual idx, 3)) (hh : mt.2.2.2.2 = []) (hdp : dY + 1 ≤ d) (Y : z_Yv G mt.1.cls idx mtY 2) (hb : h.2.2 b = some (.inr (ci, fs))) (hcl : G.cl[ci]? = some (mtY.1.cls, T, N)) (hst : (st.map fun v => v.category).sum ≤ 8) {x : Value} {P : z_H → Prop} (hM : z_C G mtY dY [.ref b, x1, x2] h (z_pq (some x) P)) (kk : ∀ h', P h' → z_V G mt d (pc + 3) lo (x :: st) h' Q) : z_V G mt d pc lo (x2 :: x1 :: .ref b :: st) h Q :=
  z_callV (as := [x1, x2]) hd hh hdp Y rfl hb hcl hst hM (fun v h' q => by obtain ⟨q1, q2⟩ := q; cases q1; exact kk h' q2) (fun X h' q => by obtain ⟨q1, -⟩ := q; cases q1)
theorem z_callV3p {x1 x2 x3 : Value} {b ci N idx : Nat} {T : u_T} {fs : List Value} (hd : decode mt.2.1 pc = .ok (.invokevirtual idx, 3)) (hh : mt.2.2.2.2 = []) (hdp : dY + 1 ≤ d) (Y : z_Yv G mt.1.cls idx mtY 3) (hb : h.2.2 b = some (.inr (ci, fs))) (hcl : G.cl[ci]? = some (mtY.1.cls, T, N)) (hst : (st.map fun v => v.category).sum ≤ 8) {P : z_H → Prop} (hM : z_C G mtY dY [.ref b, x1, x2, x3] h (z_pq none P)) (kk : ∀ h', P h' → z_V G mt d (pc + 3) lo st h' Q) : z_V G mt d pc lo (x3 :: x2 :: x1 :: .ref b :: st) h Q :=
  z_callV (as := [x1, x2, x3]) hd hh hdp Y rfl hb hcl hst hM (fun v h' q => by obtain ⟨q1, q2⟩ := q; cases q1; exact kk h' q2) (fun X h' q => by obtain ⟨q1, -⟩ := q; cases q1)
theorem z_callV3q {x1 x2 x3 : Value} {b ci N idx : Nat} {T : u_T} {fs : List Value} (hd : decode mt.2.1 pc = .ok (.invokevirtual idx, 3)) (hh : mt.2.2.2.2 = []) (hdp : dY + 1 ≤ d) (Y : z_Yv G mt.1.cls idx mtY 3) (hb : h.2.2 b = some (.inr (ci, fs))) (hcl : G.cl[ci]? = some (mtY.1.cls, T, N)) (hst : (st.map fun v => v.category).sum ≤ 8) {x : Value} {P : z_H → Prop} (hM : z_C G mtY dY [.ref b, x1, x2, x3] h (z_pq (some x) P)) (kk : ∀ h', P h' → z_V G mt d (pc + 3) lo (x :: st) h' Q) : z_V G mt d pc lo (x3 :: x2 :: x1 :: .ref b :: st) h Q :=
  z_callV (as := [x1, x2, x3]) hd hh hdp Y rfl hb hcl hst hM (fun v h' q => by obtain ⟨q1, q2⟩ := q; cases q1; exact kk h' q2) (fun X h' q => by obtain ⟨q1, -⟩ := q; cases q1)
theorem z_callV4p {x1 x2 x3 x4 : Value} {b ci N idx : Nat} {T : u_T} {fs : List Value} (hd : decode mt.2.1 pc = .ok (.invokevirtual idx, 3)) (hh : mt.2.2.2.2 = []) (hdp : dY + 1 ≤ d) (Y : z_Yv G mt.1.cls idx mtY 4) (hb : h.2.2 b = some (.inr (ci, fs))) (hcl : G.cl[ci]? = some (mtY.1.cls, T, N)) (hst : (st.map fun v => v.category).sum ≤ 8) {P : z_H → Prop} (hM : z_C G mtY dY [.ref b, x1, x2, x3, x4] h (z_pq none P)) (kk : ∀ h', P h' → z_V G mt d (pc + 3) lo st h' Q) : z_V G mt d pc lo (x4 :: x3 :: x2 :: x1 :: .ref b :: st) h Q :=
  z_callV (as := [x1, x2, x3, x4]) hd hh hdp Y rfl hb hcl hst hM (fun v h' q => by obtain ⟨q1, q2⟩ := q; cases q1; exact kk h' q2) (fun X h' q => by obtain ⟨q1, -⟩ := q; cases q1)
theorem z_callV4q {x1 x2 x3 x4 : Value} {b ci N idx : Nat} {T : u_T} {fs : List Value} (hd : decode mt.2.1 pc = .ok (.invokevirtual idx, 3)) (hh : mt.2.2.2.2 = []) (hdp : dY + 1 ≤ d) (Y : z_Yv G mt.1.cls idx mtY 4) (hb : h.2.2 b = some (.inr (ci, fs))) (hcl : G.cl[ci]? = some (mtY.1.cls, T, N)) (hst : (st.map fun v => v.category).sum ≤ 8) {x : Value} {P : z_H → Prop} (hM : z_C G mtY dY [.ref b, x1, x2, x3, x4] h (z_pq (some x) P)) (kk : ∀ h', P h' → z_V G mt d (pc + 3) lo (x :: st) h' Q) : z_V G mt d pc lo (x4 :: x3 :: x2 :: x1 :: .ref b :: st) h Q :=
  z_callV (as := [x1, x2, x3, x4]) hd hh hdp Y rfl hb hcl hst hM (fun v h' q => by obtain ⟨q1, q2⟩ := q; cases q1; exact kk h' q2) (fun X h' q => by obtain ⟨q1, -⟩ := q; cases q1)
theorem z_callV5p {x1 x2 x3 x4 x5 : Value} {b ci N idx : Nat} {T : u_T} {fs : List Value} (hd : decode mt.2.1 pc = .ok (.invokevirtual idx, 3)) (hh : mt.2.2.2.2 = []) (hdp : dY + 1 ≤ d) (Y : z_Yv G mt.1.cls idx mtY 5) (hb : h.2.2 b = some (.inr (ci, fs))) (hcl : G.cl[ci]? = some (mtY.1.cls, T, N)) (hst : (st.map fun v => v.category).sum ≤ 8) {P : z_H → Prop} (hM : z_C G mtY dY [.ref b, x1, x2, x3, x4, x5] h (z_pq none P)) (kk : ∀ h', P h' → z_V G mt d (pc + 3) lo st h' Q) : z_V G mt d pc lo (x5 :: x4 :: x3 :: x2 :: x1 :: .ref b :: st) h Q :=
  z_callV (as := [x1, x2, x3, x4, x5]) hd hh hdp Y rfl hb hcl hst hM (fun v h' q => by obtain ⟨q1, q2⟩ := q; cases q1; exact kk h' q2) (fun X h' q => by obtain ⟨q1, -⟩ := q; cases q1)
theorem z_callV5q {x1 x2 x3 x4 x5 : Value} {b ci N idx : Nat} {T : u_T} {fs : List Value} (hd : decode mt.2.1 pc = .ok (.invokevirtual idx, 3)) (hh : mt.2.2.2.2 = []) (hdp : dY + 1 ≤ d) (Y : z_Yv G mt.1.cls idx mtY 5) (hb : h.2.2 b = some (.inr (ci, fs))) (hcl : G.cl[ci]? = some (mtY.1.cls, T, N)) (hst : (st.map fun v => v.category).sum ≤ 8) {x : Value} {P : z_H → Prop} (hM : z_C G mtY dY [.ref b, x1, x2, x3, x4, x5] h (z_pq (some x) P)) (kk : ∀ h', P h' → z_V G mt d (pc + 3) lo (x :: st) h' Q) : z_V G mt d pc lo (x5 :: x4 :: x3 :: x2 :: x1 :: .ref b :: st) h Q :=
  z_callV (as := [x1, x2, x3, x4, x5]) hd hh hdp Y rfl hb hcl hst hM (fun v h' q => by obtain ⟨q1, q2⟩ := q; cases q1; exact kk h' q2) (fun X h' q => by obtain ⟨q1, -⟩ := q; cases q1)
end ZP
end
section
/-! Rewriter.appendLifted -/
def k_rw (q rc a b : Nat) : va_E := .inr (4, [.ref (q + 1), .int (nI rc), .ref a, .ref b, .ref (q + 6), .ref (q + 7), .ref (q + 9)])
/-- a row beside the Rewriter q: its own two, or one that was made later -/
def k_rr (q r : Nat) : Prop := r = q + 2 ∨ r = q + 4 ∨ q + 10 < r
/-- two rows apart -/
def k_ne (s r : Nat) : Prop := s ≠ r ∧ s ≠ r + 1 ∧ s + 1 ≠ r
theorem wr_norm (G : z_G) (h : z_H) {w r n n' m m' : Nat} {f f' g g' : Nat → Int32} (h1 : w ≠ r) (h2 : w ≠ r + 1) (h3 : w + 1 ≠ r) : rset G (wset G (rset G (wset G h w n g) r m f) w n' g') r m' f' = rset G (wset G h w n' g') r m' f' := by
  rw [← wr_comm G (wset G h w n g) h1 h2 h3, wset_wset, rset_rset]
section LF
variable {G : z_G} {d q rc na nb s r : Nat} {fs : Nat → Int32} {ls : List Nat}
/-- the step of the loop, up to the loop's head -/
theorem l_lift_step (HG : z_ok G) {k v dd i m : Nat} {S : List Nat} {f g : Nat → Int32} {h : z_H} {Q : z_R → z_H → Prop} (hk : k < 1000) (hv : v < 1000) (hdd : dd < 1000) (hi : i < 41)
    (hq : h.2.2 q = some (k_rw q rc na nb)) (hw : wkAt G h (q + 9) (dd :: S).length g) (hg : wk g (dd :: S)) (hS : S.length + 1 < 41) (hs : rowAt G h s ls.length fs) (hr : rowAt G h r m f) (hls : rl fs ls) (hil : i < ls.length) (hvi : ls.getD i 0 = v)
    (rr : k_rr q r) (rs : k_rr q s)
    (kk : ∀ h1, h1 = wset G h (q + 9) (p_aw v dd S).length (wk_up g v dd S.length) → rowAt G h1 r m f →
      z_V G m_Rw_appendLifted (d + 1) 69 [(0, .ref q), (1, .ref s), (3, .int (nI k)), (4, .ref r), (5, .int (nI i))] [.int (nI (if 100 + dd ≤ v then v + k else v)), .ref r] h1 Q) :
    z_V G m_Rw_appendLifted (d + 1) 10 [(0, .ref q), (1, .ref s), (3, .int (nI k)), (4, .ref r), (5, .int (nI i))] [] h Q := by
  have hl40 := hls.len
  unfold k_rr at rr rs
  refine z_iload d_Rw_appendLifted_10 rfl ?_
  refine z_aload_n d_Rw_appendLifted_12 rfl rfl ?_
  refine z_getf (L_Rw_66K HG) (by decide) (L_Rw_66 HG) d_Rw_appendLifted_13 hs.1 (by rfl) ?_
  refine z_icmp_ge (tgt := 78) d_Rw_appendLifted_16 rfl (fun c1 => ?_) (fun c1 => ?_)
  · rw [nI_leI (by omega) (by omega)] at c1
    omega
  · refine z_aload_n d_Rw_appendLifted_19 rfl rfl ?_
    refine z_getf (L_Rw_42K HG) (by decide) (L_Rw_42 HG) d_Rw_appendLifted_20 hq (by rfl) ?_
    refine z_callV0r (dY := d) d_Rw_appendLifted_23 rfl (by omega) (Y_Rw_104 HG) hw.1 (cl_Wk HG) (Nat.le_of_ble_eq_true rfl) (c_Wk_goesOn HG hw (by simp; omega)) ?_
    rw [if_neg (by simp)]
    refine z_if_eq (tgt := 78) d_Rw_appendLifted_26 rfl (fun c2 => ?_) (fun c2 => ?_)
    · exact absurd c2 (by decide)
    · refine z_aload_n d_Rw_appendLifted_29 rfl rfl ?_
      refine z_iload d_Rw_appendLifted_30 rfl ?_
      refine z_callV1r (dY := d) d_Rw_appendLifted_32 rfl (by omega) (Y_Rw_69 HG) hs.1 (cl_Row HG) (Nat.le_of_ble_eq_true rfl) (c_Row_at HG hs hl40 (nI i)) ?_
      rw [k_at_in fs hil hl40, hls.eq hil, hvi]
      refine z_istore d_Rw_appendLifted_35 (by decide) ?_
      refine z_aload_n d_Rw_appendLifted_37 rfl rfl ?_
      refine z_getf (L_Rw_42K HG) (by decide) (L_Rw_42 HG) d_Rw_appendLifted_38 hq (by rfl) ?_
      refine z_iload d_Rw_appendLifted_41 rfl ?_
      refine z_callV1r (dY := d) d_Rw_appendLifted_43 rfl (by omega) (Y_Rw_107 HG) hw.1 (cl_Wk HG) (Nat.le_of_ble_eq_true rfl) (c_Wk_depthOf HG hv hw hg hS) ?_
      refine z_istore d_Rw_appendLifted_46 (by decide) ?_
      refine z_aload d_Rw_appendLifted_48 rfl ?_
      refine z_iload d_Rw_appendLifted_50 rfl ?_
      refine z_bipush (v := nI 100) d_Rw_appendLifted_52 (by decide +kernel) ?_
      refine z_iload d_Rw_appendLifted_54 rfl ?_
      refine z_iadd d_Rw_appendLifted_56 ?_
      rw [nI_add]
      have kk' := kk _ rfl (wset_row _ _ hr (by omega) (by omega) (by omega))
      refine z_icmp_lt (tgt := 67) d_Rw_appendLifted_57 rfl (fun c3 => ?_) (fun c3 => ?_)
      · rw [nI_ltI (by omega) (by omega)] at c3
        rw [if_neg (by omega)] at kk'
        refine z_iload d_Rw_appendLifted_67 rfl ?_
        exact z_fg [(0, .ref q), (1, .ref s), (3, .int (nI k)), (4, .ref r), (5, .int (nI i))] ⟨rfl, rfl, rfl, rfl, rfl, trivial⟩ kk'
      · rw [nI_ltI (by omega) (by omega)] at c3
        rw [if_pos (by omega)] at kk'
        refine z_iload d_Rw_appendLifted_60 rfl ?_
        refine z_iload_n d_Rw_appendLifted_62 rfl rfl ?_
        refine z_iadd d_Rw_appendLifted_63 ?_
        rw [nI_add]
        refine z_goto (tgt := 69) d_Rw_appendLifted_64 rfl ?_
        exact z_fg [(0, .ref q), (1, .ref s), (3, .int (nI k)), (4, .ref r), (5, .int (nI i))] ⟨rfl, rfl, rfl, rfl, rfl, trivial⟩ kk'
/-- the loop's end -/
theorem l_lift_end (HG : z_ok G) {k i n : Nat} {g : Nat → Int32} {h : z_H} {Q : z_R → z_H → Prop} (hi : i < 41) (hn : n ≤ 41)
    (hq : h.2.2 q = some (k_rw q rc na nb)) (hw : wkAt G h (q + 9) n g) (hs : rowAt G h s ls.length fs) (hls : rl fs ls) (he : ls.length ≤ i ∨ n = 0) (hQ : Q (.inl none) h) :
    z_V G m_Rw_appendLifted (d + 1) 10 [(0, .ref q), (1, .ref s), (3, .int (nI k)), (4, .ref r), (5, .int (nI i))] [] h Q := by
  have hl40 := hls.len
  refine z_iload d_Rw_appendLifted_10 rfl ?_
  refine z_aload_n d_Rw_appendLifted_12 rfl rfl ?_
  refine z_getf (L_Rw_66K HG) (by decide) (L_Rw_66 HG) d_Rw_appendLifted_13 hs.1 (by rfl) ?_
  refine z_icmp_ge (tgt := 78) d_Rw_appendLifted_16 rfl (fun c1 => ?_) (fun c1 => ?_)
  · exact z_return d_Rw_appendLifted_78 rfl hQ
  · rw [nI_leI (by omega) (by omega)] at c1
    refine z_aload_n d_Rw_appendLifted_19 rfl rfl ?_
    refine z_getf (L_Rw_42K HG) (by decide) (L_Rw_42 HG) d_Rw_appendLifted_20 hq (by rfl) ?_
    refine z_callV0r (dY := d) d_Rw_appendLifted_23 rfl (by omega) (Y_Rw_104 HG) hw.1 (cl_Wk HG) (Nat.le_of_ble_eq_true rfl) (c_Wk_goesOn HG hw hn) ?_
    rw [if_pos (by omega)]
    refine z_if_eq (tgt := 78) d_Rw_appendLifted_26 rfl (fun c2 => ?_) (fun c2 => ?_)
    · exact z_return d_Rw_appendLifted_78 rfl hQ
    · exact absurd (by rw [nI_0]) c2
theorem p_aw_bound {v d x : Nat} {S : List Nat} (hd : d ≤ x) (hS : ∀ e ∈ S, e ≤ x) : ∀ e ∈ p_aw v d S, e ≤ x + 1 := by
  intro e he
  unfold p_aw at he
  split at he
  · rcases List.mem_cons.mp he with rfl | he
    · omega
    · rcases List.mem_cons.mp he with rfl | he
      · split <;> omega
      · have := hS e he; omega
  · have := hS e he; omega
theorem l_lift (HG : z_ok G) {k : Nat} (hk : k < 1000) (hls : rl fs ls) (rr : k_rr q r) (rs : k_rr q s) (e : k_ne s r) : ∀ (c i m : Nat) (S : List Nat) (f g : Nat → Int32) (h : z_H), i + c = ls.length → S.length + c ≤ 41 → (∀ x ∈ S, x ≤ i) →
    h.2.2 q = some (k_rw q rc na nb) → wkAt G h (q + 9) S.length g → wk g S → rowAt G h s ls.length fs → rowAt G h r m f → m + (p_lift k S (ls.drop i)).length ≤ 40 →
    z_V G m_Rw_appendLifted (d + 1) 10 [(0, .ref q), (1, .ref s), (3, .int (nI k)), (4, .ref r), (5, .int (nI i))] [] h (z_pq none (fun h' => ∃ n' g', n' ≤ 41 ∧ h' = rset G (wset G h (q + 9) n' g') r (m + (p_lift k S (ls.drop i)).length) (k_app f m (p_lift k S (ls.drop i))))) := by
  have hl40 := hls.len
  have rr' := rr
  have rs' := rs
  unfold k_rr at rr' rs'
  obtain ⟨e1, e2, e3⟩ := e
  intro c
  induction c with
  | zero =>
    intro i m S f g h hi hS hx hq hw hg hs hr hm
    refine l_lift_end HG (by omega) (by omega) hq hw hs hls (Or.inl (by omega)) ⟨rfl, S.length, g, by omega, ?_⟩
    rw [List.drop_eq_nil_of_le (by omega), p_lift_nil, wset_self hw, k_app_nil]
    exact (rset_self hr).symm
  | succ c ih =>
    intro i m S f g h hi hS hx hq hw hg hs hr hm
    cases S with
    | nil =>
      refine l_lift_end HG (by omega) (by simp) hq hw hs hls (Or.inr rfl) ⟨rfl, 0, g, by omega, ?_⟩
      have hw' : wkAt G h (q + 9) 0 g := hw
      rw [p_lift_stop, wset_self hw', k_app_nil]
      exact (rset_self hr).symm
    | cons dd S =>
      have hdd : dd ≤ i := hx dd List.mem_cons_self
      have hSx : ∀ y ∈ S, y ≤ i := fun y hy => hx y (List.mem_cons_of_mem _ hy)
      have hlen : (dd :: S).length = S.length + 1 := rfl
      have hv := hls.lt (i := i) (by omega)
      rw [l_dc (l := ls) (i := i) (by omega)] at hm ⊢
      have ep : p_lift k (dd :: S) (ls.getD i 0 :: ls.drop (i + 1)) = (if 100 + dd ≤ ls.getD i 0 then ls.getD i 0 + k else ls.getD i 0) :: p_lift k (p_aw (ls.getD i 0) dd S) (ls.drop (i + 1)) := rfl
      rw [ep] at hm ⊢
      refine l_lift_step HG hk hv (by omega) (by omega) hq hw hg (by omega) hs hr hls (by omega) rfl rr rs (fun h1 hh1 hr1 => ?_)
      generalize (if 100 + dd ≤ ls.getD i 0 then ls.getD i 0 + k else ls.getD i 0) = x at hm ⊢
      have hm' : m + ((p_lift k (p_aw (ls.getD i 0) dd S) (ls.drop (i + 1))).length + 1) ≤ 40 := hm
      refine z_callV1v (dY := d) d_Rw_appendLifted_69 rfl (by omega) (Y_Rw_114 HG) hr1.1 (cl_Row HG) (Nat.le_of_ble_eq_true rfl) (c_Row_append HG hr1 (by omega) _) ?_
      refine z_iinc (v := nI (i + 1)) d_Rw_appendLifted_72 rfl (i_inc i) (by decide) ?_
      refine z_goto (tgt := 10) d_Rw_appendLifted_75 rfl ?_
      refine z_fg [(0, .ref q), (1, .ref s), (3, .int (nI k)), (4, .ref r), (5, .int (nI (i + 1)))] ⟨rfl, rfl, rfl, rfl, rfl, trivial⟩ ?_
      subst hh1
      have hal : (p_aw (ls.getD i 0) dd S).length + c ≤ 41 := by
        rw [p_aw_len]
        split <;> omega
      refine (ih (i + 1) (m + 1) (p_aw (ls.getD i 0) dd S) (upd f m (nI x)) (wk_up g (ls.getD i 0) dd S.length) _ (by omega) hal (p_aw_bound hdd hSx)
        ((rset_ne G _ _ _ (by omega) (by omega)).trans ((wset_ne G h _ _ (by omega) (by omega)).trans hq)) (rset_wk _ _ (wset_at ..) (by omega) (by omega) (by omega)) (wk_up_ok _ _ hg.2)
        (rset_row _ _ (wset_row _ _ hs (by omega) (by omega) (by omega)) e1 e2 e3) (rset_at ..) (by omega)).mono (fun q' h' hq' => ?_)
      obtain ⟨hq1, n', g', hn', hh'⟩ := hq'
      refine ⟨hq1, n', g', hn', ?_⟩
      rw [hh', wr_norm G h (by omega) (by omega) (by omega), k_app_cons, List.length_cons, show m + 1 + (p_lift k (p_aw (ls.getD i 0) dd S) (ls.drop (i + 1))).length = m + ((p_lift k (p_aw (ls.getD i 0) dd S) (ls.drop (i + 1))).length + 1) by omega]
theorem c_Rw_appendLifted (HG : z_ok G) {k a n nw : Nat} {f g : Nat → Int32} {h : z_H} (hk : k < 1000) (hls : rl fs ls) (rr : k_rr q r) (rs : k_rr q s) (e : k_ne s r) (ha : a ≤ ls.length)
    (hq : h.2.2 q = some (k_rw q rc na nb)) (hw : wkAt G h (q + 9) nw g) (hs : rowAt G h s ls.length fs) (hr : rowAt G h r n f) (hm : n + (p_lift k [0] (ls.drop a)).length ≤ 40) :
    z_C G m_Rw_appendLifted (d + 1) [.ref q, .ref s, .int (nI a), .int (nI k), .ref r] h (z_pq none (fun h' => ∃ n' g', n' ≤ 41 ∧ h' = rset G (wset G h (q + 9) n' g') r (n + (p_lift k [0] (ls.drop a)).length) (k_app f n (p_lift k [0] (ls.drop a))))) := by
  have hl40 := hls.len
  have rr' := rr
  have rs' := rs
  unfold k_rr at rr' rs'
  refine z_C.of (Nat.le_of_ble_eq_true rfl) ?_
  refine z_aload_n d_Rw_appendLifted_0 rfl rfl ?_
  refine z_getf (L_Rw_42K HG) (by decide) (L_Rw_42 HG) d_Rw_appendLifted_1 hq (by rfl) ?_
  refine z_callV0v (dY := d) d_Rw_appendLifted_4 rfl (by omega) (Y_Rw_101 HG) hw.1 (cl_Wk HG) (Nat.le_of_ble_eq_true rfl) (c_Wk_begin HG hw) ?_
  refine z_iload_n d_Rw_appendLifted_7 rfl rfl ?_
  refine z_istore d_Rw_appendLifted_8 (by decide) ?_
  refine z_fg [(0, .ref q), (1, .ref s), (3, .int (nI k)), (4, .ref r), (5, .int (nI a))] ⟨rfl, rfl, rfl, rfl, rfl, trivial⟩ ?_
  refine (l_lift HG hk hls rr rs e (ls.length - a) a n [0] f (upd g 0 (nI 0)) _ (by omega) (by simp; omega) (by simp) ((wset_ne G h _ _ (by omega) (by omega)).trans hq) (wset_at ..) ⟨pk_us, trivial⟩ (wset_row _ _ hs (by omega) (by omega) (by omega)) (wset_row _ _ hr (by omega) (by omega) (by omega)) hm).mono (fun q' h' hq' => ?_)
  obtain ⟨hq1, n', g', hn', hh'⟩ := hq'
  exact ⟨hq1, n', g', hn', by rw [hh', wset_wset]⟩
/-- the same, where the row becomes too long -/
theorem l_liftX (HG : z_ok G) {k : Nat} (hk : k < 1000) (hls : rl fs ls) (rr : k_rr q r) (rs : k_rr q s) (e : k_ne s r) : ∀ (c i m : Nat) (S : List Nat) (f g : Nat → Int32) (h : z_H), z_rm G h → i + c = ls.length → S.length + c ≤ 41 → (∀ x ∈ S, x ≤ i) →
    h.2.2 q = some (k_rw q rc na nb) → wkAt G h (q + 9) S.length g → wk g S → rowAt G h s ls.length fs → rowAt G h r m f → m ≤ 40 → 40 < m + (p_lift k S (ls.drop i)).length →
    z_V G m_Rw_appendLifted (d + 1) 10 [(0, .ref q), (1, .ref s), (3, .int (nI k)), (4, .ref r), (5, .int (nI i))] [] h (z_xq "java/lang/ArithmeticException" (fun h' => ∃ n' g' f', n' ≤ 41 ∧ h' = z_exc (rset G (wset G h (q + 9) n' g') r 40 f'))) := by
  have hl40 := hls.len
  have rr' := rr
  have rs' := rs
  unfold k_rr at rr' rs'
  obtain ⟨e1, e2, e3⟩ := e
  intro c
  induction c with
  | zero =>
    intro i m S f g h hrm hi hS hx hq hw hg hs hr hm hm2
    rw [List.drop_eq_nil_of_le (by omega), p_lift_nil, List.length_nil] at hm2
    omega
  | succ c ih =>
    intro i m S f g h hrm hi hS hx hq hw hg hs hr hm hm2
    cases S with
    | nil =>
      rw [p_lift_stop, List.length_nil] at hm2
      omega
    | cons dd S =>
      have hdd : dd ≤ i := hx dd List.mem_cons_self
      have hSx : ∀ y ∈ S, y ≤ i := fun y hy => hx y (List.mem_cons_of_mem _ hy)
      have hlen : (dd :: S).length = S.length + 1 := rfl
      have hv := hls.lt (i := i) (by omega)
      rw [l_dc (l := ls) (i := i) (by omega)] at hm2
      have ep : p_lift k (dd :: S) (ls.getD i 0 :: ls.drop (i + 1)) = (if 100 + dd ≤ ls.getD i 0 then ls.getD i 0 + k else ls.getD i 0) :: p_lift k (p_aw (ls.getD i 0) dd S) (ls.drop (i + 1)) := rfl
      rw [ep, List.length_cons] at hm2
      refine l_lift_step HG hk hv (by omega) (by omega) hq hw hg (by omega) hs hr hls (by omega) rfl rr rs (fun h1 hh1 hr1 => ?_)
      generalize (if 100 + dd ≤ ls.getD i 0 then ls.getD i 0 + k else ls.getD i 0) = x
      have hal : (p_aw (ls.getD i 0) dd S).length + c ≤ 41 := by
        rw [p_aw_len]
        split <;> omega
      by_cases hm3 : m = 40
      · subst hm3
        have hrm1 : z_rm G h1 := by rw [hh1]; exact hrm
        refine z_callV1x (dY := d) d_Rw_appendLifted_69 rfl (by omega) (Y_Rw_114 HG) hr1.1 (cl_Row HG) (Nat.le_of_ble_eq_true rfl) (c_Row_appendX HG hr1 hrm1 _) (fun h' hh => ⟨rfl, (p_aw (ls.getD i 0) dd S).length, wk_up g (ls.getD i 0) dd S.length, f, by omega, ?_⟩)
        rw [hh, ← hh1, rset_self hr1]
      · refine z_callV1v (dY := d) d_Rw_appendLifted_69 rfl (by omega) (Y_Rw_114 HG) hr1.1 (cl_Row HG) (Nat.le_of_ble_eq_true rfl) (c_Row_append HG hr1 (by omega) _) ?_
        refine z_iinc (v := nI (i + 1)) d_Rw_appendLifted_72 rfl (i_inc i) (by decide) ?_
        refine z_goto (tgt := 10) d_Rw_appendLifted_75 rfl ?_
        refine z_fg [(0, .ref q), (1, .ref s), (3, .int (nI k)), (4, .ref r), (5, .int (nI (i + 1)))] ⟨rfl, rfl, rfl, rfl, rfl, trivial⟩ ?_
        subst hh1
        refine (ih (i + 1) (m + 1) (p_aw (ls.getD i 0) dd S) (upd f m (nI x)) (wk_up g (ls.getD i 0) dd S.length) (rset G (wset G h (q + 9) (p_aw (ls.getD i 0) dd S).length (wk_up g (ls.getD i 0) dd S.length)) r (m + 1) (upd f m (nI x))) hrm (by omega) hal (p_aw_bound hdd hSx)
          ((rset_ne G _ _ _ (by omega) (by omega)).trans ((wset_ne G h _ _ (by omega) (by omega)).trans hq)) (rset_wk _ _ (wset_at ..) (by omega) (by omega) (by omega)) (wk_up_ok _ _ hg.2)
          (rset_row _ _ (wset_row _ _ hs (by omega) (by omega) (by omega)) e1 e2 e3) (rset_at ..) (by omega) (by omega)).mono (fun q' h' hq' => ?_)
        obtain ⟨hq1, n', g', f', hn', hh'⟩ := hq'
        refine ⟨hq1, n', g', f', hn', ?_⟩
        rw [hh', wr_norm G h (by omega) (by omega) (by omega)]
theorem c_Rw_appendLiftedX (HG : z_ok G) {k a n nw : Nat} {f g : Nat → Int32} {h : z_H} (hrm : z_rm G h) (hk : k < 1000) (hls : rl fs ls) (rr : k_rr q r) (rs : k_rr q s) (e : k_ne s r) (ha : a ≤ ls.length)
    (hq : h.2.2 q = some (k_rw q rc na nb)) (hw : wkAt G h (q + 9) nw g) (hs : rowAt G h s ls.length fs) (hr : rowAt G h r n f) (hn : n ≤ 40) (hm : 40 < n + (p_lift k [0] (ls.drop a)).length) :
    z_C G m_Rw_appendLifted (d + 1) [.ref q, .ref s, .int (nI a), .int (nI k), .ref r] h (z_xq "java/lang/ArithmeticException" (fun h' => ∃ n' g' f', n' ≤ 41 ∧ h' = z_exc (rset G (wset G h (q + 9) n' g') r 40 f'))) := by
  have hl40 := hls.len
  have rr' := rr
  have rs' := rs
  unfold k_rr at rr' rs'
  refine z_C.of (Nat.le_of_ble_eq_true rfl) ?_
  refine z_aload_n d_Rw_appendLifted_0 rfl rfl ?_
  refine z_getf (L_Rw_42K HG) (by decide) (L_Rw_42 HG) d_Rw_appendLifted_1 hq (by rfl) ?_
  refine z_callV0v (dY := d) d_Rw_appendLifted_4 rfl (by omega) (Y_Rw_101 HG) hw.1 (cl_Wk HG) (Nat.le_of_ble_eq_true rfl) (c_Wk_begin HG hw) ?_
  refine z_iload_n d_Rw_appendLifted_7 rfl rfl ?_
  refine z_istore d_Rw_appendLifted_8 (by decide) ?_
  refine z_fg [(0, .ref q), (1, .ref s), (3, .int (nI k)), (4, .ref r), (5, .int (nI a))] ⟨rfl, rfl, rfl, rfl, rfl, trivial⟩ ?_
  refine (l_liftX HG hk hls rr rs e (ls.length - a) a n [0] f (upd g 0 (nI 0)) (wset G h (q + 9) 1 (upd g 0 (nI 0))) hrm (by omega) (by simp; omega) (by simp) ((wset_ne G h _ _ (by omega) (by omega)).trans hq) (wset_at ..) ⟨pk_us, trivial⟩ (wset_row _ _ hs (by omega) (by omega) (by omega)) (wset_row _ _ hr (by omega) (by omega) (by omega)) hn hm).mono (fun q' h' hq' => ?_)
  obtain ⟨hq1, n', g', f', hn', hh'⟩ := hq'
  exact ⟨hq1, n', g', f', hn', by rw [hh', wset_wset]⟩
end LF
end
section
/-! both ends of a call that may find a row too long; frames -/
def z_AE : String := "java/lang/ArithmeticException"
def z_eq2 (c : Prop) (v : Option Value) (P X : z_H → Prop) : z_R → z_H → Prop := fun r h' => (c ∧ r = .inl v ∧ P h') ∨ (¬ c ∧ r = .inr z_AE ∧ X h')
theorem z_eq2.ok {c : Prop} {v : Option Value} {P X : z_H → Prop} (hc : c) {h : z_H} (hP : P h) : z_eq2 c v P X (.inl v) h := Or.inl ⟨hc, rfl, hP⟩
theorem z_eq2.no {c : Prop} {v : Option Value} {P X : z_H → Prop} (hc : ¬ c) {h : z_H} (hX : X h) : z_eq2 c v P X (.inr z_AE) h := Or.inr ⟨hc, rfl, hX⟩
theorem z_C.eq2 {G : z_G} {mt : z_M} {d : Nat} {as : List Value} {h : z_H} {c : Prop} {v : Option Value} {P X : z_H → Prop} (k1 : c → z_C G mt d as h (z_pq v P)) (k2 : ¬ c → z_C G mt d as h (z_xq z_AE X)) : z_C G mt d as h (z_eq2 c v P X) := by
  by_cases hc : c
  · exact (k1 hc).mono (fun r h' q => Or.inl ⟨hc, q⟩)
  · exact (k2 hc).mono (fun r h' q => Or.inr ⟨hc, q⟩)
theorem z_C.pq {G : z_G} {mt : z_M} {d : Nat} {as : List Value} {h h1 : z_H} {v : Option Value} (k : z_C G mt d as h (z_rq v h1)) : z_C G mt d as h (z_pq v (fun h' => h' = h1)) := k
section ZE
variable {G : z_G} {mt mtY : z_M} {d dY pc : Nat} {lo : List (Nat × Value)} {st : List Value} {h : z_H} {Q QY : z_R → z_H → Prop} {as : List Value}
theorem z_callV0e {b ci N idx : Nat} {T : u_T} {fs : List Value} (hd : decode mt.2.1 pc = .ok (.invokevirtual idx, 3)) (hh : mt.2.2.2.2 = []) (hdp : dY + 1 ≤ d) (Y : z_Yv G mt.1.cls idx mtY 0) (hb : h.2.2 b = some (.inr (ci, fs))) (hcl : G.cl[ci]? = some (mtY.1.cls, T, N)) (hst : (st.map fun v => v.category).sum ≤ 8) {c : Prop} {P X : z_H → Prop} (hM : z_C G mtY dY [.ref b] h (z_eq2 c none P X)) (kk : c → ∀ h', P h' → z_V G mt d (pc + 3) lo st h' Q) (kx : ¬ c → ∀ h', X h' → Q (.inr z_AE) h') : z_V G mt d pc lo (.ref b :: st) h Q :=
  z_callV (as := []) hd hh hdp Y rfl hb hcl hst hM (fun v h' q => by
    rcases q with ⟨q1, q2, q3⟩ | ⟨-, q2, -⟩
    · cases q2
      exact kk q1 h' q3
    · cases q2) (fun X h' q => by
    rcases q with ⟨-, q2, -⟩ | ⟨q1, q2, q3⟩
    · cases q2
    · cases q2
      exact kx q1 h' q3)
theorem z_callV0f {b ci N idx : Nat} {T : u_T} {fs : List Value} (hd : decode mt.2.1 pc = .ok (.invokevirtual idx, 3)) (hh : mt.2.2.2.2 = []) (hdp : dY + 1 ≤ d) (Y : z_Yv G mt.1.cls idx mtY 0) (hb : h.2.2 b = some (.inr (ci, fs))) (hcl : G.cl[ci]? = some (mtY.1.cls, T, N)) (hst : (st.map fun v => v.category).sum ≤ 8) {c : Prop} {x : Value} {P X : z_H → Prop} (hM : z_C G mtY dY [.ref b] h (z_eq2 c (some x) P X)) (kk : c → ∀ h', P h' → z_V G mt d (pc + 3) lo (x :: st) h' Q) (kx : ¬ c → ∀ h', X h' → Q (.inr z_AE) h') : z_V G mt d pc lo (.ref b :: st) h Q :=
  z_callV (as := []) hd hh hdp Y rfl hb hcl hst hM (fun v h' q => by
    rcases q with ⟨q1, q2, q3⟩ | ⟨-, q2, -⟩
    · cases q2
      exact kk q1 h' q3
    · cases q2) (fun X h' q => by
    rcases q with ⟨-, q2, -⟩ | ⟨q1, q2, q3⟩
    · cases q2
    · cases q2
      exact kx q1 h' q3)
theorem z_callV1e {x1 : Value} {b ci N idx : Nat} {T : u_T} {fs : List Value} (hd : decode mt.2.1 pc = .ok (.invokevirtual idx, 3)) (hh : mt.2.2.2.2 = []) (hdp : dY + 1 ≤ d) (Y : z_Yv G mt.1.cls idx mtY 1) (hb : h.2.2 b = some (.inr (ci, fs))) (hcl : G.cl[ci]? = some (mtY.1.cls, T, N)) (hst : (st.map fun v => v.category).sum ≤ 8) {c : Prop} {P X : z_H → Prop} (hM : z_C G mtY dY [.ref b, x1] h (z_eq2 c none P X)) (kk : c → ∀ h', P h' → z_V G mt d (pc + 3) lo st h' Q) (kx : ¬ c → ∀ h', X h' → Q (.inr z_AE) h') : z_V G mt d pc lo (x1 :: .ref b :: st) h Q :=
  z_callV (as := [x1]) hd hh hdp Y rfl hb hcl hst hM (fun v h' q => by
    rcases q with ⟨q1, q2, q3⟩ | ⟨-, q2, -⟩
    · cases q2
      exact kk q1 h' q3
    · cases q2) (fun X h' q => by
    rcases q with ⟨-, q2, -⟩ | ⟨q1, q2, q3⟩
    · cases q2
    · cases q2
      exact kx q1 h' q3)
theorem z_callV1f {x1 : Value} {b ci N idx : Nat} {T : u_T} {fs : List Value} (hd : decode mt.2.1 pc = .ok (.invokevirtual idx, 3)) (hh : mt.2.2.2.2 = []) (hdp : dY + 1 ≤ d) (Y : z_Yv G mt.1.cls idx mtY 1) (hb : h.2.2 b = some (.inr (ci, fs))) (hcl : G.cl[ci]? = some (mtY.1.cls, T, N)) (hst : (st.map fun v => v.category).sum ≤ 8) {c : Prop} {x : Value} {P X : z_H → Prop} (hM : z_C G mtY dY [.ref b, x1] h (z_eq2 c (some x) P X)) (kk : c → ∀ h', P h' → z_V G mt d (pc + 3) lo (x :: st) h' Q) (kx : ¬ c → ∀ h', X h' → Q (.inr z_AE) h') : z_V G mt d pc lo (x1 :: .ref b :: st) h Q :=
  z_callV (as := [x1]) hd hh hdp Y rfl hb hcl hst hM (fun v h' q => by
    rcases q with ⟨q1, q2, q3⟩ | ⟨-, q2, -⟩
    · cases q2
      exact kk q1 h' q3
    · cases q2) (fun X h' q => by
    rcases q with ⟨-, q2, -⟩ | ⟨q1, q2, q3⟩
    · cases q2
    · cases q2
      exact kx q1 h' q3)
theorem z_callV2e {x1 x2 : Value} {b ci N idx : Nat} {T : u_T} {fs : List Value} (hd : decode mt.2.1 pc = .ok (.invokevirtual idx, 3)) (hh : mt.2.2.2.2 = []) (hdp : dY + 1 ≤ d) (Y : z_Yv G mt.1.cls idx mtY 2) (hb : h.2.2 b = some (.inr (ci, fs))) (hcl : G.cl[ci]? = some (mtY.1.cls, T, N)) (hst : (st.map fun v => v.category).sum ≤ 8) {c : Prop} {P X : z_H → Prop} (hM : z_C G mtY dY [.ref b, x1, x2] h (z_eq2 c none P X)) (kk : c → ∀ h', P h' → z_V G mt d (pc + 3) lo st h' Q) (kx : ¬ c → ∀ h', X h' → Q (.inr z_AE) h') : z_V G mt d pc lo (x2 :: x1 :: .ref b :: st) h Q :=
  z_callV (as := [x1, x2]) hd hh hdp Y rfl hb hcl hst hM (fun v h' q => by
    rcases q with ⟨q1, q2, q3⟩ | ⟨-, q2, -⟩
    · cases q2
      exact kk q1 h' q3
    · cases q2) (fun X h' q => by
    rcases q with ⟨-, q2, -⟩ | ⟨q1, q2, q3⟩
    · cases q2
    · cases q2
      exact kx q1 h' q3)
theorem z_callV2f {x1 x2 : Value} {b ci N idx : Nat} {T : u_T} {fs : List Value} (hd : decode mt.2.1 pc = .ok (.invokevirtual idx, 3)) (hh : mt.2.2.2.2 = []) (hdp : dY + 1 ≤ d) (Y : z_Yv G mt.1.cls idx mtY 2) (hb : h.2.2 b = some (.inr (ci, fs))) (hcl : G.cl[ci]? = some (mtY.1.cls, T, N)) (hst : (st.map fun v => v.category).sum ≤ 8) {c : Prop} {x : Value} {P X : z_H → Prop} (hM : z_C G mtY dY [.ref b, x1, x2] h (z_eq2 c (some x) P X)) (kk : c → ∀ h', P h' → z_V G mt d (pc + 3) lo (x :: st) h' Q) (kx : ¬ c → ∀ h', X h' → Q (.inr z_AE) h') : z_V G mt d pc lo (x2 :: x1 :: .ref b :: st) h Q :=
  z_callV (as := [x1, x2]) hd hh hdp Y rfl hb hcl hst hM (fun v h' q => by
    rcases q with ⟨q1, q2, q3⟩ | ⟨-, q2, -⟩
    · cases q2
      exact kk q1 h' q3
    · cases q2) (fun X h' q => by
    rcases q with ⟨-, q2, -⟩ | ⟨q1, q2, q3⟩
    · cases q2
    · cases q2
      exact kx q1 h' q3)
theorem z_callV3e {x1 x2 x3 : Value} {b ci N idx : Nat} {T : u_T} {fs : List Value} (hd : decode mt.2.1 pc = .ok (.invokevirtual idx, 3)) (hh : mt.2.2.2.2 = []) (hdp : dY + 1 ≤ d) (Y : z_Yv G mt.1.cls idx mtY 3) (hb : h.2.2 b = some (.inr (ci, fs))) (hcl : G.cl[ci]? = some (mtY.1.cls, T, N)) (hst : (st.map fun v => v.category).sum ≤ 8) {c : Prop} {P X : z_H → Prop} (hM : z_C G mtY dY [.ref b, x1, x2, x3] h (z_eq2 c none P X)) (kk : c → ∀ h', P h' → z_V G mt d (pc + 3) lo st h' Q) (kx : ¬ c → ∀ h', X h' → Q (.inr z_AE) h') : z_V G mt d pc lo (x3 :: x2 :: x1 :: .ref b :: st) h Q :=
  z_callV (as := [x1, x2, x3]) hd hh hdp Y rfl hb hcl hst hM (fun v h' q => by
    rcases q with ⟨q1, q2, q3⟩ | ⟨-, q2, -⟩
    · cases q2
      exact kk q1 h' q3
    · cases q2) (fun X h' q => by
    rcases q with ⟨-, q2, -⟩ | ⟨q1, q2, q3⟩
    · cases q2
    · cases q2
      exact kx q1 h' q3)
theorem z_callV3f {x1 x2 x3 : Value} {b ci N idx : Nat} {T : u_T} {fs : List Value} (hd : decode mt.2.1 pc = .ok (.invokevirtual idx, 3)) (hh : mt.2.2.2.2 = []) (hdp : dY + 1 ≤ d) (Y : z_Yv G mt.1.cls idx mtY 3) (hb : h.2.2 b = some (.inr (ci, fs))) (hcl : G.cl[ci]? = some (mtY.1.cls, T, N)) (hst : (st.map fun v => v.category).sum ≤ 8) {c : Prop} {x : Value} {P X : z_H → Prop} (hM : z_C G mtY dY [.ref b, x1, x2, x3] h (z_eq2 c (some x) P X)) (kk : c → ∀ h', P h' → z_V G mt d (pc + 3) lo (x :: st) h' Q) (kx : ¬ c → ∀ h', X h' → Q (.inr z_AE) h') : z_V G mt d pc lo (x3 :: x2 :: x1 :: .ref b :: st) h Q :=
  z_callV (as := [x1, x2, x3]) hd hh hdp Y rfl hb hcl hst hM (fun v h' q => by
    rcases q with ⟨q1, q2, q3⟩ | ⟨-, q2, -⟩
    · cases q2
      exact kk q1 h' q3
    · cases q2) (fun X h' q => by
    rcases q with ⟨-, q2, -⟩ | ⟨q1, q2, q3⟩
    · cases q2
    · cases q2
      exact kx q1 h' q3)
theorem z_callV4e {x1 x2 x3 x4 : Value} {b ci N idx : Nat} {T : u_T} {fs : List Value} (hd : decode mt.2.1 pc = .ok (.invokevirtual idx, 3)) (hh : mt.2.2.2.2 = []) (hdp : dY + 1 ≤ d) (Y : z_Yv G mt.1.cls idx mtY 4) (hb : h.2.2 b = some (.inr (ci, fs))) (hcl : G.cl[ci]? = some (mtY.1.cls, T, N)) (hst : (st.map fun v => v.category).sum ≤ 8) {c : Prop} {P X : z_H → Prop} (hM : z_C G mtY dY [.ref b, x1, x2, x3, x4] h (z_eq2 c none P X)) (kk : c → ∀ h', P h' → z_V G mt d (pc + 3) lo st h' Q) (kx : ¬ c → ∀ h', X h' → Q (.inr z_AE) h') : z_V G mt d pc lo (x4 :: x3 :: x2 :: x1 :: .ref b :: st) h Q :=
  z_callV (as := [x1, x2, x3, x4]) hd hh hdp Y rfl hb hcl hst hM (fun v h' q => by
    rcases q with ⟨q1, q2, q3⟩ | ⟨-, q2, -⟩
    · cases q2
      exact kk q1 h' q3
    · cases q2) (fun X h' q => by
    rcases q with ⟨-, q2, -⟩ | ⟨q1, q2, q3⟩
    · cases q2
    · cases q2
      exact kx q1 h' q3)
theorem z_callV4f {x1 x2 x3 x4 : Value} {b ci N idx : Nat} {T : u_T} {fs : List Value} (hd : decode mt.2.1 pc = .ok (.invokevirtual idx, 3)) (hh : mt.2.2.2.2 = []) (hdp : dY + 1 ≤ d) (Y : z_Yv G mt.1.cls idx mtY 4) (hb : h.2.2 b = some (.inr (ci, fs))) (hcl : G.cl[ci]? = some (mtY.1.cls, T, N)) (hst : (st.map fun v => v.category).sum ≤ 8) {c : Prop} {x : Value} {P X : z_H → Prop} (hM : z_C G mtY dY [.ref b, x1, x2, x3, x4] h (z_eq2 c (some x) P X)) (kk : c → ∀ h', P h' → z_V G mt d (pc + 3) lo (x :: st) h' Q) (kx : ¬ c → ∀ h', X h' → Q (.inr z_AE) h') : z_V G mt d pc lo (x4 :: x3 :: x2 :: x1 :: .ref b :: st) h Q :=
  z_callV (as := [x1, x2, x3, x4]) hd hh hdp Y rfl hb hcl hst hM (fun v h' q => by
    rcases q with ⟨q1, q2, q3⟩ | ⟨-, q2, -⟩
    · cases q2
      exact kk q1 h' q3
    · cases q2) (fun X h' q => by
    rcases q with ⟨-, q2, -⟩ | ⟨q1, q2, q3⟩
    · cases q2
    · cases q2
      exact kx q1 h' q3)
theorem z_callV5e {x1 x2 x3 x4 x5 : Value} {b ci N idx : Nat} {T : u_T} {fs : List Value} (hd : decode mt.2.1 pc = .ok (.invokevirtual idx, 3)) (hh : mt.2.2.2.2 = []) (hdp : dY + 1 ≤ d) (Y : z_Yv G mt.1.cls idx mtY 5) (hb : h.2.2 b = some (.inr (ci, fs))) (hcl : G.cl[ci]? = some (mtY.1.cls, T, N)) (hst : (st.map fun v => v.category).sum ≤ 8) {c : Prop} {P X : z_H → Prop} (hM : z_C G mtY dY [.ref b, x1, x2, x3, x4, x5] h (z_eq2 c none P X)) (kk : c → ∀ h', P h' → z_V G mt d (pc + 3) lo st h' Q) (kx : ¬ c → ∀ h', X h' → Q (.inr z_AE) h') : z_V G mt d pc lo (x5 :: x4 :: x3 :: x2 :: x1 :: .ref b :: st) h Q :=
  z_callV (as := [x1, x2, x3, x4, x5]) hd hh hdp Y rfl hb hcl hst hM (fun v h' q => by
    rcases q with ⟨q1, q2, q3⟩ | ⟨-, q2, -⟩
    · cases q2
      exact kk q1 h' q3
    · cases q2) (fun X h' q => by
    rcases q with ⟨-, q2, -⟩ | ⟨q1, q2, q3⟩
    · cases q2
    · cases q2
      exact kx q1 h' q3)
theorem z_callV5f {x1 x2 x3 x4 x5 : Value} {b ci N idx : Nat} {T : u_T} {fs : List Value} (hd : decode mt.2.1 pc = .ok (.invokevirtual idx, 3)) (hh : mt.2.2.2.2 = []) (hdp : dY + 1 ≤ d) (Y : z_Yv G mt.1.cls idx mtY 5) (hb : h.2.2 b = some (.inr (ci, fs))) (hcl : G.cl[ci]? = some (mtY.1.cls, T, N)) (hst : (st.map fun v => v.category).sum ≤ 8) {c : Prop} {x : Value} {P X : z_H → Prop} (hM : z_C G mtY dY [.ref b, x1, x2, x3, x4, x5] h (z_eq2 c (some x) P X)) (kk : c → ∀ h', P h' → z_V G mt d (pc + 3) lo (x :: st) h' Q) (kx : ¬ c → ∀ h', X h' → Q (.inr z_AE) h') : z_V G mt d pc lo (x5 :: x4 :: x3 :: x2 :: x1 :: .ref b :: st) h Q :=
  z_callV (as := [x1, x2, x3, x4, x5]) hd hh hdp Y rfl hb hcl hst hM (fun v h' q => by
    rcases q with ⟨q1, q2, q3⟩ | ⟨-, q2, -⟩
    · cases q2
      exact kk q1 h' q3
    · cases q2) (fun X h' q => by
    rcases q with ⟨-, q2, -⟩ | ⟨q1, q2, q3⟩
    · cases q2
    · cases q2
      exact kx q1 h' q3)
end ZE
/-- beside the row r and the Rewriter's two walks nothing has changed -/
def k_fr (q r : Nat) (h h' : z_H) : Prop := h'.1 = h.1 ∧ h'.2.1 = h.2.1 ∧ ∀ a : Nat, a < q + 7 ∨ q + 10 < a → a ≠ r → a ≠ r + 1 → h'.2.2 a = h.2.2 a
def k_sc (G : z_G) (q : Nat) (h : z_H) : Prop := (∃ n g, wkAt G h (q + 7) n g) ∧ ∃ n g, wkAt G h (q + 9) n g
def k_xc (G : z_G) (q r : Nat) (h h' : z_H) : Prop := ∃ h1, h' = z_exc h1 ∧ k_fr q r h h1 ∧ k_sc G q h1 ∧ ∃ f, rowAt G h1 r 40 f
theorem k_fr.rf {q r : Nat} {h : z_H} : k_fr q r h h := ⟨rfl, rfl, fun _ _ _ _ => rfl⟩
theorem k_fr.tr {q r : Nat} {h h1 h2 : z_H} (a : k_fr q r h h1) (b : k_fr q r h1 h2) : k_fr q r h h2 := ⟨b.1.trans a.1, b.2.1.trans a.2.1, fun x h1 h2 h3 => (b.2.2 x h1 h2 h3).trans (a.2.2 x h1 h2 h3)⟩
theorem k_fr.rm {G : z_G} {q r : Nat} {h h1 : z_H} (a : k_fr q r h h1) (H : z_rm G h) : z_rm G h1 := by
  unfold z_rm
  rw [a.1, a.2.1]
  exact H
theorem k_fr.rset {G : z_G} {q r n : Nat} {f : Nat → Int32} {h : z_H} : k_fr q r h (rset G h r n f) := ⟨rfl, rfl, fun a _ h2 h3 => rset_ne G h n f h2 h3⟩
theorem k_fr.wset {G : z_G} {q r w n : Nat} {g : Nat → Int32} {h : z_H} (hw : w = q + 7 ∨ w = q + 9) : k_fr q r h (wset G h w n g) := ⟨rfl, rfl, fun a h1 h2 h3 => wset_ne G h n g (by omega) (by omega)⟩
theorem k_fr.rw {q r rc a b : Nat} {h h1 : z_H} (k : k_fr q r h h1) (rr : k_rr q r) (H : h.2.2 q = some (k_rw q rc a b)) : h1.2.2 q = some (k_rw q rc a b) := by
  unfold k_rr at rr
  exact (k.2.2 q (by omega) (by omega) (by omega)).trans H
theorem k_fr.row {G : z_G} {q r s n : Nat} {f : Nat → Int32} {h h1 : z_H} (k : k_fr q r h h1) (rs : k_rr q s) (e : k_ne s r) (H : rowAt G h s n f) : rowAt G h1 s n f := by
  unfold k_rr at rs
  obtain ⟨e1, e2, e3⟩ := e
  exact ⟨(k.2.2 s (by omega) (by omega) (by omega)).trans H.1, (k.2.2 (s + 1) (by omega) (by omega) (by omega)).trans H.2⟩
theorem k_sc.rset {G : z_G} {q r n : Nat} {f : Nat → Int32} {h : z_H} (rr : k_rr q r) (H : k_sc G q h) : k_sc G q (rset G h r n f) := by
  unfold k_rr at rr
  obtain ⟨⟨n1, g1, h1⟩, n2, g2, h2⟩ := H
  exact ⟨⟨n1, g1, rset_wk _ _ h1 (by omega) (by omega) (by omega)⟩, n2, g2, rset_wk _ _ h2 (by omega) (by omega) (by omega)⟩
theorem wset_wk {G : z_G} {h : z_H} {w w' n n' : Nat} {g g' : Nat → Int32} (H : wkAt G h w' n' g') (h1 : w' ≠ w) (h2 : w' ≠ w + 1) (h3 : w' + 1 ≠ w) : wkAt G (wset G h w n g) w' n' g' :=
  ⟨(wset_ne G h n g h1 h2).trans H.1, (wset_ne G h n g h3 (by omega)).trans H.2⟩
theorem k_sc.w7 {G : z_G} {q n : Nat} {g : Nat → Int32} {h : z_H} (H : k_sc G q h) : k_sc G q (wset G h (q + 7) n g) := by
  obtain ⟨-, n2, g2, h2⟩ := H
  exact ⟨⟨n, g, wset_at ..⟩, n2, g2, wset_wk h2 (by omega) (by omega) (by omega)⟩
theorem k_sc.w9 {G : z_G} {q n : Nat} {g : Nat → Int32} {h : z_H} (H : k_sc G q h) : k_sc G q (wset G h (q + 9) n g) := by
  obtain ⟨⟨n1, g1, h1⟩, -⟩ := H
  exact ⟨⟨n1, g1, wset_wk h1 (by omega) (by omega) (by omega)⟩, n, g, wset_at ..⟩
theorem k_xc.tr {G : z_G} {q r : Nat} {h h1 h2 : z_H} (a : k_fr q r h h1) (b : k_xc G q r h1 h2) : k_xc G q r h h2 := by
  obtain ⟨h3, e, b1, b2⟩ := b
  exact ⟨h3, e, a.tr b1, b2⟩
section ZF
variable {G : z_G} {h : z_H} {d q rc na nb s r n : Nat} {f fs : Nat → Int32} {ls : List Nat}
theorem c2_append (HG : z_ok G) (hrm : z_rm G h) (hr : rowAt G h r n f) (hn : n ≤ 40) (v : Int32) : z_C G m_Row_append d [.ref r, .int v] h (z_eq2 (n + 1 ≤ 40) none (fun h' => h' = rset G h r (n + 1) (upd f n v)) (fun h' => h' = z_exc h ∧ n = 40)) :=
  z_C.eq2 (fun hc => (c_Row_append HG hr (by omega) v).pq) (fun hc => by
    have h40 : n = 40 := by omega
    subst h40
    exact (c_Row_appendX HG hr hrm v).mono (fun r h' q => ⟨q.1, q.2, rfl⟩))
theorem c2_appendPart (HG : z_ok G) {a b : Nat} (hrm : z_rm G h) (hr : rowAt G h r n f) (hn : n ≤ 40) (hs : rowAt G h s ls.length fs) (hls : rl fs ls) (ha : a ≤ b) (hb : b ≤ ls.length) (e : k_ne s r) :
    z_C G m_Row_appendPart (d + 1) [.ref r, .ref s, .int (nI a), .int (nI b)] h (z_eq2 (n + (b - a) ≤ 40) none (fun h' => h' = rset G h r (n + (b - a)) (k_app f n ((ls.drop a).take (b - a)))) (fun h' => ∃ f', h' = z_exc (rset G h r 40 f'))) :=
  z_C.eq2 (fun hc => (c_Row_appendPart HG hr hs hls ha hb e.1 e.2.1 e.2.2 hc).pq) (fun hc => c_Row_appendPartX HG hrm hr hs hls ha hb e.1 e.2.1 e.2.2 hn (by omega))
theorem c2_lift (HG : z_ok G) {k a : Nat} (hrm : z_rm G h) (hk : k < 1000) (hls : rl fs ls) (rr : k_rr q r) (rs : k_rr q s) (e : k_ne s r) (ha : a ≤ ls.length)
    (hq : h.2.2 q = some (k_rw q rc na nb)) (hsc : k_sc G q h) (hs : rowAt G h s ls.length fs) (hr : rowAt G h r n f) (hn : n ≤ 40) :
    z_C G m_Rw_appendLifted (d + 1) [.ref q, .ref s, .int (nI a), .int (nI k), .ref r] h (z_eq2 (n + (p_lift k [0] (ls.drop a)).length ≤ 40) none (fun h' => (∃ n' g', h' = rset G (wset G h (q + 9) n' g') r (n + (p_lift k [0] (ls.drop a)).length) (k_app f n (p_lift k [0] (ls.drop a))))) (k_xc G q r h)) := by
  obtain ⟨n9, g9, hw⟩ := hsc.2
  refine z_C.eq2 (fun hc => (c_Rw_appendLifted HG hk hls rr rs e ha hq hw hs hr hc).mono (fun r' h' q' => ?_)) (fun hc => (c_Rw_appendLiftedX HG hrm hk hls rr rs e ha hq hw hs hr hn (by omega)).mono (fun r' h' q' => ?_))
  · obtain ⟨q1, n', g', -, q2⟩ := q'
    exact ⟨q1, n', g', q2⟩
  · obtain ⟨q1, n', g', f', -, q2⟩ := q'
    exact ⟨q1, _, q2, (k_fr.wset (Or.inr rfl)).tr k_fr.rset, (hsc.w9).rset rr, f', rset_at ..⟩
end ZF
end
section
/-! Rewriter.appendBodyWith -/
section BW
variable {G : z_G} {d q rc na nb s t r : Nat} {fs ft : Nat → Int32} {ls lb : List Nat}
abbrev bw_lo (q s a t r i : Nat) : List (Nat × Value) := [(0, .ref q), (1, .ref s), (2, .int (nI a)), (3, .ref t), (5, .ref r), (6, .int (nI i))]
theorem l_put_end (HG : z_ok G) {a i n : Nat} {g : Nat → Int32} {h : z_H} {Q : z_R → z_H → Prop} (hi : i < 41) (hn : n ≤ 41)
    (hq : h.2.2 q = some (k_rw q rc na nb)) (hw : wkAt G h (q + 7) n g) (ht : rowAt G h t lb.length ft) (hlb : rl ft lb) (he : lb.length ≤ i ∨ n = 0) (hQ : Q (.inl none) h) :
    z_V G m_Rw_appendBodyWith (d + 2) 11 (bw_lo q s a t r i) [] h Q := by
  have hl40 := hlb.len
  refine z_iload d_Rw_appendBodyWith_11 rfl ?_
  refine z_aload_n d_Rw_appendBodyWith_13 rfl rfl ?_
  refine z_getf (L_Rw_66K HG) (by decide) (L_Rw_66 HG) d_Rw_appendBodyWith_14 ht.1 (by rfl) ?_
  refine z_icmp_ge (tgt := 102) d_Rw_appendBodyWith_17 rfl (fun c1 => ?_) (fun c1 => ?_)
  · exact z_return d_Rw_appendBodyWith_102 rfl hQ
  · rw [nI_leI (by omega) (by omega)] at c1
    refine z_aload_n d_Rw_appendBodyWith_20 rfl rfl ?_
    refine z_getf (L_Rw_38K HG) (by decide) (L_Rw_38 HG) d_Rw_appendBodyWith_21 hq (by rfl) ?_
    refine z_callV0r (dY := d) d_Rw_appendBodyWith_24 rfl (by omega) (Y_Rw_104 HG) hw.1 (cl_Wk HG) (Nat.le_of_ble_eq_true rfl) (c_Wk_goesOn HG hw hn) ?_
    rw [if_pos (by omega)]
    refine z_if_eq (tgt := 102) d_Rw_appendBodyWith_27 rfl (fun c2 => ?_) (fun c2 => ?_)
    · exact z_return d_Rw_appendBodyWith_102 rfl hQ
    · exact absurd (by rw [nI_0]) c2
theorem l_put (HG : z_ok G) {a : Nat} (hls : rl fs ls) (hlb : rl ft lb) (rr : k_rr q r) (rs : k_rr q s) (rt : k_rr q t) (es : k_ne s r) (et : k_ne t r) (ha : a ≤ ls.length) : ∀ (c i m : Nat) (S : List Nat) (f g : Nat → Int32) (h : z_H), z_rm G h → i + c = lb.length → S.length + c ≤ 41 → (∀ x ∈ S, x ≤ i) →
    h.2.2 q = some (k_rw q rc na nb) → wkAt G h (q + 7) S.length g → wk g S → (∃ n9 g9, wkAt G h (q + 9) n9 g9) → rowAt G h s ls.length fs → rowAt G h t lb.length ft → rowAt G h r m f → m ≤ 40 →
    z_V G m_Rw_appendBodyWith (d + 2) 11 (bw_lo q s a t r i) [] h (z_eq2 (m + (p_put (ls.drop a) S (lb.drop i)).length ≤ 40) none (fun h' => k_fr q r h h' ∧ k_sc G q h' ∧ rowAt G h' r (m + (p_put (ls.drop a) S (lb.drop i)).length) (k_app f m (p_put (ls.drop a) S (lb.drop i)))) (k_xc G q r h)) := by
  have hl40 := hlb.len
  have rr' := rr
  have rs' := rs
  have rt' := rt
  unfold k_rr at rr' rs' rt'
  intro c
  induction c with
  | zero =>
    intro i m S f g h hrm hi hS hx hq hw hg h9 hs ht hr hm
    refine l_put_end HG (by omega) (by omega) hq hw ht hlb (Or.inl (by omega)) ?_
    rw [List.drop_eq_nil_of_le (as := lb) (by omega), p_put_nil, k_app_nil]
    exact z_eq2.ok hm ⟨k_fr.rf, ⟨⟨_, _, hw⟩, h9⟩, hr⟩
  | succ c ih =>
    intro i m S f g h hrm hi hS hx hq hw hg h9 hs ht hr hm
    cases S with
    | nil =>
      refine l_put_end HG (by omega) (by simp) hq hw ht hlb (Or.inr rfl) ?_
      rw [p_put_stop, k_app_nil]
      exact z_eq2.ok hm ⟨k_fr.rf, ⟨⟨_, _, hw⟩, h9⟩, hr⟩
    | cons dd S =>
      have hdd : dd ≤ i := hx dd List.mem_cons_self
      have hSx : ∀ y ∈ S, y ≤ i := fun y hy => hx y (List.mem_cons_of_mem _ hy)
      have hlen : (dd :: S).length = S.length + 1 := rfl
      have hv := hlb.lt (i := i) (by omega)
      rw [l_dc (l := lb) (i := i) (by omega)]
      have ev : lb.getD i 0 = lb.getD i 0 := rfl
      generalize hvv : lb.getD i 0 = v at hv ⊢
      have hal : (p_aw v dd S).length + c ≤ 41 := by
        rw [p_aw_len]
        split <;> omega
      have ep : p_put (ls.drop a) (dd :: S) (v :: lb.drop (i + 1)) = (if v = 100 + dd then p_lift dd [0] (ls.drop a) else if 100 + dd < v then [v - 1] else [v]) ++ p_put (ls.drop a) (p_aw v dd S) (lb.drop (i + 1)) := rfl
      rw [ep]
      -- what comes behind the piece l1
      have tail : ∀ (h2 : z_H) (l1 : List Nat), k_fr q r h h2 → wkAt G h2 (q + 7) (p_aw v dd S).length (wk_up g v dd S.length) → (∃ n9 g9, wkAt G h2 (q + 9) n9 g9) → rowAt G h2 r (m + l1.length) (k_app f m l1) → m + l1.length ≤ 40 →
          ∀ lo, z_in (bw_lo q s a t r i) lo → z_V G m_Rw_appendBodyWith (d + 2) 96 lo [] h2 (z_eq2 (m + (l1 ++ p_put (ls.drop a) (p_aw v dd S) (lb.drop (i + 1))).length ≤ 40) none (fun h' => k_fr q r h h' ∧ k_sc G q h' ∧ rowAt G h' r (m + (l1 ++ p_put (ls.drop a) (p_aw v dd S) (lb.drop (i + 1))).length) (k_app f m (l1 ++ p_put (ls.drop a) (p_aw v dd S) (lb.drop (i + 1))))) (k_xc G q r h)) := by
        intro h2 l1 hf hw2 h92 hr2 hm2 lo hlo
        refine z_fg _ hlo ?_
        refine z_iinc (v := nI (i + 1)) d_Rw_appendBodyWith_96 rfl (i_inc i) (by decide) ?_
        refine z_goto (tgt := 11) d_Rw_appendBodyWith_99 rfl ?_
        refine z_fg (bw_lo q s a t r (i + 1)) ⟨rfl, rfl, rfl, rfl, rfl, rfl, trivial⟩ ?_
        refine (ih (i + 1) (m + l1.length) (p_aw v dd S) (k_app f m l1) (wk_up g v dd S.length) h2 (hf.rm hrm) (by omega) hal (p_aw_bound hdd hSx) (hf.rw rr hq) hw2 (wk_up_ok _ _ hg.2) h92 (hf.row rs es hs) (hf.row rt et ht) hr2 hm2).mono (fun r' h' hq' => ?_)
        rw [List.length_append, ← k_app_app, ← Nat.add_assoc]
        rcases hq' with ⟨c1, c2, c3, c4, c5⟩ | ⟨c1, c2, c3⟩
        · exact Or.inl ⟨c1, c2, hf.tr c3, c4, c5⟩
        · exact Or.inr ⟨c1, c2, k_xc.tr hf c3⟩
      refine z_iload d_Rw_appendBodyWith_11 rfl ?_
      refine z_aload_n d_Rw_appendBodyWith_13 rfl rfl ?_
      refine z_getf (L_Rw_66K HG) (by decide) (L_Rw_66 HG) d_Rw_appendBodyWith_14 ht.1 (by rfl) ?_
      refine z_icmp_ge (tgt := 102) d_Rw_appendBodyWith_17 rfl (fun c1 => ?_) (fun c1 => ?_)
      · rw [nI_leI (by omega) (by omega)] at c1
        omega
      · refine z_aload_n d_Rw_appendBodyWith_20 rfl rfl ?_
        refine z_getf (L_Rw_38K HG) (by decide) (L_Rw_38 HG) d_Rw_appendBodyWith_21 hq (by rfl) ?_
        refine z_callV0r (dY := d) d_Rw_appendBodyWith_24 rfl (by omega) (Y_Rw_104 HG) hw.1 (cl_Wk HG) (Nat.le_of_ble_eq_true rfl) (c_Wk_goesOn HG hw (by simp; omega)) ?_
        rw [if_neg (by simp)]
        refine z_if_eq (tgt := 102) d_Rw_appendBodyWith_27 rfl (fun c2 => ?_) (fun c2 => ?_)
        · exact absurd c2 (by decide)
        · refine z_aload_n d_Rw_appendBodyWith_30 rfl rfl ?_
          refine z_iload d_Rw_appendBodyWith_31 rfl ?_
          refine z_callV1r (dY := d) d_Rw_appendBodyWith_33 rfl (by omega) (Y_Rw_69 HG) ht.1 (cl_Row HG) (Nat.le_of_ble_eq_true rfl) (c_Row_at HG ht hl40 (nI i)) ?_
          rw [k_at_in ft (by omega) hl40, hlb.eq (by omega), hvv]
          refine z_istore d_Rw_appendBodyWith_36 (by decide) ?_
          refine z_aload_n d_Rw_appendBodyWith_38 rfl rfl ?_
          refine z_getf (L_Rw_38K HG) (by decide) (L_Rw_38 HG) d_Rw_appendBodyWith_39 hq (by rfl) ?_
          refine z_iload d_Rw_appendBodyWith_42 rfl ?_
          refine z_callV1r (dY := d) d_Rw_appendBodyWith_44 rfl (by omega) (Y_Rw_107 HG) hw.1 (cl_Wk HG) (Nat.le_of_ble_eq_true rfl) (c_Wk_depthOf HG hv hw hg (by omega)) ?_
          refine z_istore d_Rw_appendBodyWith_47 (by decide) ?_
          have hf1 : k_fr q r h (wset G h (q + 7) (p_aw v dd S).length (wk_up g v dd S.length)) := k_fr.wset (Or.inl rfl)
          have hw1 := wset_at G h (q + 7) (p_aw v dd S).length (wk_up g v dd S.length)
          have h91 : ∃ n9 g9, wkAt G (wset G h (q + 7) (p_aw v dd S).length (wk_up g v dd S.length)) (q + 9) n9 g9 := by
            obtain ⟨n9, g9, hw9⟩ := h9
            exact ⟨n9, g9, wset_wk hw9 (by omega) (by omega) (by omega)⟩
          have hr1 := wset_row (w := q + 7) (p_aw v dd S).length (wk_up g v dd S.length) hr (by omega) (by omega) (by omega)
          generalize hh1 : wset G h (q + 7) (p_aw v dd S).length (wk_up g v dd S.length) = h1 at hf1 hw1 h91 hr1 ⊢
          refine z_iload d_Rw_appendBodyWith_49 rfl ?_
          refine z_bipush (v := nI 100) d_Rw_appendBodyWith_51 (by decide +kernel) ?_
          refine z_iload d_Rw_appendBodyWith_53 rfl ?_
          refine z_iadd d_Rw_appendBodyWith_55 ?_
          rw [nI_add]
          refine z_icmp_ne (tgt := 72) d_Rw_appendBodyWith_56 rfl (fun c3 => ?_) (fun c3 => ?_)
          · rw [nI_eq (by omega) (by omega)] at c3
            rw [if_neg c3]
            have app : ∀ x : Nat, ∀ lo, z_in (bw_lo q s a t r i) lo → z_V G m_Rw_appendBodyWith (d + 2) 93 lo [.int (nI x), .ref r] h1 (z_eq2 (m + ([x] ++ p_put (ls.drop a) (p_aw v dd S) (lb.drop (i + 1))).length ≤ 40) none (fun h' => k_fr q r h h' ∧ k_sc G q h' ∧ rowAt G h' r (m + ([x] ++ p_put (ls.drop a) (p_aw v dd S) (lb.drop (i + 1))).length) (k_app f m ([x] ++ p_put (ls.drop a) (p_aw v dd S) (lb.drop (i + 1))))) (k_xc G q r h)) := by
              intro x lo hlo
              refine z_callV1e (dY := d) d_Rw_appendBodyWith_93 rfl (by omega) (Y_Rw_114 HG) hr1.1 (cl_Row HG) (Nat.le_of_ble_eq_true rfl) (c2_append HG (hf1.rm hrm) hr1 hm (nI x)) (fun hc h2 hh2 => ?_) (fun hc h2 hh2 => ?_)
              · subst hh2
                have hr2 := rset_at G h1 r (m + 1) (upd f m (nI x))
                rw [k_app_one] at hr2 ⊢
                exact tail _ [x] (hf1.tr k_fr.rset) (rset_wk _ _ hw1 (by omega) (by omega) (by omega)) (by
                  obtain ⟨n9, g9, hw9⟩ := h91
                  exact ⟨n9, g9, rset_wk _ _ hw9 (by omega) (by omega) (by omega)⟩) hr2 hc lo hlo
              · obtain ⟨hh2, h40⟩ := hh2
                subst h40
                exact z_eq2.no (by rw [List.length_append, List.length_singleton]; omega) ⟨h1, hh2, hf1, ⟨⟨_, _, hw1⟩, h91⟩, f, hr1⟩
            refine z_aload d_Rw_appendBodyWith_72 rfl ?_
            refine z_iload d_Rw_appendBodyWith_74 rfl ?_
            refine z_bipush (v := nI 100) d_Rw_appendBodyWith_76 (by decide +kernel) ?_
            refine z_iload d_Rw_appendBodyWith_78 rfl ?_
            refine z_iadd d_Rw_appendBodyWith_80 ?_
            rw [nI_add]
            refine z_icmp_le (tgt := 91) d_Rw_appendBodyWith_81 rfl (fun c4 => ?_) (fun c4 => ?_)
            · rw [nI_leI (by omega) (by omega)] at c4
              rw [if_neg (by omega)]
              refine z_iload d_Rw_appendBodyWith_91 rfl ?_
              exact app v _ ⟨rfl, rfl, rfl, rfl, rfl, rfl, trivial⟩
            · rw [nI_leI (by omega) (by omega)] at c4
              rw [if_pos (by omega)]
              refine z_iload d_Rw_appendBodyWith_84 rfl ?_
              refine z_iconst (v := nI 1) d_Rw_appendBodyWith_86 (by decide) ?_
              refine z_isub d_Rw_appendBodyWith_87 ?_
              rw [pk_sub (by omega)]
              refine z_goto (tgt := 93) d_Rw_appendBodyWith_88 rfl ?_
              exact app (v - 1) _ ⟨rfl, rfl, rfl, rfl, rfl, rfl, trivial⟩
          · rw [nI_eq (by omega) (by omega)] at c3
            rw [if_pos c3]
            refine z_aload_n d_Rw_appendBodyWith_59 rfl rfl ?_
            refine z_aload_n d_Rw_appendBodyWith_60 rfl rfl ?_
            refine z_iload_n d_Rw_appendBodyWith_61 rfl rfl ?_
            refine z_iload d_Rw_appendBodyWith_62 rfl ?_
            refine z_aload d_Rw_appendBodyWith_64 rfl ?_
            have hq1 := hf1.rw rr hq
            refine z_callV4e (dY := d + 1) d_Rw_appendBodyWith_66 rfl (by omega) (Y_Rw_110 HG) hq1 (cl_Rw HG) (Nat.le_of_ble_eq_true rfl) (c2_lift HG (hf1.rm hrm) (by omega) hls rr rs es ha hq1 ⟨⟨_, _, hw1⟩, h91⟩ (hf1.row rs es hs) hr1 hm) (fun hc h2 hh2 => ?_) (fun hc h2 hh2 => ?_)
            · obtain ⟨n', g', hh2⟩ := hh2
              subst hh2
              refine z_goto (tgt := 96) d_Rw_appendBodyWith_69 rfl ?_
              exact tail _ _ (hf1.tr ((k_fr.wset (Or.inr rfl)).tr k_fr.rset)) (rset_wk _ _ (wset_wk hw1 (by omega) (by omega) (by omega)) (by omega) (by omega) (by omega)) ⟨n', g', rset_wk _ _ (wset_at ..) (by omega) (by omega) (by omega)⟩ (rset_at ..) hc _ ⟨rfl, rfl, rfl, rfl, rfl, rfl, trivial⟩
            · exact z_eq2.no (by rw [List.length_append]; omega) (k_xc.tr hf1 hh2)
theorem c2_put (HG : z_ok G) {a b n : Nat} {f : Nat → Int32} {h : z_H} (hrm : z_rm G h) (hls : rl fs ls) (hlb : rl ft lb) (rr : k_rr q r) (rs : k_rr q s) (rt : k_rr q t) (es : k_ne s r) (et : k_ne t r) (ha : a ≤ ls.length) (hb : b ≤ lb.length)
    (hq : h.2.2 q = some (k_rw q rc na nb)) (hsc : k_sc G q h) (hs : rowAt G h s ls.length fs) (ht : rowAt G h t lb.length ft) (hr : rowAt G h r n f) (hn : n ≤ 40) :
    z_C G m_Rw_appendBodyWith (d + 2) [.ref q, .ref s, .int (nI a), .ref t, .int (nI b), .ref r] h (z_eq2 (n + (p_put (ls.drop a) [0] (lb.drop b)).length ≤ 40) none (fun h' => k_fr q r h h' ∧ k_sc G q h' ∧ rowAt G h' r (n + (p_put (ls.drop a) [0] (lb.drop b)).length) (k_app f n (p_put (ls.drop a) [0] (lb.drop b)))) (k_xc G q r h)) := by
  have hl40 := hlb.len
  have rr' := rr
  have rs' := rs
  have rt' := rt
  unfold k_rr at rr' rs' rt'
  obtain ⟨⟨n7, g7, hw⟩, n9, g9, hw9⟩ := id hsc
  refine z_C.of (Nat.le_of_ble_eq_true rfl) ?_
  refine z_aload_n d_Rw_appendBodyWith_0 rfl rfl ?_
  refine z_getf (L_Rw_38K HG) (by decide) (L_Rw_38 HG) d_Rw_appendBodyWith_1 hq (by rfl) ?_
  refine z_callV0v (dY := d) d_Rw_appendBodyWith_4 rfl (by omega) (Y_Rw_101 HG) hw.1 (cl_Wk HG) (Nat.le_of_ble_eq_true rfl) (c_Wk_begin HG hw) ?_
  refine z_iload d_Rw_appendBodyWith_7 rfl ?_
  refine z_istore d_Rw_appendBodyWith_9 (by decide) ?_
  refine z_fg (bw_lo q s a t r b) ⟨rfl, rfl, rfl, rfl, rfl, rfl, trivial⟩ ?_
  have hf : k_fr q r h (wset G h (q + 7) 1 (upd g7 0 (nI 0))) := k_fr.wset (Or.inl rfl)
  refine (l_put HG hls hlb rr rs rt es et ha (lb.length - b) b n [0] f (upd g7 0 (nI 0)) (wset G h (q + 7) 1 (upd g7 0 (nI 0))) (hf.rm hrm) (by omega) (by simp; omega) (by simp) (hf.rw rr hq) (wset_at ..) ⟨pk_us, trivial⟩ ⟨n9, g9, wset_wk hw9 (by omega) (by omega) (by omega)⟩ (hf.row rs es hs) (hf.row rt et ht) (wset_row _ _ hr (by omega) (by omega) (by omega)) hn).mono (fun r' h' hq' => ?_)
  rcases hq' with ⟨c1, c2, c3, c4, c5⟩ | ⟨c1, c2, c3⟩
  · exact Or.inl ⟨c1, c2, hf.tr c3, c4, c5⟩
  · exact Or.inr ⟨c1, c2, k_xc.tr hf c3⟩
end BW
end
section
/-! Rewriter.takeNext, doLambda -/
theorem k_app_pre {f : Nat → Int32} {l1 l2 : List Nat} {n : Nat} (hn : n = l1.length) : k_app (k_app f 0 l1) n l2 = k_app f 0 (l1 ++ l2) := by
  subst hn
  have := k_app_app f 0 l1 l2
  rw [Nat.zero_add] at this
  exact this
/-- the row with the lambda at place i done -/
def p_beta (x : List Nat) (i : Nat) : List Nat :=
  let b := i + 2 + p_end 1 (x.drop (i + 2))
  let a := b + p_end 1 (x.drop b)
  x.take i ++ p_put (x.drop a) [0] (x.drop b) ++ x.drop (a + p_end 1 (x.drop a))
theorem p_end_drop {x : List Nat} {i : Nat} (h : i ≤ x.length) : i + p_end 1 (x.drop i) ≤ x.length := by
  have := p_end_le (x.drop i) 1
  rw [List.length_drop] at this
  omega
theorem l_d0 (x : List Nat) (i : Nat) : (x.drop 0).take (i - 0) = x.take i := by rw [List.drop_zero, Nat.sub_zero]
theorem l_dl {x : List Nat} {i : Nat} : (x.drop i).take (x.length - i) = x.drop i := by
  rw [List.take_of_length_le (by rw [List.length_drop]; omega)]
section DL
variable {G : z_G} {d q rc a b nb : Nat} {fx fb : Nat → Int32} {x : List Nat} {h : z_H}
theorem c_Rw_takeNext (HG : z_ok G) (hq : h.2.2 q = some (k_rw q rc a b)) : z_C G m_Rw_takeNext d [.ref q] h (z_rq none (z_set h q (k_rw q rc b a))) := by
  refine z_C.of (Nat.le_of_ble_eq_true rfl) ?_
  refine z_aload_n d_Rw_takeNext_0 rfl rfl ?_
  refine z_getf (L_Rw_24K HG) (by decide) (L_Rw_24 HG) d_Rw_takeNext_1 hq (by rfl) ?_
  refine z_astore_n d_Rw_takeNext_4 rfl (by decide) ?_
  refine z_aload_n d_Rw_takeNext_5 rfl rfl ?_
  refine z_aload_n d_Rw_takeNext_6 rfl rfl ?_
  refine z_getf (L_Rw_28K HG) (by decide) (L_Rw_28 HG) d_Rw_takeNext_7 hq (by rfl) ?_
  refine z_putf (L_Rw_24K HG) (by decide) (L_Rw_24 HG) rfl d_Rw_takeNext_10 hq rfl rfl (Nat.le_of_ble_eq_true rfl) ?_
  have hq1 : (z_set h q (k_rw q rc b b)).2.2 q = some (k_rw q rc b b) := va_up_self _ _ _
  refine z_aload_n d_Rw_takeNext_13 rfl rfl ?_
  refine z_aload_n d_Rw_takeNext_14 rfl rfl ?_
  refine z_putf (L_Rw_28K HG) (by decide) (L_Rw_28 HG) rfl d_Rw_takeNext_15 hq1 rfl rfl (Nat.le_of_ble_eq_true rfl) ?_
  refine z_return d_Rw_takeNext_18 rfl ⟨rfl, ?_⟩
  unfold z_set
  refine congrArg (fun z => (h.1, h.2.1, z)) ?_
  funext y
  simp only [va_up]
  split <;> rfl
theorem c2_doLambda (HG : z_ok G) {i : Nat} (hrm : z_rm G h) (hx : rl fx x) (ra : k_rr q a) (rb : k_rr q b) (e : k_ne a b) (hi : i + 2 ≤ x.length)
    (hq : h.2.2 q = some (k_rw q rc a b)) (hsc : k_sc G q h) (ha : rowAt G h a x.length fx) (hb : rowAt G h b nb fb) :
    z_C G m_Rw_doLambda (d + 3) [.ref q, .int (nI i)] h (z_eq2 ((p_beta x i).length ≤ 40) none (fun h' => ∃ h1, h' = z_set h1 q (k_rw q rc b a) ∧ k_fr q b h h1 ∧ k_sc G q h1 ∧ rowAt G h1 b (p_beta x i).length (k_app fb 0 (p_beta x i))) (k_xc G q b h)) := by
  have hx40 := hx.len
  have hb1 : i + 2 + p_end 1 (x.drop (i + 2)) ≤ x.length := p_end_drop hi
  have eb : p_beta x i = x.take i ++ p_put (x.drop (i + 2 + p_end 1 (x.drop (i + 2)) + p_end 1 (x.drop (i + 2 + p_end 1 (x.drop (i + 2)))))) [0] (x.drop (i + 2 + p_end 1 (x.drop (i + 2)))) ++ x.drop (i + 2 + p_end 1 (x.drop (i + 2)) + p_end 1 (x.drop (i + 2 + p_end 1 (x.drop (i + 2)))) + p_end 1 (x.drop (i + 2 + p_end 1 (x.drop (i + 2)) + p_end 1 (x.drop (i + 2 + p_end 1 (x.drop (i + 2))))))) := rfl
  rw [eb]
  generalize hB : i + 2 + p_end 1 (x.drop (i + 2)) = nB at hb1 ⊢
  have ha1 : nB + p_end 1 (x.drop nB) ≤ x.length := p_end_drop hb1
  generalize hA : nB + p_end 1 (x.drop nB) = nA at ha1 ⊢
  have he1 : nA + p_end 1 (x.drop nA) ≤ x.length := p_end_drop ha1
  generalize hE : nA + p_end 1 (x.drop nA) = nE at he1 ⊢
  refine z_C.of (Nat.le_of_ble_eq_true rfl) ?_
  refine z_aload_n d_Rw_doLambda_0 rfl rfl ?_
  refine z_getf (L_Rw_24K HG) (by decide) (L_Rw_24 HG) d_Rw_doLambda_1 hq (by rfl) ?_
  refine z_iload_n d_Rw_doLambda_4 rfl rfl ?_
  refine z_iconst (v := nI 2) d_Rw_doLambda_5 (by decide) ?_
  refine z_iadd d_Rw_doLambda_6 ?_
  rw [nI_add]
  refine z_callV1r (dY := d + 1) d_Rw_doLambda_7 rfl (by omega) (Y_Rw_84 HG) ha.1 (cl_Row HG) (Nat.le_of_ble_eq_true rfl) (c_Row_endOf HG ha hx hi) ?_
  rw [hB]
  refine z_istore_n d_Rw_doLambda_10 rfl (by decide) ?_
  refine z_aload_n d_Rw_doLambda_11 rfl rfl ?_
  refine z_getf (L_Rw_24K HG) (by decide) (L_Rw_24 HG) d_Rw_doLambda_12 hq (by rfl) ?_
  refine z_iload_n d_Rw_doLambda_15 rfl rfl ?_
  refine z_callV1r (dY := d + 1) d_Rw_doLambda_16 rfl (by omega) (Y_Rw_84 HG) ha.1 (cl_Row HG) (Nat.le_of_ble_eq_true rfl) (c_Row_endOf HG ha hx hb1) ?_
  rw [hA]
  refine z_istore_n d_Rw_doLambda_19 rfl (by decide) ?_
  refine z_aload_n d_Rw_doLambda_20 rfl rfl ?_
  refine z_getf (L_Rw_28K HG) (by decide) (L_Rw_28 HG) d_Rw_doLambda_21 hq (by rfl) ?_
  refine z_callV0v (dY := d) d_Rw_doLambda_24 rfl (by omega) (Y_Rw_87 HG) hb.1 (cl_Row HG) (Nat.le_of_ble_eq_true rfl) (c_Row_clear HG hb) ?_
  have hf1 : k_fr q b h (rset G h b 0 fb) := k_fr.rset
  have hr1 := rset_at G h b 0 fb
  have hs1 : k_sc G q (rset G h b 0 fb) := hsc.rset rb
  generalize rset G h b 0 fb = h1 at hf1 hr1 hs1 ⊢
  have hq1 := hf1.rw rb hq
  have hx1 := hf1.row ra e ha
  refine z_aload_n d_Rw_doLambda_27 rfl rfl ?_
  refine z_getf (L_Rw_28K HG) (by decide) (L_Rw_28 HG) d_Rw_doLambda_28 hq1 (by rfl) ?_
  refine z_aload_n d_Rw_doLambda_31 rfl rfl ?_
  refine z_getf (L_Rw_24K HG) (by decide) (L_Rw_24 HG) d_Rw_doLambda_32 hq1 (by rfl) ?_
  refine z_iconst (v := nI 0) d_Rw_doLambda_35 (by decide) ?_
  refine z_iload_n d_Rw_doLambda_36 rfl rfl ?_
  refine z_callV3e (dY := d + 1) d_Rw_doLambda_37 rfl (by omega) (Y_Rw_90 HG) hr1.1 (cl_Row HG) (Nat.le_of_ble_eq_true rfl) (c2_appendPart HG (hf1.rm hrm) hr1 (by omega) hx1 hx (a := 0) (b := i) (by omega) (by omega) e) (fun hc h2 hh2 => ?_) (fun hc h2 hh2 => absurd hc (by omega))
  rw [l_d0, Nat.zero_add, Nat.sub_zero] at hh2
  have hf2 : k_fr q b h h2 := by
    subst hh2
    exact hf1.tr k_fr.rset
  have hr2 : rowAt G h2 b i (k_app fb 0 (x.take i)) := by
    subst hh2
    exact rset_at ..
  have hs2 : k_sc G q h2 := by
    subst hh2
    exact hs1.rset rb
  clear hh2
  have hq2 := hf2.rw rb hq
  have hx2 := hf2.row ra e ha
  refine z_aload_n d_Rw_doLambda_40 rfl rfl ?_
  refine z_aload_n d_Rw_doLambda_41 rfl rfl ?_
  refine z_getf (L_Rw_24K HG) (by decide) (L_Rw_24 HG) d_Rw_doLambda_42 hq2 (by rfl) ?_
  refine z_iload_n d_Rw_doLambda_45 rfl rfl ?_
  refine z_aload_n d_Rw_doLambda_46 rfl rfl ?_
  refine z_getf (L_Rw_24K HG) (by decide) (L_Rw_24 HG) d_Rw_doLambda_47 hq2 (by rfl) ?_
  refine z_iload_n d_Rw_doLambda_50 rfl rfl ?_
  refine z_aload_n d_Rw_doLambda_51 rfl rfl ?_
  refine z_getf (L_Rw_28K HG) (by decide) (L_Rw_28 HG) d_Rw_doLambda_52 hq2 (by rfl) ?_
  refine z_callV5e (dY := d + 2) d_Rw_doLambda_55 rfl (by omega) (Y_Rw_94 HG) hq2 (cl_Rw HG) (Nat.le_of_ble_eq_true rfl) (c2_put HG (hf2.rm hrm) hx hx rb ra ra e e ha1 hb1 hq2 hs2 hx2 hx2 hr2 (by omega)) (fun hc h3 hh3 => ?_) (fun hc h3 hh3 => ?_)
  · obtain ⟨hf3, hs3, hr3⟩ := hh3
    have hf3 := hf2.tr hf3
    have hl : (x.take i).length = i := by rw [List.length_take]; omega
    rw [k_app_pre hl.symm] at hr3
    generalize p_put (x.drop nA) [0] (x.drop nB) = y at hc hr3 ⊢
    have hq3 := hf3.rw rb hq
    have hx3 := hf3.row ra e ha
    refine z_aload_n d_Rw_doLambda_58 rfl rfl ?_
    refine z_getf (L_Rw_28K HG) (by decide) (L_Rw_28 HG) d_Rw_doLambda_59 hq3 (by rfl) ?_
    refine z_aload_n d_Rw_doLambda_62 rfl rfl ?_
    refine z_getf (L_Rw_24K HG) (by decide) (L_Rw_24 HG) d_Rw_doLambda_63 hq3 (by rfl) ?_
    refine z_aload_n d_Rw_doLambda_66 rfl rfl ?_
    refine z_getf (L_Rw_24K HG) (by decide) (L_Rw_24 HG) d_Rw_doLambda_67 hq3 (by rfl) ?_
    refine z_iload_n d_Rw_doLambda_70 rfl rfl ?_
    refine z_callV1r (dY := d + 1) d_Rw_doLambda_71 rfl (by omega) (Y_Rw_84 HG) hx3.1 (cl_Row HG) (Nat.le_of_ble_eq_true rfl) (c_Row_endOf HG hx3 hx ha1) ?_
    rw [hE]
    refine z_aload_n d_Rw_doLambda_74 rfl rfl ?_
    refine z_getf (L_Rw_24K HG) (by decide) (L_Rw_24 HG) d_Rw_doLambda_75 hq3 (by rfl) ?_
    refine z_getf (L_Rw_66K HG) (by decide) (L_Rw_66 HG) d_Rw_doLambda_78 hx3.1 (by rfl) ?_
    have hl2 : (x.take i ++ y ++ x.drop nE).length = i + y.length + (x.length - nE) := by
      rw [List.length_append, List.length_append, List.length_drop, hl]
    refine z_callV3e (dY := d + 1) d_Rw_doLambda_81 rfl (by omega) (Y_Rw_90 HG) hr3.1 (cl_Row HG) (Nat.le_of_ble_eq_true rfl) (c2_appendPart HG (hf3.rm hrm) hr3 hc hx3 hx (a := nE) (b := x.length) he1 (Nat.le_refl _) e) (fun hc4 h4 hh4 => ?_) (fun hc4 h4 hh4 => ?_)
    · rw [l_dl, k_app_pre (by rw [List.length_append, hl])] at hh4
      have hf4 : k_fr q b h h4 := by
        subst hh4
        exact hf3.tr k_fr.rset
      have hr4 : rowAt G h4 b (i + y.length + (x.length - nE)) (k_app fb 0 (x.take i ++ y ++ x.drop nE)) := by
        subst hh4
        exact rset_at ..
      have hs4 : k_sc G q h4 := by
        subst hh4
        exact hs3.rset rb
      refine z_aload_n d_Rw_doLambda_84 rfl rfl ?_
      refine z_callV0v (dY := d) d_Rw_doLambda_85 rfl (by omega) (Y_Rw_98 HG) (hf4.rw rb hq) (cl_Rw HG) (Nat.le_of_ble_eq_true rfl) (c_Rw_takeNext HG (hf4.rw rb hq)) ?_
      refine z_return d_Rw_doLambda_88 rfl ?_
      rw [hl2]
      exact z_eq2.ok hc4 ⟨h4, rfl, hf4, hs4, hr4⟩
    · obtain ⟨f', hh4⟩ := hh4
      rw [hl2]
      exact z_eq2.no hc4 ⟨_, hh4, hf3.tr k_fr.rset, hs3.rset rb, f', rset_at ..⟩
  · refine z_eq2.no ?_ (k_xc.tr hf2 hh3)
    rw [List.length_append, List.length_append, List.length_take]
    omega
end DL
end
section
/-! Rewriter.doRule -/
def k_ru (u nv : Nat) : va_E := .inr (2, [.ref (u + 1), .ref (u + 3), .int (nI nv)])
theorem nI_sub2 (v dd : Nat) : nI v - nI 100 - nI dd = nI v - nI (100 + dd) := by
  rw [← nI_add, Int32.sub_eq_add_neg, Int32.sub_eq_add_neg, Int32.sub_eq_add_neg, Int32.neg_add, Int32.sub_eq_add_neg, Int32.add_assoc]
/-- the row with the rule done at place i -/
def p_rule (n : Nat) (g : Nat → Nat) (lr x : List Nat) (i : Nat) : List Nat :=
  x.take i ++ p_res n (fun j => x.drop (g j)) [0] lr ++ x.drop (i + p_end 1 (x.drop i))
section DR
variable {G : z_G} {d q rc a b u nv : Nat} {fx fr ms : Nat → Int32} {x lr : List Nat} {gs : Nat → Nat}
abbrev dr_lo (q u i0 : Nat) : List (Nat × Value) := [(0, .ref q), (1, .ref u), (2, .int (nI i0))]
abbrev dr_li (q u i0 i : Nat) : List (Nat × Value) := [(0, .ref q), (1, .ref u), (2, .int (nI i0)), (3, .int (nI i))]
theorem l_res_end (HG : z_ok G) {i0 i n : Nat} {g : Nat → Int32} {h : z_H} {Q : z_R → z_H → Prop} (hi : i < 41) (hn : n ≤ 41)
    (hq : h.2.2 q = some (k_rw q rc a b)) (hw : wkAt G h (q + 7) n g) (hu : h.2.2 u = some (k_ru u nv)) (ht : rowAt G h (u + 3) lr.length fr) (hlr : rl fr lr) (he : lr.length ≤ i ∨ n = 0) (kk : z_V G m_Rw_doRule (d + 2) 134 (dr_lo q u i0) [] h Q) :
    z_V G m_Rw_doRule (d + 2) 29 (dr_li q u i0 i) [] h Q := by
  have hl40 := hlr.len
  have kk' : z_V G m_Rw_doRule (d + 2) 134 (dr_li q u i0 i) [] h Q := z_fg (dr_lo q u i0) ⟨rfl, rfl, rfl, trivial⟩ kk
  refine z_iload_n d_Rw_doRule_29 rfl rfl ?_
  refine z_aload_n d_Rw_doRule_30 rfl rfl ?_
  refine z_getf (L_Rw_53K HG) (by decide) (L_Rw_53 HG) d_Rw_doRule_31 hu (by rfl) ?_
  refine z_getf (L_Rw_66K HG) (by decide) (L_Rw_66 HG) d_Rw_doRule_34 ht.1 (by rfl) ?_
  refine z_icmp_ge (tgt := 134) d_Rw_doRule_37 rfl (fun c1 => ?_) (fun c1 => ?_)
  · exact kk'
  · rw [nI_leI (by omega) (by omega)] at c1
    refine z_aload_n d_Rw_doRule_40 rfl rfl ?_
    refine z_getf (L_Rw_38K HG) (by decide) (L_Rw_38 HG) d_Rw_doRule_41 hq (by rfl) ?_
    refine z_callV0r (dY := d) d_Rw_doRule_44 rfl (by omega) (Y_Rw_104 HG) hw.1 (cl_Wk HG) (Nat.le_of_ble_eq_true rfl) (c_Wk_goesOn HG hw hn) ?_
    rw [if_pos (by omega)]
    refine z_if_eq (tgt := 134) d_Rw_doRule_47 rfl (fun c2 => ?_) (fun c2 => ?_)
    · exact kk'
    · exact absurd (by rw [nI_0]) c2
theorem l_res (HG : z_ok G) {i0 : Nat} {Q : z_R → z_H → Prop} (hx : rl fx x) (hlr : rl fr lr) (hb : b = q + 2 ∨ b = q + 4) (ra : k_rr q a) (e : k_ne a b) (qu : q + 10 < u) (hnv : nv ≤ 4) (hgs : ∀ j, j < nv → ms j = nI (gs j) ∧ gs j ≤ x.length) : ∀ (c i m : Nat) (S : List Nat) (f g : Nat → Int32) (h : z_H), z_rm G h → i + c = lr.length → S.length + c ≤ 41 → (∀ y ∈ S, y ≤ i) →
    h.2.2 q = some (k_rw q rc a b) → h.2.2 (q + 6) = some (k_ints G 4 ms) → h.2.2 u = some (k_ru u nv) → wkAt G h (q + 7) S.length g → wk g S → (∃ n9 g9, wkAt G h (q + 9) n9 g9) → rowAt G h a x.length fx → rowAt G h (u + 3) lr.length fr → rowAt G h b m f → m ≤ 40 →
    (∀ h', m + (p_res nv (fun j => x.drop (gs j)) S (lr.drop i)).length ≤ 40 → k_fr q b h h' → k_sc G q h' → rowAt G h' b (m + (p_res nv (fun j => x.drop (gs j)) S (lr.drop i)).length) (k_app f m (p_res nv (fun j => x.drop (gs j)) S (lr.drop i))) → z_V G m_Rw_doRule (d + 2) 134 (dr_lo q u i0) [] h' Q) →
    (∀ h', ¬ m + (p_res nv (fun j => x.drop (gs j)) S (lr.drop i)).length ≤ 40 → k_xc G q b h h' → Q (.inr z_AE) h') →
    z_V G m_Rw_doRule (d + 2) 29 (dr_li q u i0 i) [] h Q := by
  have hl40 := hlr.len
  have rb : k_rr q b := by unfold k_rr; omega
  have et : k_ne (u + 3) b := by unfold k_ne; omega
  have rt : k_rr q (u + 3) := by unfold k_rr; omega
  have ra' := ra
  unfold k_rr at ra'
  intro c
  induction c with
  | zero =>
    intro i m S f g h hrm hi hS hy hq h6 hu hw hg h9 hs ht hr hm kk kx
    refine l_res_end HG (by omega) (by omega) hq hw hu ht hlr (Or.inl (by omega)) ?_
    rw [List.drop_eq_nil_of_le (as := lr) (by omega), p_res_nil, k_app_nil] at kk
    exact kk h hm k_fr.rf ⟨⟨_, _, hw⟩, h9⟩ hr
  | succ c ih =>
    intro i m S f g h hrm hi hS hy hq h6 hu hw hg h9 hs ht hr hm kk kx
    cases S with
    | nil =>
      refine l_res_end HG (by omega) (by simp) hq hw hu ht hlr (Or.inr rfl) ?_
      rw [p_res_stop, k_app_nil] at kk
      exact kk h hm k_fr.rf ⟨⟨_, _, hw⟩, h9⟩ hr
    | cons dd S =>
      have hdd : dd ≤ i := hy dd List.mem_cons_self
      have hSx : ∀ y ∈ S, y ≤ i := fun y h => hy y (List.mem_cons_of_mem _ h)
      have hlen : (dd :: S).length = S.length + 1 := rfl
      have hv := hlr.lt (i := i) (by omega)
      rw [l_dc (l := lr) (i := i) (by omega)] at kk kx
      generalize hvv : lr.getD i 0 = v at hv kk kx ⊢
      have hal : (p_aw v dd S).length + c ≤ 41 := by
        rw [p_aw_len]
        split <;> omega
      have ep : p_res nv (fun j => x.drop (gs j)) (dd :: S) (v :: lr.drop (i + 1)) = (if 100 + dd ≤ v ∧ v < 100 + dd + nv then p_lift dd [0] (x.drop (gs (v - 100 - dd))) else [v]) ++ p_res nv (fun j => x.drop (gs j)) (p_aw v dd S) (lr.drop (i + 1)) := rfl
      rw [ep] at kk kx
      generalize hy1 : (if 100 + dd ≤ v ∧ v < 100 + dd + nv then p_lift dd [0] (x.drop (gs (v - 100 - dd))) else [v]) = l1 at kk kx
      -- what comes behind the piece l1
      have tail : ∀ (h2 : z_H), k_fr q b h h2 → wkAt G h2 (q + 7) (p_aw v dd S).length (wk_up g v dd S.length) → (∃ n9 g9, wkAt G h2 (q + 9) n9 g9) → rowAt G h2 b (m + l1.length) (k_app f m l1) → m + l1.length ≤ 40 →
          ∀ lo, z_in (dr_li q u i0 i) lo → z_V G m_Rw_doRule (d + 2) 128 lo [] h2 Q := by
        intro h2 hf hw2 h92 hr2 hm2 lo hlo
        refine z_fg _ hlo ?_
        refine z_iinc (v := nI (i + 1)) d_Rw_doRule_128 rfl (i_inc i) (by decide) ?_
        refine z_goto (tgt := 29) d_Rw_doRule_131 rfl ?_
        refine z_fg (dr_li q u i0 (i + 1)) ⟨rfl, rfl, rfl, rfl, trivial⟩ ?_
        refine ih (i + 1) (m + l1.length) (p_aw v dd S) (k_app f m l1) (wk_up g v dd S.length) h2 (hf.rm hrm) (by omega) hal (p_aw_bound hdd hSx) (hf.rw rb hq) ((hf.2.2 (q + 6) (by omega) (by omega) (by omega)).trans h6) ((hf.2.2 u (by omega) (by omega) (by omega)).trans hu) hw2 (wk_up_ok _ _ hg.2) h92 (hf.row ra e hs) (hf.row rt et ht) hr2 hm2 (fun h' c1 c2 c3 c4 => ?_) (fun h' c1 c2 => ?_)
        · rw [k_app_app, Nat.add_assoc, ← List.length_append] at c4
          exact kk h' (by rw [List.length_append]; omega) (hf.tr c2) c3 c4
        · exact kx h' (by rw [List.length_append]; omega) (k_xc.tr hf c2)
      refine z_iload_n d_Rw_doRule_29 rfl rfl ?_
      refine z_aload_n d_Rw_doRule_30 rfl rfl ?_
      refine z_getf (L_Rw_53K HG) (by decide) (L_Rw_53 HG) d_Rw_doRule_31 hu (by rfl) ?_
      refine z_getf (L_Rw_66K HG) (by decide) (L_Rw_66 HG) d_Rw_doRule_34 ht.1 (by rfl) ?_
      refine z_icmp_ge (tgt := 134) d_Rw_doRule_37 rfl (fun c1 => ?_) (fun c1 => ?_)
      · rw [nI_leI (by omega) (by omega)] at c1
        omega
      · refine z_aload_n d_Rw_doRule_40 rfl rfl ?_
        refine z_getf (L_Rw_38K HG) (by decide) (L_Rw_38 HG) d_Rw_doRule_41 hq (by rfl) ?_
        refine z_callV0r (dY := d) d_Rw_doRule_44 rfl (by omega) (Y_Rw_104 HG) hw.1 (cl_Wk HG) (Nat.le_of_ble_eq_true rfl) (c_Wk_goesOn HG hw (by simp; omega)) ?_
        rw [if_neg (by simp)]
        refine z_if_eq (tgt := 134) d_Rw_doRule_47 rfl (fun c2 => ?_) (fun c2 => ?_)
        · exact absurd c2 (by decide)
        · refine z_aload_n d_Rw_doRule_50 rfl rfl ?_
          refine z_getf (L_Rw_53K HG) (by decide) (L_Rw_53 HG) d_Rw_doRule_51 hu (by rfl) ?_
          refine z_iload_n d_Rw_doRule_54 rfl rfl ?_
          refine z_callV1r (dY := d) d_Rw_doRule_55 rfl (by omega) (Y_Rw_69 HG) ht.1 (cl_Row HG) (Nat.le_of_ble_eq_true rfl) (c_Row_at HG ht hl40 (nI i)) ?_
          rw [k_at_in fr (by omega) hl40, hlr.eq (by omega), hvv]
          refine z_istore d_Rw_doRule_58 (by decide) ?_
          refine z_aload_n d_Rw_doRule_60 rfl rfl ?_
          refine z_getf (L_Rw_38K HG) (by decide) (L_Rw_38 HG) d_Rw_doRule_61 hq (by rfl) ?_
          refine z_iload d_Rw_doRule_64 rfl ?_
          refine z_callV1r (dY := d) d_Rw_doRule_66 rfl (by omega) (Y_Rw_107 HG) hw.1 (cl_Wk HG) (Nat.le_of_ble_eq_true rfl) (c_Wk_depthOf HG hv hw hg (by omega)) ?_
          refine z_istore d_Rw_doRule_69 (by decide) ?_
          have hf1 : k_fr q b h (wset G h (q + 7) (p_aw v dd S).length (wk_up g v dd S.length)) := k_fr.wset (Or.inl rfl)
          have hw1 := wset_at G h (q + 7) (p_aw v dd S).length (wk_up g v dd S.length)
          have h91 : ∃ n9 g9, wkAt G (wset G h (q + 7) (p_aw v dd S).length (wk_up g v dd S.length)) (q + 9) n9 g9 := by
            obtain ⟨n9, g9, hw9⟩ := h9
            exact ⟨n9, g9, wset_wk hw9 (by omega) (by omega) (by omega)⟩
          have hr1 := wset_row (w := q + 7) (p_aw v dd S).length (wk_up g v dd S.length) hr (by omega) (by omega) (by omega)
          generalize hh1 : wset G h (q + 7) (p_aw v dd S).length (wk_up g v dd S.length) = h1 at hf1 hw1 h91 hr1 ⊢
          have hq1 := hf1.rw rb hq
          have hu1 := (hf1.2.2 u (by omega) (by omega) (by omega)).trans hu
          have h61 := (hf1.2.2 (q + 6) (by omega) (by omega) (by omega)).trans h6
          refine z_iload d_Rw_doRule_71 rfl ?_
          refine z_bipush (v := nI 100) d_Rw_doRule_73 (by decide +kernel) ?_
          refine z_isub d_Rw_doRule_75 ?_
          refine z_iload d_Rw_doRule_76 rfl ?_
          refine z_isub d_Rw_doRule_78 ?_
          rw [nI_sub2]
          refine z_istore d_Rw_doRule_79 (by decide) ?_
          have app : ¬ (100 + dd ≤ v ∧ v < 100 + dd + nv) → z_V G m_Rw_doRule (d + 2) 119 [(0, .ref q), (1, .ref u), (2, .int (nI i0)), (3, .int (nI i)), (4, .int (nI v))] [] h1 Q := by
            intro hno
            rw [if_neg hno] at hy1
            subst hy1
            refine z_aload_n d_Rw_doRule_119 rfl rfl ?_
            refine z_getf (L_Rw_28K HG) (by decide) (L_Rw_28 HG) d_Rw_doRule_120 hq1 (by rfl) ?_
            refine z_iload d_Rw_doRule_123 rfl ?_
            refine z_callV1e (dY := d) d_Rw_doRule_125 rfl (by omega) (Y_Rw_114 HG) hr1.1 (cl_Row HG) (Nat.le_of_ble_eq_true rfl) (c2_append HG (hf1.rm hrm) hr1 hm (nI v)) (fun hc h2 hh2 => ?_) (fun hc h2 hh2 => ?_)
            · subst hh2
              have hr2 := rset_at G h1 b (m + 1) (upd f m (nI v))
              rw [k_app_one] at hr2 ⊢
              exact tail _ (hf1.tr k_fr.rset) (rset_wk _ _ hw1 (by omega) (by omega) (by omega)) (by
                obtain ⟨n9, g9, hw9⟩ := h91
                exact ⟨n9, g9, rset_wk _ _ hw9 (by omega) (by omega) (by omega)⟩) hr2 hc _ ⟨rfl, rfl, rfl, rfl, trivial⟩
            · obtain ⟨hh2, h40⟩ := hh2
              subst h40
              exact kx h2 (by rw [List.length_append, List.length_singleton]; omega) ⟨h1, hh2, hf1, ⟨⟨_, _, hw1⟩, h91⟩, f, hr1⟩
          refine z_iload d_Rw_doRule_81 rfl ?_
          refine z_if_lt (tgt := 119) d_Rw_doRule_83 rfl (fun c3 => ?_) (fun c3 => ?_)
          · refine z_fg [(0, .ref q), (1, .ref u), (2, .int (nI i0)), (3, .int (nI i)), (4, .int (nI v))] ⟨rfl, rfl, rfl, rfl, rfl, trivial⟩ (app (fun hh => ?_))
            rw [pk_sub hh.1] at c3
            exact absurd c3 (nI_pos (by omega))
          · have hge : 100 + dd ≤ v := by
              apply Nat.le_of_not_lt
              intro hlt
              exact c3 (pk_sneg (by omega) hlt)
            rw [pk_sub hge]
            refine z_iload d_Rw_doRule_86 rfl ?_
            refine z_aload_n d_Rw_doRule_88 rfl rfl ?_
            refine z_getf (L_Rw_56K HG) (by decide) (L_Rw_56 HG) d_Rw_doRule_89 hu1 (by rfl) ?_
            refine z_icmp_ge (tgt := 119) d_Rw_doRule_92 rfl (fun c4 => ?_) (fun c4 => ?_)
            · rw [nI_leI (by omega) (by omega)] at c4
              exact z_fg [(0, .ref q), (1, .ref u), (2, .int (nI i0)), (3, .int (nI i)), (4, .int (nI v))] ⟨rfl, rfl, rfl, rfl, rfl, trivial⟩ (app (by omega))
            · rw [nI_leI (by omega) (by omega)] at c4
              rw [if_pos ⟨hge, by omega⟩] at hy1
              obtain ⟨hg1, hg2⟩ := hgs (v - (100 + dd)) (by omega)
              refine z_aload_n d_Rw_doRule_95 rfl rfl ?_
              refine z_aload_n d_Rw_doRule_96 rfl rfl ?_
              refine z_getf (L_Rw_24K HG) (by decide) (L_Rw_24 HG) d_Rw_doRule_97 hq1 (by rfl) ?_
              refine z_aload_n d_Rw_doRule_100 rfl rfl ?_
              refine z_getf (L_Rw_31K HG) (by decide) (L_Rw_31 HG) d_Rw_doRule_101 hq1 (by rfl) ?_
              refine z_iload d_Rw_doRule_104 rfl ?_
              refine z_iald d_Rw_doRule_106 (ty0 HG) h61 (pk_in (v - (100 + dd)) 4 (by omega)) ?_
              rw [nI_clamp (by omega), hg1]
              refine z_iload d_Rw_doRule_107 rfl ?_
              refine z_aload_n d_Rw_doRule_109 rfl rfl ?_
              refine z_getf (L_Rw_28K HG) (by decide) (L_Rw_28 HG) d_Rw_doRule_110 hq1 (by rfl) ?_
              rw [show v - 100 - dd = v - (100 + dd) by omega] at hy1
              subst hy1
              refine z_callV4e (dY := d + 1) d_Rw_doRule_113 rfl (by omega) (Y_Rw_110 HG) hq1 (cl_Rw HG) (Nat.le_of_ble_eq_true rfl) (c2_lift HG (hf1.rm hrm) (by omega) hx rb ra e hg2 hq1 ⟨⟨_, _, hw1⟩, h91⟩ (hf1.row ra e hs) hr1 hm) (fun hc h2 hh2 => ?_) (fun hc h2 hh2 => ?_)
              · obtain ⟨n', g', hh2⟩ := hh2
                subst hh2
                refine z_goto (tgt := 128) d_Rw_doRule_116 rfl ?_
                exact tail _ (hf1.tr ((k_fr.wset (Or.inr rfl)).tr k_fr.rset)) (rset_wk _ _ (wset_wk hw1 (by omega) (by omega) (by omega)) (by omega) (by omega) (by omega)) ⟨n', g', rset_wk _ _ (wset_at ..) (by omega) (by omega) (by omega)⟩ (rset_at ..) hc _ ⟨rfl, rfl, rfl, rfl, trivial⟩
              · exact kx h2 (by rw [List.length_append]; omega) (k_xc.tr hf1 hh2)
theorem c2_doRule (HG : z_ok G) {i nb : Nat} {fb : Nat → Int32} {h : z_H} (hrm : z_rm G h) (hx : rl fx x) (hlr : rl fr lr) (hb : b = q + 2 ∨ b = q + 4) (ra : k_rr q a) (e : k_ne a b) (qu : q + 10 < u) (hnv : nv ≤ 4) (hgs : ∀ j, j < nv → ms j = nI (gs j) ∧ gs j ≤ x.length) (hi : i ≤ x.length)
    (hq : h.2.2 q = some (k_rw q rc a b)) (h6 : h.2.2 (q + 6) = some (k_ints G 4 ms)) (hu : h.2.2 u = some (k_ru u nv)) (hsc : k_sc G q h) (ha : rowAt G h a x.length fx) (ht : rowAt G h (u + 3) lr.length fr) (hr : rowAt G h b nb fb) :
    z_C G m_Rw_doRule (d + 2) [.ref q, .ref u, .int (nI i)] h (z_eq2 ((p_rule nv gs lr x i).length ≤ 40) none (fun h' => ∃ h1, h' = z_set h1 q (k_rw q rc b a) ∧ k_fr q b h h1 ∧ k_sc G q h1 ∧ rowAt G h1 b (p_rule nv gs lr x i).length (k_app fb 0 (p_rule nv gs lr x i))) (k_xc G q b h)) := by
  have hx40 := hx.len
  have hl40 := hlr.len
  have rb : k_rr q b := by unfold k_rr; omega
  have et : k_ne (u + 3) b := by unfold k_ne; omega
  have rt : k_rr q (u + 3) := by unfold k_rr; omega
  have ra' := ra
  unfold k_rr at ra'
  have he1 : i + p_end 1 (x.drop i) ≤ x.length := p_end_drop hi
  unfold p_rule
  generalize hE : i + p_end 1 (x.drop i) = nE at he1 ⊢
  refine z_C.of (Nat.le_of_ble_eq_true rfl) ?_
  refine z_aload_n d_Rw_doRule_0 rfl rfl ?_
  refine z_getf (L_Rw_28K HG) (by decide) (L_Rw_28 HG) d_Rw_doRule_1 hq (by rfl) ?_
  refine z_callV0v (dY := d) d_Rw_doRule_4 rfl (by omega) (Y_Rw_87 HG) hr.1 (cl_Row HG) (Nat.le_of_ble_eq_true rfl) (c_Row_clear HG hr) ?_
  have hf1 : k_fr q b h (rset G h b 0 fb) := k_fr.rset
  have hr1 := rset_at G h b 0 fb
  have hs1 : k_sc G q (rset G h b 0 fb) := hsc.rset rb
  generalize rset G h b 0 fb = h1 at hf1 hr1 hs1 ⊢
  have hq1 := hf1.rw rb hq
  have hx1 := hf1.row ra e ha
  refine z_aload_n d_Rw_doRule_7 rfl rfl ?_
  refine z_getf (L_Rw_28K HG) (by decide) (L_Rw_28 HG) d_Rw_doRule_8 hq1 (by rfl) ?_
  refine z_aload_n d_Rw_doRule_11 rfl rfl ?_
  refine z_getf (L_Rw_24K HG) (by decide) (L_Rw_24 HG) d_Rw_doRule_12 hq1 (by rfl) ?_
  refine z_iconst (v := nI 0) d_Rw_doRule_15 (by decide) ?_
  refine z_iload_n d_Rw_doRule_16 rfl rfl ?_
  refine z_callV3e (dY := d + 1) d_Rw_doRule_17 rfl (by omega) (Y_Rw_90 HG) hr1.1 (cl_Row HG) (Nat.le_of_ble_eq_true rfl) (c2_appendPart HG (hf1.rm hrm) hr1 (by omega) hx1 hx (a := 0) (b := i) (by omega) (by omega) e) (fun hc h2 hh2 => ?_) (fun hc h2 hh2 => absurd hc (by omega))
  rw [l_d0, Nat.zero_add, Nat.sub_zero] at hh2
  have hf2 : k_fr q b h h2 := by
    subst hh2
    exact hf1.tr k_fr.rset
  have hr2 : rowAt G h2 b i (k_app fb 0 (x.take i)) := by
    subst hh2
    exact rset_at ..
  have hs2 : k_sc G q h2 := by
    subst hh2
    exact hs1.rset rb
  clear hh2
  have hq2 := hf2.rw rb hq
  obtain ⟨⟨n7, g7, hw⟩, n9, g9, hw9⟩ := id hs2
  refine z_aload_n d_Rw_doRule_20 rfl rfl ?_
  refine z_getf (L_Rw_38K HG) (by decide) (L_Rw_38 HG) d_Rw_doRule_21 hq2 (by rfl) ?_
  refine z_callV0v (dY := d) d_Rw_doRule_24 rfl (by omega) (Y_Rw_101 HG) hw.1 (cl_Wk HG) (Nat.le_of_ble_eq_true rfl) (c_Wk_begin HG hw) ?_
  have hf3 : k_fr q b h (wset G h2 (q + 7) 1 (upd g7 0 (nI 0))) := hf2.tr (k_fr.wset (Or.inl rfl))
  have hw3 := wset_at G h2 (q + 7) 1 (upd g7 0 (nI 0))
  have hw93 := wset_wk (w := q + 7) (n := 1) (g := upd g7 0 (nI 0)) hw9 (by omega) (by omega) (by omega)
  have hr3 := wset_row (w := q + 7) 1 (upd g7 0 (nI 0)) hr2 (by omega) (by omega) (by omega)
  generalize wset G h2 (q + 7) 1 (upd g7 0 (nI 0)) = h3 at hf3 hw3 hw93 hr3 ⊢
  refine z_iconst (v := nI 0) d_Rw_doRule_27 (by decide) ?_
  refine z_istore_n d_Rw_doRule_28 rfl (by decide) ?_
  refine z_fg (dr_li q u i 0) ⟨rfl, rfl, rfl, rfl, trivial⟩ ?_
  have hl : (x.take i).length = i := by rw [List.length_take]; omega
  refine l_res HG hx hlr hb ra e qu hnv hgs lr.length 0 i [0] (k_app fb 0 (x.take i)) (upd g7 0 (nI 0)) h3 (hf3.rm hrm) (by omega) (by simp; omega) (by simp) (hf3.rw rb hq) ((hf3.2.2 (q + 6) (by omega) (by omega) (by omega)).trans h6) ((hf3.2.2 u (by omega) (by omega) (by omega)).trans hu) hw3 ⟨pk_us, trivial⟩ ⟨n9, g9, hw93⟩ (hf3.row ra e ha) (hf3.row rt et ht) hr3 (by omega) (fun h4 hc hf4 hs4 hr4 => ?_) (fun h4 hc hxc => ?_)
  · rw [List.drop_zero] at hc hr4
    have hf4 := hf3.tr hf4
    rw [k_app_pre hl.symm] at hr4
    generalize p_res nv (fun j => x.drop (gs j)) [0] lr = y at hc hr4 ⊢
    have hq4 := hf4.rw rb hq
    have hx4 := hf4.row ra e ha
    refine z_aload_n d_Rw_doRule_134 rfl rfl ?_
    refine z_getf (L_Rw_28K HG) (by decide) (L_Rw_28 HG) d_Rw_doRule_135 hq4 (by rfl) ?_
    refine z_aload_n d_Rw_doRule_138 rfl rfl ?_
    refine z_getf (L_Rw_24K HG) (by decide) (L_Rw_24 HG) d_Rw_doRule_139 hq4 (by rfl) ?_
    refine z_aload_n d_Rw_doRule_142 rfl rfl ?_
    refine z_getf (L_Rw_24K HG) (by decide) (L_Rw_24 HG) d_Rw_doRule_143 hq4 (by rfl) ?_
    refine z_iload_n d_Rw_doRule_146 rfl rfl ?_
    refine z_callV1r (dY := d + 1) d_Rw_doRule_147 rfl (by omega) (Y_Rw_84 HG) hx4.1 (cl_Row HG) (Nat.le_of_ble_eq_true rfl) (c_Row_endOf HG hx4 hx hi) ?_
    rw [hE]
    refine z_aload_n d_Rw_doRule_150 rfl rfl ?_
    refine z_getf (L_Rw_24K HG) (by decide) (L_Rw_24 HG) d_Rw_doRule_151 hq4 (by rfl) ?_
    refine z_getf (L_Rw_66K HG) (by decide) (L_Rw_66 HG) d_Rw_doRule_154 hx4.1 (by rfl) ?_
    have hl2 : (x.take i ++ y ++ x.drop nE).length = i + y.length + (x.length - nE) := by
      rw [List.length_append, List.length_append, List.length_drop, hl]
    refine z_callV3e (dY := d + 1) d_Rw_doRule_157 rfl (by omega) (Y_Rw_90 HG) hr4.1 (cl_Row HG) (Nat.le_of_ble_eq_true rfl) (c2_appendPart HG (hf4.rm hrm) hr4 hc hx4 hx (a := nE) (b := x.length) he1 (Nat.le_refl _) e) (fun hc5 h5 hh5 => ?_) (fun hc5 h5 hh5 => ?_)
    · rw [l_dl, k_app_pre (by rw [List.length_append, hl])] at hh5
      have hf5 : k_fr q b h h5 := by
        subst hh5
        exact hf4.tr k_fr.rset
      have hr5 : rowAt G h5 b (i + y.length + (x.length - nE)) (k_app fb 0 (x.take i ++ y ++ x.drop nE)) := by
        subst hh5
        exact rset_at ..
      have hs5 : k_sc G q h5 := by
        subst hh5
        exact hs4.rset rb
      refine z_aload_n d_Rw_doRule_160 rfl rfl ?_
      refine z_callV0v (dY := d) d_Rw_doRule_161 rfl (by omega) (Y_Rw_98 HG) (hf5.rw rb hq) (cl_Rw HG) (Nat.le_of_ble_eq_true rfl) (c_Rw_takeNext HG (hf5.rw rb hq)) ?_
      refine z_return d_Rw_doRule_164 rfl ?_
      rw [hl2]
      exact z_eq2.ok hc5 ⟨h5, rfl, hf5, hs5, hr5⟩
    · obtain ⟨f', hh5⟩ := hh5
      rw [hl2]
      exact z_eq2.no hc5 ⟨_, hh5, hf4.tr k_fr.rset, hs4.rset rb, f', rset_at ..⟩
  · rw [List.drop_zero] at hc
    refine z_eq2.no ?_ (k_xc.tr hf3 hxc)
    rw [List.length_append, List.length_append, List.length_take]
    omega
end DR
end
section
/-! Rewriter.matches, firstMatch -/
theorem z_set_set (h : z_H) (a : Nat) (v w : va_E) : z_set (z_set h a v) a w = z_set h a w := by
  unfold z_set
  refine congrArg (fun z => (h.1, h.2.1, z)) ?_
  funext y
  simp only [va_up]
  split <;> rfl
theorem z_set_self {h : z_H} {a : Nat} {v : va_E} (H : h.2.2 a = some v) : z_set h a v = h := by
  unfold z_set
  obtain ⟨x, y, u⟩ := h
  refine congrArg (fun z => (x, y, z)) ?_
  funext q
  simp only [va_up]
  split
  · rename_i e
    rw [e]
    exact H.symm
  · rfl
theorem z_set_at (h : z_H) (a : Nat) (v : va_E) : (z_set h a v).2.2 a = some v := va_up_self _ _ _
theorem z_set_ne (h : z_H) {a c : Nat} (v : va_E) (e : c ≠ a) : (z_set h a v).2.2 c = h.2.2 c := va_up_ne _ _ e
theorem z_set_row {G : z_G} {h : z_H} {a r n : Nat} {f : Nat → Int32} (v : va_E) (H : rowAt G h r n f) (e1 : r ≠ a) (e2 : r + 1 ≠ a) : rowAt G (z_set h a v) r n f :=
  ⟨(z_set_ne h v e1).trans H.1, (z_set_ne h v e2).trans H.2⟩
theorem nI_m1 {v : Nat} (hv : v < 2 ^ 31) : ¬ (-1 : Int32) = nI v := by
  intro h
  have h1 := congrArg Int32.toInt h
  rw [nI_toInt hv] at h1
  have h2 : (-1 : Int32).toInt = -1 := by decide +kernel
  rw [h2] at h1
  omega
theorem upd_nI (g : Nat → Nat) (k i : Nat) : upd (fun j => nI (g j)) k (nI i) = fun j => nI (va_up g k i j) := by
  funext j
  unfold upd va_up
  split <;> rfl
theorem l_g? {l : List Nat} {i v : Nat} (h : i < l.length) : l[i]? = some v ↔ l.getD i 0 = v := by
  rw [List.getD_eq_getElem?_getD, List.getElem?_eq_getElem h]
  simp
/-- where the variables' terms begin -/
def k_ms (G : z_G) (g : Nat → Nat) : va_E := k_ints G 4 (fun j => nI (g j))
def ruAt (G : z_G) (h : z_H) (u nv : Nat) (ll lr : List Nat) : Prop := h.2.2 u = some (k_ru u nv) ∧ (∃ f, rowAt G h (u + 1) ll.length f ∧ rl f ll) ∧ ∃ f, rowAt G h (u + 3) lr.length f ∧ rl f lr
section MT
variable {G : z_G} {d q rc a b u nv : Nat} {fx fl : Nat → Int32} {x ll : List Nat}
abbrev mt_lo (q u i k : Nat) : List (Nat × Value) := [(0, .ref q), (1, .ref u), (3, .int (nI i)), (4, .int (nI k))]
theorem l_match (HG : z_ok G) (hx : rl fx x) (hll : rl fl ll) (ra : k_rr q a) (qu : q + 10 < u) (hnv : nv ≤ 4) : ∀ (c k i : Nat) (g : Nat → Nat) (h : z_H), k + c = ll.length → i ≤ x.length →
    h.2.2 q = some (k_rw q rc a b) → h.2.2 (q + 6) = some (k_ms G g) → h.2.2 u = some (k_ru u nv) → rowAt G h a x.length fx → rowAt G h (u + 1) ll.length fl →
    z_V G m_Rw_matches (d + 2) 5 (mt_lo q u i k) [] h (z_rq (some (.int (if (p_match nv x (ll.drop k) i g).1 = true then nI 1 else nI 0))) (z_set h (q + 6) (k_ms G (p_match nv x (ll.drop k) i g).2))) := by
  have hl40 := hll.len
  have hx40 := hx.len
  have ra' := ra
  unfold k_rr at ra'
  intro c
  induction c with
  | zero =>
    intro k i g h hk hi hq h6 hu ha ht
    rw [List.drop_eq_nil_of_le (by omega)]
    refine z_iload d_Rw_matches_5 rfl ?_
    refine z_aload_n d_Rw_matches_7 rfl rfl ?_
    refine z_getf (L_Rw_46K HG) (by decide) (L_Rw_46 HG) d_Rw_matches_8 hu (by rfl) ?_
    refine z_getf (L_Rw_66K HG) (by decide) (L_Rw_66 HG) d_Rw_matches_11 ht.1 (by rfl) ?_
    refine z_icmp_ge (tgt := 96) d_Rw_matches_14 rfl (fun c1 => ?_) (fun c1 => ?_)
    · refine z_iconst (v := nI 1) d_Rw_matches_96 (by decide) ?_
      exact z_ireturn d_Rw_matches_97 rfl rfl ⟨rfl, (z_set_self h6).symm⟩
    · rw [nI_leI (by omega) (by omega)] at c1
      omega
  | succ c ih =>
    intro k i g h hk hi hq h6 hu ha ht
    have hv := hll.lt (i := k) (by omega)
    rw [l_dc (l := ll) (i := k) (by omega)]
    generalize hvv : ll.getD k 0 = v at hv ⊢
    refine z_iload d_Rw_matches_5 rfl ?_
    refine z_aload_n d_Rw_matches_7 rfl rfl ?_
    refine z_getf (L_Rw_46K HG) (by decide) (L_Rw_46 HG) d_Rw_matches_8 hu (by rfl) ?_
    refine z_getf (L_Rw_66K HG) (by decide) (L_Rw_66 HG) d_Rw_matches_11 ht.1 (by rfl) ?_
    refine z_icmp_ge (tgt := 96) d_Rw_matches_14 rfl (fun c1 => ?_) (fun c1 => ?_)
    · rw [nI_leI (by omega) (by omega)] at c1
      omega
    · refine z_aload_n d_Rw_matches_17 rfl rfl ?_
      refine z_getf (L_Rw_46K HG) (by decide) (L_Rw_46 HG) d_Rw_matches_18 hu (by rfl) ?_
      refine z_iload d_Rw_matches_21 rfl ?_
      refine z_callV1r (dY := d) d_Rw_matches_23 rfl (by omega) (Y_Rw_69 HG) ht.1 (cl_Row HG) (Nat.le_of_ble_eq_true rfl) (c_Row_at HG ht hl40 (nI k)) ?_
      rw [k_at_in fl (by omega) hl40, hll.eq (by omega), hvv]
      refine z_istore d_Rw_matches_26 (by decide) ?_
      refine z_iload d_Rw_matches_28 rfl ?_
      refine z_bipush (v := nI 100) d_Rw_matches_30 (by decide +kernel) ?_
      refine z_isub d_Rw_matches_32 ?_
      refine z_istore d_Rw_matches_33 (by decide) ?_
      have sec : ¬ (100 ≤ v ∧ v < 100 + nv) → z_V G m_Rw_matches (d + 2) 69 [(0, .ref q), (1, .ref u), (3, .int (nI i)), (4, .int (nI k)), (5, .int (nI v))] [] h (z_rq (some (.int (if (p_match nv x (v :: ll.drop (k + 1)) i g).1 = true then nI 1 else nI 0))) (z_set h (q + 6) (k_ms G (p_match nv x (v :: ll.drop (k + 1)) i g).2))) := by
        intro hno
        have ep : p_match nv x (v :: ll.drop (k + 1)) i g = if x[i]? = some v then p_match nv x (ll.drop (k + 1)) (i + 1) g else (false, g) := by
          show (if 100 ≤ v ∧ v < 100 + nv then _ else _) = _
          rw [if_neg hno]
        rw [ep]
        refine z_aload_n d_Rw_matches_69 rfl rfl ?_
        refine z_getf (L_Rw_24K HG) (by decide) (L_Rw_24 HG) d_Rw_matches_70 hq (by rfl) ?_
        refine z_iload_n d_Rw_matches_73 rfl rfl ?_
        refine z_callV1r (dY := d) d_Rw_matches_74 rfl (by omega) (Y_Rw_69 HG) ha.1 (cl_Row HG) (Nat.le_of_ble_eq_true rfl) (c_Row_at HG ha hx40 (nI i)) ?_
        refine z_iload d_Rw_matches_77 rfl ?_
        by_cases hix : i < x.length
        · have hxv := hx.lt hix
          rw [k_at_in fx hix hx40, hx.eq hix]
          refine z_icmp_ne (tgt := 88) d_Rw_matches_79 rfl (fun c2 => ?_) (fun c2 => ?_)
          · rw [nI_eq (by omega) (by omega)] at c2
            have hx2 : ¬ x[i]? = some v := fun hh => c2 ((l_g? hix).mp hh)
            rw [if_neg hx2]
            refine z_iconst (v := nI 0) d_Rw_matches_88 (by decide) ?_
            exact z_ireturn d_Rw_matches_89 rfl rfl ⟨rfl, (z_set_self h6).symm⟩
          · rw [nI_eq (by omega) (by omega)] at c2
            have hx2 : x[i]? = some v := (l_g? hix).mpr c2
            rw [if_pos hx2]
            refine z_iinc (v := nI (i + 1)) d_Rw_matches_82 rfl (i_inc i) (by decide) ?_
            refine z_goto (tgt := 90) d_Rw_matches_85 rfl ?_
            refine z_iinc (v := nI (k + 1)) d_Rw_matches_90 rfl (i_inc k) (by decide) ?_
            refine z_goto (tgt := 5) d_Rw_matches_93 rfl ?_
            refine z_fg (mt_lo q u (i + 1) (k + 1)) ⟨rfl, rfl, rfl, rfl, trivial⟩ ?_
            exact ih (k + 1) (i + 1) g h (by omega) (by omega) hq h6 hu ha ht
        · rw [k_at_out fx (by omega) (by omega)]
          refine z_icmp_ne (tgt := 88) d_Rw_matches_79 rfl (fun c2 => ?_) (fun c2 => ?_)
          · have hx2 : ¬ x[i]? = some v := by
              rw [List.getElem?_eq_none (by omega)]
              simp
            rw [if_neg hx2]
            refine z_iconst (v := nI 0) d_Rw_matches_88 (by decide) ?_
            exact z_ireturn d_Rw_matches_89 rfl rfl ⟨rfl, (z_set_self h6).symm⟩
          · exact absurd c2 (nI_m1 (by omega))
      refine z_iload d_Rw_matches_35 rfl ?_
      refine z_if_lt (tgt := 69) d_Rw_matches_37 rfl (fun c3 => ?_) (fun c3 => ?_)
      · refine z_fg [(0, .ref q), (1, .ref u), (3, .int (nI i)), (4, .int (nI k)), (5, .int (nI v))] ⟨rfl, rfl, rfl, rfl, rfl, trivial⟩ (sec (fun hh => ?_))
        rw [pk_sub hh.1] at c3
        exact absurd c3 (nI_pos (by omega))
      · have hge : 100 ≤ v := by
          apply Nat.le_of_not_lt
          intro hlt
          exact c3 (pk_sneg (by omega) hlt)
        rw [pk_sub hge]
        refine z_iload d_Rw_matches_40 rfl ?_
        refine z_aload_n d_Rw_matches_42 rfl rfl ?_
        refine z_getf (L_Rw_56K HG) (by decide) (L_Rw_56 HG) d_Rw_matches_43 hu (by rfl) ?_
        refine z_icmp_ge (tgt := 69) d_Rw_matches_46 rfl (fun c4 => ?_) (fun c4 => ?_)
        · rw [nI_leI (by omega) (by omega)] at c4
          exact z_fg [(0, .ref q), (1, .ref u), (3, .int (nI i)), (4, .int (nI k)), (5, .int (nI v))] ⟨rfl, rfl, rfl, rfl, rfl, trivial⟩ (sec (by omega))
        · rw [nI_leI (by omega) (by omega)] at c4
          have ep : p_match nv x (v :: ll.drop (k + 1)) i g = p_match nv x (ll.drop (k + 1)) (i + p_end 1 (x.drop i)) (va_up g (v - 100) i) := by
            show (if 100 ≤ v ∧ v < 100 + nv then _ else _) = _
            rw [if_pos ⟨hge, by omega⟩]
          rw [ep]
          refine z_aload_n d_Rw_matches_49 rfl rfl ?_
          refine z_getf (L_Rw_31K HG) (by decide) (L_Rw_31 HG) d_Rw_matches_50 hq (by rfl) ?_
          refine z_iload d_Rw_matches_53 rfl ?_
          refine z_iload_n d_Rw_matches_55 rfl rfl ?_
          refine z_iast d_Rw_matches_56 (ty0 HG) h6 (pk_in (v - 100) 4 (by omega)) ?_
          rw [nI_clamp (by omega), upd_nI]
          have hq1 := (z_set_ne h (a := q + 6) (k_ms G (va_up g (v - 100) i)) (show q ≠ q + 6 by omega)).trans hq
          have hu1 := (z_set_ne h (a := q + 6) (k_ms G (va_up g (v - 100) i)) (show u ≠ q + 6 by omega)).trans hu
          have ha1 := z_set_row (a := q + 6) (k_ms G (va_up g (v - 100) i)) ha (by omega) (by omega)
          have ht1 := z_set_row (a := q + 6) (k_ms G (va_up g (v - 100) i)) ht (by omega) (by omega)
          show z_V G m_Rw_matches (d + 2) 57 _ _ (z_set h (q + 6) (k_ms G (va_up g (v - 100) i))) _
          refine z_aload_n d_Rw_matches_57 rfl rfl ?_
          refine z_getf (L_Rw_24K HG) (by decide) (L_Rw_24 HG) d_Rw_matches_58 hq1 (by rfl) ?_
          refine z_iload_n d_Rw_matches_61 rfl rfl ?_
          refine z_callV1r (dY := d + 1) d_Rw_matches_62 rfl (by omega) (Y_Rw_84 HG) ha1.1 (cl_Row HG) (Nat.le_of_ble_eq_true rfl) (c_Row_endOf HG ha1 hx hi) ?_
          refine z_istore_n d_Rw_matches_65 rfl (by decide) ?_
          refine z_goto (tgt := 90) d_Rw_matches_66 rfl ?_
          refine z_iinc (v := nI (k + 1)) d_Rw_matches_90 rfl (i_inc k) (by decide) ?_
          refine z_goto (tgt := 5) d_Rw_matches_93 rfl ?_
          refine z_fg (mt_lo q u (i + p_end 1 (x.drop i)) (k + 1)) ⟨rfl, rfl, rfl, rfl, trivial⟩ ?_
          have := ih (k + 1) (i + p_end 1 (x.drop i)) (va_up g (v - 100) i) (z_set h (q + 6) (k_ms G (va_up g (v - 100) i))) (by omega) (p_end_drop hi) hq1 (z_set_at ..) hu1 ha1 ht1
          rw [z_set_set] at this
          exact this
theorem c_Rw_matches (HG : z_ok G) {i : Nat} {g : Nat → Nat} {h : z_H} (hx : rl fx x) (hll : rl fl ll) (ra : k_rr q a) (qu : q + 10 < u) (hnv : nv ≤ 4) (hi : i ≤ x.length)
    (hq : h.2.2 q = some (k_rw q rc a b)) (h6 : h.2.2 (q + 6) = some (k_ms G g)) (hu : h.2.2 u = some (k_ru u nv)) (ha : rowAt G h a x.length fx) (ht : rowAt G h (u + 1) ll.length fl) :
    z_C G m_Rw_matches (d + 2) [.ref q, .ref u, .int (nI i)] h (z_rq (some (.int (if (p_match nv x ll i g).1 = true then nI 1 else nI 0))) (z_set h (q + 6) (k_ms G (p_match nv x ll i g).2))) := by
  refine z_C.of (Nat.le_of_ble_eq_true rfl) ?_
  refine z_iload_n d_Rw_matches_0 rfl rfl ?_
  refine z_istore_n d_Rw_matches_1 rfl (by decide) ?_
  refine z_iconst (v := nI 0) d_Rw_matches_2 (by decide) ?_
  refine z_istore d_Rw_matches_3 (by decide) ?_
  refine z_fg (mt_lo q u i 0) ⟨rfl, rfl, rfl, rfl, trivial⟩ ?_
  exact l_match HG hx hll ra qu hnv ll.length 0 i g h (by omega) hi hq h6 hu ha ht
/-- the first rule of the list that matches at place i -/
def p_first (x : List Nat) (i : Nat) : List (List Nat × List Nat × Nat) → Option (List Nat × List Nat × Nat)
  | [] => none
  | R :: Rs => if (p_match R.2.2 x R.1 i (fun _ => 0)).1 = true then some R else p_first x i Rs
theorem p_match_b {n : Nat} {x : List Nat} : ∀ (l : List Nat) (i : Nat) (g g' : Nat → Nat), (p_match n x l i g).1 = (p_match n x l i g').1
  | [], i, g, g' => rfl
  | v :: l, i, g, g' => by
    unfold p_match
    split
    · exact p_match_b l _ _ _
    · split
      · exact p_match_b l _ _ _
      · rfl
/-- the k-th rule's object -/
abbrev k_rq (q k : Nat) : Nat := q + 11 + 5 * k
def k_rls (G : z_G) (fr : Nat → Option Nat) : va_E := .inl (G.ca 5, 8, .inr (.inr (.inr (.inr fr))))
def k_rok (q : Nat) (fr : Nat → Option Nat) : Prop := ∀ k, k < 8 → fr k = some (k_rq q k)
/-- the rules -/
def rusAt (G : z_G) (h : z_H) (q : Nat) (Rs : List (List Nat × List Nat × Nat)) : Prop := Rs.length ≤ 8 ∧ ∀ k R, Rs[k]? = some R → R.2.2 ≤ 4 ∧ ruAt G h (k_rq q k) R.2.2 R.1 R.2.1
theorem ruAt.set {G : z_G} {h : z_H} {u nv c : Nat} {ll lr : List Nat} (v : va_E) (H : ruAt G h u nv ll lr) (e : c < u ∨ u + 4 < c) : ruAt G (z_set h c v) u nv ll lr := by
  obtain ⟨h1, ⟨f, h2, h3⟩, f', h4, h5⟩ := H
  exact ⟨(z_set_ne h v (by omega)).trans h1, ⟨f, z_set_row v h2 (by omega) (by omega), h3⟩, f', z_set_row v h4 (by omega) (by omega), h5⟩
theorem rusAt.set {G : z_G} {h : z_H} {q c : Nat} {Rs : List (List Nat × List Nat × Nat)} (v : va_E) (H : rusAt G h q Rs) (e : c < q + 11) : rusAt G (z_set h c v) q Rs :=
  ⟨H.1, fun k R hk => ⟨(H.2 k R hk).1, (H.2 k R hk).2.set v (by unfold k_rq; omega)⟩⟩
section FM
variable {G : z_G} {d q a b : Nat} {fx : Nat → Int32} {x : List Nat} {Rs : List (List Nat × List Nat × Nat)} {fr : Nat → Option Nat}
theorem l_first (HG : z_ok G) (hx : rl fx x) (ra : k_rr q a) (hfr : k_rok q fr) {i : Nat} (hi : i ≤ x.length) : ∀ (c k : Nat) (g : Nat → Nat) (h : z_H), k + c = Rs.length →
    h.2.2 q = some (k_rw q Rs.length a b) → h.2.2 (q + 1) = some (k_rls G fr) → h.2.2 (q + 6) = some (k_ms G g) → rowAt G h a x.length fx → rusAt G h q Rs →
    z_V G m_Rw_firstMatch (d + 3) 2 [(0, .ref q), (1, .int (nI i)), (2, .int (nI k))] [] h (fun r h' => (p_first x i (Rs.drop k) = none ∧ r = .inl (some (.int (-1))) ∧ ∃ g', h' = z_set h (q + 6) (k_ms G g')) ∨ ∃ (k' : Nat) (R : List Nat × List Nat × Nat) (g0 : Nat → Nat), Rs[k']? = some R ∧ p_first x i (Rs.drop k) = some R ∧ (p_match R.2.2 x R.1 i g0).1 = true ∧ r = .inl (some (.int (nI k'))) ∧ h' = z_set h (q + 6) (k_ms G (p_match R.2.2 x R.1 i g0).2)) := by
  have ra' := ra
  unfold k_rr at ra'
  intro c
  induction c with
  | zero =>
    intro k g h hk hq h1 h6 ha hR
    have h8 := hR.1
    rw [List.drop_eq_nil_of_le (by omega)]
    refine z_iload_n d_Rw_firstMatch_2 rfl rfl ?_
    refine z_aload_n d_Rw_firstMatch_3 rfl rfl ?_
    refine z_getf (L_Rw_17K HG) (by decide) (L_Rw_17 HG) d_Rw_firstMatch_4 hq (by rfl) ?_
    refine z_icmp_ge (tgt := 32) d_Rw_firstMatch_7 rfl (fun c1 => ?_) (fun c1 => ?_)
    · refine z_iconst (v := -1) d_Rw_firstMatch_32 (by decide) ?_
      exact z_ireturn d_Rw_firstMatch_33 rfl rfl (Or.inl ⟨rfl, rfl, g, (z_set_self h6).symm⟩)
    · rw [nI_leI (by omega) (by omega)] at c1
      omega
  | succ c ih =>
    intro k g h hk hq h1 h6 ha hR
    have h8 := hR.1
    have hkl : k < Rs.length := by omega
    have hg := List.getElem?_eq_getElem hkl
    rw [List.drop_eq_getElem_cons hkl]
    generalize Rs[k] = R at hg ⊢
    obtain ⟨hnv, hu, ⟨fl, hl1, hl2⟩, -⟩ := hR.2 k R hg
    refine z_iload_n d_Rw_firstMatch_2 rfl rfl ?_
    refine z_aload_n d_Rw_firstMatch_3 rfl rfl ?_
    refine z_getf (L_Rw_17K HG) (by decide) (L_Rw_17 HG) d_Rw_firstMatch_4 hq (by rfl) ?_
    refine z_icmp_ge (tgt := 32) d_Rw_firstMatch_7 rfl (fun c1 => ?_) (fun c1 => ?_)
    · rw [nI_leI (by omega) (by omega)] at c1
      omega
    · refine z_aload_n d_Rw_firstMatch_10 rfl rfl ?_
      refine z_aload_n d_Rw_firstMatch_11 rfl rfl ?_
      refine z_getf (L_Rw_11K HG) (by decide) (L_Rw_11 HG) d_Rw_firstMatch_12 hq (by rfl) ?_
      refine z_iload_n d_Rw_firstMatch_15 rfl rfl ?_
      refine z_aald d_Rw_firstMatch_16 (ty5 HG) h1 (pk_in k 8 (by omega)) (by rw [nI_clamp (by omega)]; exact hfr k (by omega)) ?_
      refine z_iload_n d_Rw_firstMatch_17 rfl rfl ?_
      refine z_callV2r (dY := d + 2) d_Rw_firstMatch_18 rfl (by omega) (Y_Rw_117 HG) hq (cl_Rw HG) (Nat.le_of_ble_eq_true rfl) (c_Rw_matches HG hx hl2 ra (by unfold k_rq; omega) hnv hi hq h6 hu ha hl1) ?_
      have ep : p_first x i (R :: Rs.drop (k + 1)) = if (p_match R.2.2 x R.1 i (fun _ => 0)).1 = true then some R else p_first x i (Rs.drop (k + 1)) := rfl
      rw [ep, p_match_b R.1 i (fun _ => 0) g]
      refine z_if_eq (tgt := 26) d_Rw_firstMatch_21 rfl (fun c2 => ?_) (fun c2 => ?_)
      · have hm : ¬ (p_match R.2.2 x R.1 i g).1 = true := by
          intro hm
          rw [if_pos hm] at c2
          exact absurd c2 (by decide)
        rw [if_neg hm]
        refine z_iinc (v := nI (k + 1)) d_Rw_firstMatch_26 rfl (i_inc k) (by decide) ?_
        refine z_goto (tgt := 2) d_Rw_firstMatch_29 rfl ?_
        refine z_fg [(0, .ref q), (1, .int (nI i)), (2, .int (nI (k + 1)))] ⟨rfl, rfl, rfl, trivial⟩ ?_
        refine (ih (k + 1) (p_match R.2.2 x R.1 i g).2 (z_set h (q + 6) (k_ms G (p_match R.2.2 x R.1 i g).2)) (by omega) ((z_set_ne _ _ (by omega)).trans hq) ((z_set_ne _ _ (by omega)).trans h1) (z_set_at ..) (z_set_row _ ha (by omega) (by omega)) (hR.set _ (by omega))).mono (fun r h' hh => ?_)
        simp only [z_set_set] at hh
        exact hh
      · have hm : (p_match R.2.2 x R.1 i g).1 = true := by
          apply Classical.byContradiction
          intro hm
          rw [if_neg hm] at c2
          exact c2 (by decide)
        rw [if_pos hm]
        refine z_iload_n d_Rw_firstMatch_24 rfl rfl ?_
        exact z_ireturn d_Rw_firstMatch_25 rfl rfl (Or.inr ⟨k, R, g, hg, rfl, hm, rfl, rfl⟩)
theorem c_Rw_firstMatch (HG : z_ok G) {i : Nat} {g : Nat → Nat} {h : z_H} (hx : rl fx x) (ra : k_rr q a) (hfr : k_rok q fr) (hi : i ≤ x.length)
    (hq : h.2.2 q = some (k_rw q Rs.length a b)) (h1 : h.2.2 (q + 1) = some (k_rls G fr)) (h6 : h.2.2 (q + 6) = some (k_ms G g)) (ha : rowAt G h a x.length fx) (hR : rusAt G h q Rs) :
    z_C G m_Rw_firstMatch (d + 3) [.ref q, .int (nI i)] h (fun r h' => (p_first x i Rs = none ∧ r = .inl (some (.int (-1))) ∧ ∃ g', h' = z_set h (q + 6) (k_ms G g')) ∨ ∃ (k' : Nat) (R : List Nat × List Nat × Nat) (g0 : Nat → Nat), Rs[k']? = some R ∧ p_first x i Rs = some R ∧ (p_match R.2.2 x R.1 i g0).1 = true ∧ r = .inl (some (.int (nI k'))) ∧ h' = z_set h (q + 6) (k_ms G (p_match R.2.2 x R.1 i g0).2)) := by
  refine z_C.of (Nat.le_of_ble_eq_true rfl) ?_
  refine z_iconst (v := nI 0) d_Rw_firstMatch_0 (by decide) ?_
  refine z_istore_n d_Rw_firstMatch_1 rfl (by decide) ?_
  refine z_fg [(0, .ref q), (1, .int (nI i)), (2, .int (nI 0))] ⟨rfl, rfl, rfl, trivial⟩ ?_
  exact l_first HG hx ra hfr hi Rs.length 0 g h (by omega) hq h1 h6 ha hR
end FM
end MT
end
section
/-! rows stay well-formed -/
theorem p_wf_shift {n k : Nat} : ∀ {l S : List Nat}, p_wf n (S.map (· + k)) l ↔ p_wf (n + k) S l
  | [], [] => Iff.rfl
  | [], d :: S => by
    constructor <;> intro h <;> exact absurd h (by simp [p_wf])
  | v :: l, [] => Iff.rfl
  | v :: l, d :: S => by
    have ih := p_wf_shift (n := n) (k := k) (l := l) (S := p_aw v d S)
    rw [← p_aw_map] at ih
    constructor
    · intro h
      have h1 : v < 5 ∨ 10 ≤ v ∧ v < 18 ∨ 100 ≤ v ∧ v < 100 + (d + k) + n := h.1
      exact ⟨by omega, ih.mp h.2⟩
    · intro h
      have h1 : v < 5 ∨ 10 ≤ v ∧ v < 18 ∨ 100 ≤ v ∧ v < 100 + d + (n + k) := h.1
      refine ⟨?_, ih.mpr h.2⟩
      show v < 5 ∨ 10 ≤ v ∧ v < 18 ∨ 100 ≤ v ∧ v < 100 + (d + k) + n
      omega
theorem p_wf_sh1 {n k : Nat} {l : List Nat} : p_wf n [k] l ↔ p_wf (n + k) [0] l := by
  have := p_wf_shift (n := n) (k := k) (l := l) (S := [0])
  rw [show ([0] : List Nat).map (· + k) = [k] by simp] at this
  exact this
theorem p_lift_take (k : Nat) : ∀ (l S : List Nat), p_lift k S (l.take (p_end S.length l)) = p_lift k S l
  | [], S => by rw [p_end_nil]; rfl
  | v :: l, [] => rfl
  | v :: l, d :: S => by
    have ih := p_lift_take k l (p_aw v d S)
    rw [p_aw_len] at ih
    show p_lift k (d :: S) ((v :: l).take (p_end (if p_two v = true then S.length + 2 else S.length) l + 1)) = _
    rw [List.take_succ_cons]
    show _ :: p_lift k (p_aw v d S) _ = _
    rw [ih]
    rfl
theorem p_put_take (a : List Nat) : ∀ (l S : List Nat), p_put a S (l.take (p_end S.length l)) = p_put a S l
  | [], S => by rw [p_end_nil]; rfl
  | v :: l, [] => rfl
  | v :: l, d :: S => by
    have ih := p_put_take a l (p_aw v d S)
    rw [p_aw_len] at ih
    show p_put a (d :: S) ((v :: l).take (p_end (if p_two v = true then S.length + 2 else S.length) l + 1)) = _
    rw [List.take_succ_cons]
    show _ ++ p_put a (p_aw v d S) _ = _
    rw [ih]
    rfl
theorem p_put_arg {a a' : List Nat} (H : ∀ d, p_lift d [0] a = p_lift d [0] a') : ∀ (l S : List Nat), p_put a S l = p_put a' S l
  | [], S => by rw [p_put_nil, p_put_nil]
  | v :: l, [] => rfl
  | v :: l, d :: S => by
    show (if v = 100 + d then p_lift d [0] a else if 100 + d < v then [v - 1] else [v]) ++ p_put a (p_aw v d S) l = _
    rw [p_put_arg H l, H d]
    rfl
theorem p_res_arg {n : Nat} {g g' : Nat → List Nat} (H : ∀ j, j < n → ∀ d, p_lift d [0] (g j) = p_lift d [0] (g' j)) : ∀ (l S : List Nat), p_res n g S l = p_res n g' S l
  | [], S => by rw [p_res_nil, p_res_nil]
  | v :: l, [] => rfl
  | v :: l, d :: S => by
    show (if 100 + d ≤ v ∧ v < 100 + d + n then p_lift d [0] (g (v - 100 - d)) else [v]) ++ p_res n g (p_aw v d S) l = (if 100 + d ≤ v ∧ v < 100 + d + n then p_lift d [0] (g' (v - 100 - d)) else [v]) ++ p_res n g' (p_aw v d S) l
    rw [p_res_arg H l]
    by_cases h : 100 + d ≤ v ∧ v < 100 + d + n
    · rw [if_pos h, if_pos h, H _ (by omega)]
    · rw [if_neg h, if_neg h]
theorem p_lift_t1 (k : Nat) (l : List Nat) : p_lift k [0] (l.take (p_end 1 l)) = p_lift k [0] l := p_lift_take k l [0]
theorem p_put_t1 (A B : List Nat) : p_put (A.take (p_end 1 A)) [0] (B.take (p_end 1 B)) = p_put A [0] B := by
  rw [p_put_arg (fun k => p_lift_t1 k A)]
  exact p_put_take A B [0]
/-- the depths awaited behind the first i numbers -/
def p_st : List Nat → List Nat → Nat → List Nat
  | S, _, 0 => S
  | S, [], _ + 1 => S
  | [], _ :: _, _ + 1 => []
  | d :: S, v :: l, i + 1 => p_st (p_aw v d S) l i
theorem p_wf_at {n : Nat} : ∀ {l S : List Nat} {i : Nat}, p_wf n S l → i ≤ l.length → p_wf n (p_st S l i) (l.drop i) ∧ ∀ y, p_wf n (p_st S l i) y → p_wf n S (l.take i ++ y)
  | l, S, 0, h, _ => by
    have e : p_st S l 0 = S := by cases S <;> cases l <;> rfl
    rw [e]
    exact ⟨h, fun y hy => hy⟩
  | [], S, i + 1, h, hi => absurd hi (by simp)
  | v :: l, [], i + 1, h, hi => h.elim
  | v :: l, d :: S, i + 1, h, hi => by
    obtain ⟨h1, h2⟩ := p_wf_at (i := i) h.2 (Nat.le_of_succ_le_succ hi)
    exact ⟨h1, fun y hy => ⟨h.1, h2 y hy⟩⟩
theorem p_aw_max {v d m : Nat} {S : List Nat} (hd : d ≤ m) (hS : ∀ y ∈ S, y ≤ m) : ∀ y ∈ p_aw v d S, y ≤ m + 1 := by
  intro y hy
  unfold p_aw at hy
  split at hy
  · simp only [List.mem_cons] at hy
    rcases hy with rfl | rfl | hy
    · omega
    · split <;> omega
    · have := hS y hy; omega
  · have := hS y hy; omega
theorem p_wf_lt {n : Nat} : ∀ {l S : List Nat} {m : Nat}, p_wf n S l → (∀ y ∈ S, y ≤ m) → ∀ v ∈ l, v < 118 + m + n + l.length
  | [], S, m, h, hS => by simp
  | w :: l, [], m, h, hS => h.elim
  | w :: l, d :: S, m, h, hS => by
    intro v hv
    have hd : d ≤ m := hS d List.mem_cons_self
    rcases List.mem_cons.mp hv with rfl | hv
    · have := h.1
      simp only [List.length_cons]
      omega
    · have := p_wf_lt h.2 (p_aw_max hd (fun y hy => hS y (List.mem_cons_of_mem _ hy))) v hv
      simp only [List.length_cons]
      omega
theorem p_wf_rl {n : Nat} {f : Nat → Int32} {l : List Nat} (h : p_wf n [0] l) (hn : n ≤ 4) (hl : l.length ≤ 40) : rl (k_app f 0 l) l := by
  have h0 : rl f [] := ⟨by simp, fun i hi => absurd hi (by simp)⟩
  refine rl_app (l1 := []) h0 (by simpa using hl) (fun v hv => ?_)
  have := p_wf_lt h (m := 0) (by simp) v hv
  omega
theorem p_wf_ne {n : Nat} {S l : List Nat} (h : p_wf n S l) (hl : l ≠ []) : ∃ d S', S = d :: S' := by
  cases S with
  | nil =>
    cases l with
    | nil => exact absurd rfl hl
    | cons v l => exact h.elim
  | cons d S => exact ⟨d, S, rfl⟩
theorem l_d2 {x : List Nat} {i v : Nat} (h : x[i]? = some v) : x.drop i = v :: x.drop (i + 1) := by
  have hi : i < x.length := by
    apply Nat.lt_of_not_le
    intro hh
    rw [List.getElem?_eq_none hh] at h
    cases h
  rw [List.drop_eq_getElem_cons hi]
  rw [List.getElem?_eq_getElem hi] at h
  cases h
  rfl
theorem l_gi {x : List Nat} {i v : Nat} (h : x[i]? = some v) : i < x.length := by
  apply Nat.lt_of_not_le
  intro hh
  rw [List.getElem?_eq_none hh] at h
  cases h
theorem p_wf_beta {n i : Nat} {x : List Nat} (h : p_wf n [0] x) (h2 : x[i]? = some 2) (h3 : x[i + 1]? = some 3) : p_wf n [0] (p_beta x i) := by
  obtain ⟨k1, k2⟩ := p_wf_at (i := i) h (Nat.le_of_lt (l_gi h2))
  rw [l_d2 h2, l_d2 h3] at k1
  obtain ⟨d, S, e⟩ := p_wf_ne k1 (by simp)
  rw [e] at k1 k2
  have k3 : p_wf n ([d] ++ ((d + 1) :: d :: S)) (x.drop (i + 2)) := k1.2.2
  have s1 := (p_wf_split k3).2
  rw [List.drop_drop] at s1
  have s2 := p_wf_split (S1 := [d + 1]) (S2 := d :: S) s1
  have s2b := s2.2
  rw [List.drop_drop] at s2b
  have s3 := p_wf_split (S1 := [d]) (S2 := S) s2b
  have s3b := s3.2
  rw [List.drop_drop] at s3b
  have hB := p_wf_sh1.mp s2.1
  have hC := p_wf_sh1.mp s3.1
  have hP : p_wf n [d] (p_put (x.drop (i + 2 + p_end 1 (x.drop (i + 2)) + p_end 1 (x.drop (i + 2 + p_end 1 (x.drop (i + 2)))))) [0] (x.drop (i + 2 + p_end 1 (x.drop (i + 2))))) := by
    rw [← p_put_t1]
    exact p_wf_sh1.mpr (p_wf_put (n := n + d) hC hB)
  have hF := k2 _ (p_wf_app (S1 := [d]) hP s3b)
  rw [← List.append_assoc] at hF
  exact hF
/-- a rule that may be admitted -/
def p_rok (R : List Nat × List Nat × Nat) : Prop := p_wf R.2.2 [0] R.1 ∧ p_wf R.2.2 [0] R.2.1 ∧ (∀ v ∈ R.1, v = 2 ∨ 10 ≤ v) ∧ (∀ j, j < R.2.2 → 100 + j ∈ R.1) ∧ R.2.2 ≤ 4
theorem p_match_ok {n d nv : Nat} {x S' : List Nat} : ∀ (ll : List Nat) (k i : Nat) (g : Nat → Nat), p_wf n (List.replicate k d ++ S') (x.drop i) → i ≤ x.length → p_wf nv (List.replicate k 0) ll → (∀ v ∈ ll, v = 2 ∨ 10 ≤ v) → (p_match nv x ll i g).1 = true →
    ∀ j, j < nv → (100 + j ∈ ll ∨ (g j ≤ x.length ∧ p_wf (n + d) [0] ((x.drop (g j)).take (p_end 1 (x.drop (g j)))))) → ((p_match nv x ll i g).2 j ≤ x.length ∧ p_wf (n + d) [0] ((x.drop ((p_match nv x ll i g).2 j)).take (p_end 1 (x.drop ((p_match nv x ll i g).2 j))))) := by
  intro ll
  induction ll with
  | nil =>
    intro k i g hw hi hp hv hm j hj h
    rcases h with h | h
    · exact absurd h (by simp)
    · exact h
  | cons v ll ih =>
    intro k i g hw hi hp hv hm j hj h
    cases k with
    | zero => exact hp.elim
    | succ k =>
      rw [List.replicate_succ] at hp hw
      have hv2 : ∀ w ∈ ll, w = 2 ∨ 10 ≤ w := fun w hw => hv w (List.mem_cons_of_mem _ hw)
      by_cases hc : 100 ≤ v ∧ v < 100 + nv
      · have ep : p_match nv x (v :: ll) i g = p_match nv x ll (i + p_end 1 (x.drop i)) (va_up g (v - 100) i) := by
          show (if 100 ≤ v ∧ v < 100 + nv then _ else _) = _
          rw [if_pos hc]
        rw [ep] at hm ⊢
        have hp2 := hp.2
        rw [p_aw_big (by omega)] at hp2
        have s := p_wf_split (S1 := [d]) (S2 := List.replicate k d ++ S') hw
        have s2 := s.2
        rw [List.drop_drop] at s2
        refine ih k _ _ s2 (p_end_drop hi) hp2 hv2 hm j hj ?_
        by_cases hjv : j = v - 100
        · right
          rw [hjv, va_up_self]
          exact ⟨hi, p_wf_sh1.mp s.1⟩
        · rw [va_up_ne _ _ hjv]
          rcases h with h | h
          · left
            rcases List.mem_cons.mp h with h | h
            · omega
            · exact h
          · exact Or.inr h
      · by_cases hx : x[i]? = some v
        · have ep : p_match nv x (v :: ll) i g = p_match nv x ll (i + 1) g := by
            show (if 100 ≤ v ∧ v < 100 + nv then _ else if x[i]? = some v then _ else _) = _
            rw [if_neg hc, if_pos hx]
          rw [ep] at hm ⊢
          have hw2 := hw
          rw [l_d2 hx] at hw2
          have hw3 : p_wf n (p_aw v d (List.replicate k d ++ S')) (x.drop (i + 1)) := hw2.2
          have hp2 : p_wf nv (p_aw v 0 (List.replicate k 0)) ll := hp.2
          have h' : 100 + j ∈ ll ∨ (g j ≤ x.length ∧ p_wf (n + d) [0] ((x.drop (g j)).take (p_end 1 (x.drop (g j))))) := by
            rcases h with h | h
            · left
              rcases List.mem_cons.mp h with h | h
              · omega
              · exact h
            · exact Or.inr h
          rcases hv v List.mem_cons_self with h2 | h10
          · subst h2
            exact ih (k + 2) _ _ hw3 (l_gi hx) hp2 hv2 hm j hj h'
          · rw [p_aw_big (by omega)] at hw3 hp2
            exact ih k _ _ hw3 (l_gi hx) hp2 hv2 hm j hj h'
        · have ep : p_match nv x (v :: ll) i g = (false, g) := by
            show (if 100 ≤ v ∧ v < 100 + nv then _ else if x[i]? = some v then _ else _) = _
            rw [if_neg hc, if_neg hx]
          rw [ep] at hm
          cases hm
theorem p_match_g {nv : Nat} {x : List Nat} : ∀ (ll : List Nat) (i : Nat) (g g' : Nat → Nat), (p_match nv x ll i g).1 = true → ∀ j, j < nv → (100 + j ∈ ll ∨ g j = g' j) → (p_match nv x ll i g).2 j = (p_match nv x ll i g').2 j := by
  intro ll
  induction ll with
  | nil =>
    intro i g g' hm j hj h
    rcases h with h | h
    · exact absurd h (by simp)
    · exact h
  | cons v ll ih =>
    intro i g g' hm j hj h
    unfold p_match at hm ⊢
    by_cases hc : 100 ≤ v ∧ v < 100 + nv
    · simp only [if_pos hc] at hm ⊢
      refine ih _ _ _ hm j hj ?_
      by_cases hjv : j = v - 100
      · right
        rw [hjv, va_up_self, va_up_self]
      · rw [va_up_ne _ _ hjv, va_up_ne _ _ hjv]
        rcases h with h | h
        · left
          rcases List.mem_cons.mp h with h | h
          · omega
          · exact h
        · exact Or.inr h
    · simp only [if_neg hc] at hm ⊢
      by_cases hx : x[i]? = some v
      · simp only [if_pos hx] at hm ⊢
        refine ih _ _ _ hm j hj ?_
        rcases h with h | h
        · left
          rcases List.mem_cons.mp h with h | h
          · omega
          · exact h
        · exact Or.inr h
      · simp only [if_neg hx] at hm
        cases hm
theorem p_rule_wf {n i : Nat} {x : List Nat} {R : List Nat × List Nat × Nat} {g : Nat → Nat} (h : p_wf n [0] x) (hi : i < x.length) (hR : p_rok R) (hm : (p_match R.2.2 x R.1 i g).1 = true) :
    (∀ j, j < R.2.2 → (p_match R.2.2 x R.1 i g).2 j ≤ x.length) ∧ p_wf n [0] (p_rule R.2.2 (p_match R.2.2 x R.1 i g).2 R.2.1 x i) := by
  obtain ⟨r1, r2, r3, r4, r5⟩ := hR
  obtain ⟨k1, k2⟩ := p_wf_at (i := i) h (Nat.le_of_lt hi)
  have hne : x.drop i ≠ [] := by
    intro hh
    rw [List.drop_eq_getElem_cons hi] at hh
    cases hh
  obtain ⟨d, S, e⟩ := p_wf_ne k1 hne
  rw [e] at k1 k2
  have H : ∀ j, j < R.2.2 → _ := fun j hj => p_match_ok (n := n) (d := d) (S' := S) R.1 1 i g k1 (Nat.le_of_lt hi) r1 r3 hm j hj (Or.inl (r4 j hj))
  refine ⟨fun j hj => (H j hj).1, ?_⟩
  have s := p_wf_split (S1 := [d]) (S2 := S) k1
  have s2 := s.2
  rw [List.drop_drop] at s2
  have hP := p_wf_sh1.mpr (p_wf_res (n := n + d) (g := fun j => (x.drop ((p_match R.2.2 x R.1 i g).2 j)).take (p_end 1 (x.drop ((p_match R.2.2 x R.1 i g).2 j)))) (fun j hj => (H j hj).2) r2)
  rw [p_res_arg (g' := fun j => x.drop ((p_match R.2.2 x R.1 i g).2 j)) (fun j hj k => p_lift_t1 k _)] at hP
  have hF := k2 _ (p_wf_app (S1 := [d]) hP s2)
  rw [← List.append_assoc] at hF
  exact hF
theorem p_rule_g {i : Nat} {x : List Nat} {R : List Nat × List Nat × Nat} {g g' : Nat → Nat} (hR : p_rok R) (hm : (p_match R.2.2 x R.1 i g).1 = true) :
    p_rule R.2.2 (p_match R.2.2 x R.1 i g).2 R.2.1 x i = p_rule R.2.2 (p_match R.2.2 x R.1 i g').2 R.2.1 x i := by
  unfold p_rule
  rw [p_res_arg (fun j hj k => by rw [p_match_g R.1 i g g' hm j hj (Or.inl (hR.2.2.2.1 j hj))])]
/-- one step at place i -/
def p_here (Rs : List (List Nat × List Nat × Nat)) (x : List Nat) (i : Nat) : Option (List Nat) :=
  if x[i]? = some 2 ∧ x[i + 1]? = some 3 then some (p_beta x i) else (p_first x i Rs).map (fun R => p_rule R.2.2 (p_match R.2.2 x R.1 i (fun _ => 0)).2 R.2.1 x i)
def p_scan (Rs : List (List Nat × List Nat × Nat)) (x : List Nat) : Nat → Nat → Option (List Nat)
  | 0, _ => none
  | c + 1, i => (p_here Rs x i).or (p_scan Rs x c (i + 1))
/-- one step -/
def p_step (Rs : List (List Nat × List Nat × Nat)) (x : List Nat) : Option (List Nat) := p_scan Rs x x.length 0
/-- the normal form, with the steps that it takes -/
def p_norm (Rs : List (List Nat × List Nat × Nat)) : Nat → List Nat → Option (Nat × List Nat)
  | 0, _ => none
  | c + 1, x => match p_step Rs x with
    | none => some (0, x)
    | some y => if y.length ≤ 40 then (p_norm Rs c y).map (fun z => (z.1 + 1, z.2)) else none
def p_rsok (Rs : List (List Nat × List Nat × Nat)) : Prop := ∀ R ∈ Rs, p_rok R
theorem p_first_mem {x : List Nat} {i : Nat} : ∀ {Rs : List (List Nat × List Nat × Nat)} {R : List Nat × List Nat × Nat}, p_first x i Rs = some R → R ∈ Rs ∧ (p_match R.2.2 x R.1 i (fun _ => 0)).1 = true
  | [], R, h => by cases h
  | R1 :: Rs, R, h => by
    unfold p_first at h
    split at h
    · rename_i hm
      cases h
      exact ⟨List.mem_cons_self, hm⟩
    · have := p_first_mem h
      exact ⟨List.mem_cons_of_mem _ this.1, this.2⟩
theorem p_here_wf {n i : Nat} {x y : List Nat} {Rs : List (List Nat × List Nat × Nat)} (h : p_wf n [0] x) (hR : p_rsok Rs) (hi : i < x.length) (hy : p_here Rs x i = some y) : p_wf n [0] y := by
  unfold p_here at hy
  split at hy
  · rename_i hc
    cases hy
    exact p_wf_beta h hc.1 hc.2
  · cases hf : p_first x i Rs with
    | none =>
      rw [hf] at hy
      cases hy
    | some R =>
      rw [hf] at hy
      cases hy
      obtain ⟨m1, m2⟩ := p_first_mem hf
      exact (p_rule_wf h hi (hR R m1) m2).2
theorem p_scan_wf {n : Nat} {x y : List Nat} {Rs : List (List Nat × List Nat × Nat)} (h : p_wf n [0] x) (hR : p_rsok Rs) : ∀ (c i : Nat), i + c ≤ x.length → p_scan Rs x c i = some y → p_wf n [0] y
  | 0, i, _, hy => by cases hy
  | c + 1, i, hi, hy => by
    unfold p_scan at hy
    cases hh : p_here Rs x i with
    | none =>
      rw [hh] at hy
      exact p_scan_wf h hR c (i + 1) (by omega) hy
    | some z =>
      rw [hh] at hy
      cases hy
      exact p_here_wf h hR (by omega) hh
theorem p_step_wf {n : Nat} {x y : List Nat} {Rs : List (List Nat × List Nat × Nat)} (h : p_wf n [0] x) (hR : p_rsok Rs) (hy : p_step Rs x = some y) : p_wf n [0] y := p_scan_wf h hR x.length 0 (by omega) hy
theorem p_norm_wf {n : Nat} {Rs : List (List Nat × List Nat × Nat)} (hR : p_rsok Rs) : ∀ {c : Nat} {x : List Nat} {z : Nat × List Nat}, p_wf n [0] x → x.length ≤ 40 → p_norm Rs c x = some z → p_wf n [0] z.2 ∧ z.2.length ≤ 40 ∧ z.1 < c
  | 0, x, z, _, _, hy => by cases hy
  | c + 1, x, z, h, hl, hy => by
    unfold p_norm at hy
    cases hs : p_step Rs x with
    | none =>
      rw [hs] at hy
      cases hy
      exact ⟨h, hl, Nat.succ_pos c⟩
    | some y =>
      rw [hs] at hy
      simp only [] at hy
      split at hy
      · rename_i hyl
        cases hn : p_norm Rs c y with
        | none =>
          rw [hn] at hy
          cases hy
        | some w =>
          rw [hn] at hy
          cases hy
          have := p_norm_wf hR (p_step_wf h hR hs) hyl hn
          exact ⟨this.1, this.2.1, Nat.succ_lt_succ this.2.2⟩
      · cases hy
end
section
/-! Rewriter.step -/
/-- the Rewriter with its rules, the row now is x -/
def RwN (G : z_G) (h : z_H) (q : Nat) (Rs : List (List Nat × List Nat × Nat)) (x : List Nat) : Prop :=
  ∃ (a b nb : Nat) (fx fb : Nat → Int32) (g : Nat → Nat) (fr : Nat → Option Nat), (a = q + 2 ∧ b = q + 4 ∨ a = q + 4 ∧ b = q + 2) ∧ h.2.2 q = some (k_rw q Rs.length a b) ∧ h.2.2 (q + 1) = some (k_rls G fr) ∧ k_rok q fr ∧ h.2.2 (q + 6) = some (k_ms G g) ∧ k_sc G q h ∧ rowAt G h a x.length fx ∧ rl fx x ∧ rowAt G h b nb fb ∧ rusAt G h q Rs
/-- beside the Rewriter's own cells nothing has changed -/
def k_fq (q : Nat) (h h' : z_H) : Prop := h'.1 = h.1 ∧ h'.2.1 = h.2.1 ∧ ∀ y : Nat, y < q ∨ q + 10 < y → h'.2.2 y = h.2.2 y
theorem k_fq.rf {q : Nat} {h : z_H} : k_fq q h h := ⟨rfl, rfl, fun _ _ => rfl⟩
theorem k_fq.tr {q : Nat} {h h1 h2 : z_H} (a : k_fq q h h1) (b : k_fq q h1 h2) : k_fq q h h2 := ⟨b.1.trans a.1, b.2.1.trans a.2.1, fun x h1 => (b.2.2 x h1).trans (a.2.2 x h1)⟩
theorem k_fq.rm {G : z_G} {q : Nat} {h h1 : z_H} (a : k_fq q h h1) (H : z_rm G h) : z_rm G h1 := by
  unfold z_rm
  rw [a.1, a.2.1]
  exact H
theorem k_fr.fq {q b : Nat} {h h1 : z_H} (H : k_fr q b h h1) (hb : b = q + 2 ∨ b = q + 4) : k_fq q h h1 := ⟨H.1, H.2.1, fun y hy => H.2.2 y (by omega) (by omega) (by omega)⟩
theorem k_fq.set {q c : Nat} {h : z_H} (v : va_E) (hc : q ≤ c ∧ c ≤ q + 10) : k_fq q h (z_set h c v) := ⟨rfl, rfl, fun y hy => z_set_ne h v (by omega)⟩
theorem k_fq.row {G : z_G} {q s n : Nat} {f : Nat → Int32} {h h1 : z_H} (k : k_fq q h h1) (hs : s + 1 < q ∨ q + 10 < s) (H : rowAt G h s n f) : rowAt G h1 s n f :=
  ⟨(k.2.2 s (by omega)).trans H.1, (k.2.2 (s + 1) (by omega)).trans H.2⟩
theorem rusAt.fq {G : z_G} {h h1 : z_H} {q : Nat} {Rs : List (List Nat × List Nat × Nat)} (H : rusAt G h q Rs) (k : k_fq q h h1) : rusAt G h1 q Rs := by
  refine ⟨H.1, fun j R hj => ⟨(H.2 j R hj).1, ?_⟩⟩
  obtain ⟨h1, ⟨f, h2, h3⟩, f', h4, h5⟩ := (H.2 j R hj).2
  unfold k_rq at *
  exact ⟨(k.2.2 _ (by omega)).trans h1, ⟨f, k.row (by omega) h2, h3⟩, f', k.row (by omega) h4, h5⟩
theorem RwN.ms {G : z_G} {h : z_H} {q : Nat} {Rs : List (List Nat × List Nat × Nat)} {x : List Nat} (H : RwN G h q Rs x) (g : Nat → Nat) : RwN G (z_set h (q + 6) (k_ms G g)) q Rs x := by
  obtain ⟨a, b, nb, fx, fb, g0, fr, hab, h1, h2, h3, h4, ⟨⟨n7, g7, h7⟩, n9, g9, h9⟩, h6, h8, h10, h11⟩ := H
  refine ⟨a, b, nb, fx, fb, g, fr, hab, (z_set_ne _ _ (by omega)).trans h1, (z_set_ne _ _ (by omega)).trans h2, h3, z_set_at .., ⟨⟨n7, g7, ?_, ?_⟩, n9, g9, ?_, ?_⟩, z_set_row _ h6 (by omega) (by omega), h8, z_set_row _ h10 (by omega) (by omega), h11.fq (k_fq.set _ (by omega))⟩
  · exact (z_set_ne _ _ (by omega)).trans h7.1
  · exact (z_set_ne _ _ (by omega)).trans h7.2
  · exact (z_set_ne _ _ (by omega)).trans h9.1
  · exact (z_set_ne _ _ (by omega)).trans h9.2
theorem l_gi' {α : Type} {x : List α} {i : Nat} {v : α} (h : x[i]? = some v) : i < x.length := by
  apply Nat.lt_of_not_le
  intro hh
  rw [List.getElem?_eq_none hh] at h
  cases h
section SP
variable {G : z_G} {d q n : Nat} {x : List Nat} {Rs : List (List Nat × List Nat × Nat)}
/-- a redex is done: the rows change places -/
theorem RwN.done {h h1 : z_H} {a b : Nat} {fx fb : Nat → Int32} {g : Nat → Nat} {fr : Nat → Option Nat} {y : List Nat} (hab : a = q + 2 ∧ b = q + 4 ∨ a = q + 4 ∧ b = q + 2) (h1' : h.2.2 (q + 1) = some (k_rls G fr)) (hfr : k_rok q fr) (h6 : h.2.2 (q + 6) = some (k_ms G g)) (ha : rowAt G h a x.length fx) (hR : rusAt G h q Rs)
    (hf : k_fr q b h h1) (hs : k_sc G q h1) (hr : rowAt G h1 b y.length (k_app fb 0 y)) (hy : rl (k_app fb 0 y) y) : RwN G (z_set h1 q (k_rw q Rs.length b a)) q Rs y ∧ k_fq q h (z_set h1 q (k_rw q Rs.length b a)) := by
  have hb : b = q + 2 ∨ b = q + 4 := by omega
  have hq := (hf.fq hb).tr (k_fq.set (h := h1) (k_rw q Rs.length b a) (show q ≤ q ∧ q ≤ q + 10 by omega))
  obtain ⟨⟨n7, g7, h7⟩, n9, g9, h9⟩ := hs
  have ra : k_rr q a := by unfold k_rr; omega
  have e : k_ne a b := by unfold k_ne; omega
  refine ⟨⟨b, a, x.length, k_app fb 0 y, fx, g, fr, by omega, z_set_at .., ?_, hfr, ?_, ⟨⟨n7, g7, ?_, ?_⟩, n9, g9, ?_, ?_⟩, z_set_row _ hr (by omega) (by omega), hy, z_set_row _ (hf.row ra e ha) (by omega) (by omega), hR.fq hq⟩, hq⟩
  · exact (z_set_ne _ _ (by omega)).trans ((hf.2.2 (q + 1) (by omega) (by omega) (by omega)).trans h1')
  · exact (z_set_ne _ _ (by omega)).trans ((hf.2.2 (q + 6) (by omega) (by omega) (by omega)).trans h6)
  · exact (z_set_ne _ _ (by omega)).trans h7.1
  · exact (z_set_ne _ _ (by omega)).trans h7.2
  · exact (z_set_ne _ _ (by omega)).trans h9.1
  · exact (z_set_ne _ _ (by omega)).trans h9.2
theorem RwN.fail {h h' : z_H} {a b : Nat} {fx : Nat → Int32} {g : Nat → Nat} {fr : Nat → Option Nat} (hab : a = q + 2 ∧ b = q + 4 ∨ a = q + 4 ∧ b = q + 2) (hq : h.2.2 q = some (k_rw q Rs.length a b)) (h1' : h.2.2 (q + 1) = some (k_rls G fr)) (hfr : k_rok q fr) (h6 : h.2.2 (q + 6) = some (k_ms G g)) (ha : rowAt G h a x.length fx) (hx : rl fx x) (hR : rusAt G h q Rs)
    (H : k_xc G q b h h') : ∃ h1, h' = z_exc h1 ∧ RwN G h1 q Rs x ∧ k_fq q h h1 := by
  have hb : b = q + 2 ∨ b = q + 4 := by omega
  obtain ⟨h1, e1, hf, hs, f, hr⟩ := H
  have ra : k_rr q a := by unfold k_rr; omega
  have rb : k_rr q b := by unfold k_rr; omega
  have e : k_ne a b := by unfold k_ne; omega
  exact ⟨h1, e1, ⟨a, b, 40, fx, f, g, fr, hab, hf.rw rb hq, (hf.2.2 (q + 1) (by omega) (by omega) (by omega)).trans h1', hfr, (hf.2.2 (q + 6) (by omega) (by omega) (by omega)).trans h6, hs, hf.row ra e ha, hx, hr, hR.fq (hf.fq hb)⟩, hf.fq hb⟩
def st_post (G : z_G) (q : Nat) (Rs : List (List Nat × List Nat × Nat)) (x : List Nat) (h : z_H) : Option (List Nat) → z_R → z_H → Prop
  | none, r, h' => r = .inl (some (.int (nI 0))) ∧ RwN G h' q Rs x ∧ k_fq q h h'
  | some y, r, h' => (y.length ≤ 40 ∧ r = .inl (some (.int (nI 1))) ∧ RwN G h' q Rs y ∧ k_fq q h h') ∨ (¬ y.length ≤ 40 ∧ r = .inr z_AE ∧ ∃ h1, h' = z_exc h1 ∧ RwN G h1 q Rs x ∧ k_fq q h h1)
theorem st_post.tr {h h1 h' : z_H} {r : z_R} (k : k_fq q h h1) : ∀ {o : Option (List Nat)}, st_post G q Rs x h1 o r h' → st_post G q Rs x h o r h'
  | none, H => ⟨H.1, H.2.1, k.tr H.2.2⟩
  | some y, H => by
    rcases H with ⟨a1, a2, a3, a4⟩ | ⟨a1, a2, h2, a3, a4, a5⟩
    · exact Or.inl ⟨a1, a2, a3, k.tr a4⟩
    · exact Or.inr ⟨a1, a2, h2, a3, a4, k.tr a5⟩
theorem l_step (HG : z_ok G) (hn : n ≤ 4) (hw : p_wf n [0] x) (hok : p_rsok Rs) : ∀ (c i : Nat) (h : z_H), i + c = x.length → z_rm G h → RwN G h q Rs x →
    z_V G m_Rw_step (d + 4) 2 [(0, .ref q), (1, .int (nI i))] [] h (st_post G q Rs x h (p_scan Rs x c i)) := by
  intro c
  induction c with
  | zero =>
    intro i h hi hrm H
    obtain ⟨a, b, nb, fx, fb, g, fr, hab, hq, h1, hfr, h6, hsc, ha, hx, hb, hR⟩ := id H
    have hx40 := hx.len
    refine z_iload_n d_Rw_step_2 rfl rfl ?_
    refine z_aload_n d_Rw_step_3 rfl rfl ?_
    refine z_getf (L_Rw_24K HG) (by decide) (L_Rw_24 HG) d_Rw_step_4 hq (by rfl) ?_
    refine z_getf (L_Rw_66K HG) (by decide) (L_Rw_66 HG) d_Rw_step_7 ha.1 (by rfl) ?_
    refine z_icmp_ge (tgt := 76) d_Rw_step_10 rfl (fun c1 => ?_) (fun c1 => ?_)
    · refine z_iconst (v := nI 0) d_Rw_step_76 (by decide) ?_
      exact z_ireturn d_Rw_step_77 rfl rfl ⟨rfl, H, k_fq.rf⟩
    · rw [nI_leI (by omega) (by omega)] at c1
      omega
  | succ c ih =>
    intro i h hi hrm H
    obtain ⟨a, b, nb, fx, fb, g, fr, hab, hq, h1, hfr, h6, hsc, ha, hx, hb, hR⟩ := id H
    have hx40 := hx.len
    have hil : i < x.length := by omega
    have ra : k_rr q a := by unfold k_rr; omega
    have rb : k_rr q b := by unfold k_rr; omega
    have e : k_ne a b := by unfold k_ne; omega
    have hb24 : b = q + 2 ∨ b = q + 4 := by omega
    have ep : p_scan Rs x (c + 1) i = (p_here Rs x i).or (p_scan Rs x c (i + 1)) := rfl
    rw [ep]
    have sec : ¬ (x[i]? = some 2 ∧ x[i + 1]? = some 3) → z_V G m_Rw_step (d + 4) 46 [(0, .ref q), (1, .int (nI i))] [] h (st_post G q Rs x h ((p_here Rs x i).or (p_scan Rs x c (i + 1)))) := by
      intro hno
      unfold p_here
      rw [if_neg hno]
      refine z_aload_n d_Rw_step_46 rfl rfl ?_
      refine z_iload_n d_Rw_step_47 rfl rfl ?_
      refine z_callV (as := [.int (nI i)]) (dY := d + 3) d_Rw_step_48 rfl (by omega) (Y_Rw_77 HG) rfl hq (cl_Rw HG) (Nat.le_of_ble_eq_true rfl) (c_Rw_firstMatch HG hx ra hfr (Nat.le_of_lt hil) hq h1 h6 ha hR) (fun v h' hh => ?_) (fun X h' hh => ?_)
      · rcases hh with ⟨f1, f2, g', f3⟩ | ⟨k', R, g0, f1, f2, f3, f4, f5⟩
        · cases f2
          subst f3
          rw [f1]
          refine z_istore_n d_Rw_step_51 rfl (by decide) ?_
          refine z_iload_n d_Rw_step_52 rfl rfl ?_
          refine z_iconst (v := -1) d_Rw_step_53 (by decide) ?_
          refine z_icmp_eq (tgt := 70) d_Rw_step_54 rfl (fun c2 => ?_) (fun c2 => absurd rfl c2)
          refine z_iinc (v := nI (i + 1)) d_Rw_step_70 rfl (i_inc i) (by decide) ?_
          refine z_goto (tgt := 2) d_Rw_step_73 rfl ?_
          refine z_fg [(0, .ref q), (1, .int (nI (i + 1)))] ⟨rfl, rfl, trivial⟩ ?_
          have kf : k_fq q h (z_set h (q + 6) (k_ms G g')) := k_fq.set _ (by omega)
          exact (ih (i + 1) _ (by omega) (kf.rm hrm) (H.ms g')).mono (fun r h' hh => st_post.tr kf hh)
        · cases f4
          subst f5
          rw [f2]
          have hRm : R ∈ Rs := List.mem_of_getElem? f1
          have hk8 : k' < 8 := by
            have := l_gi' f1
            have := hR.1
            omega
          obtain ⟨w1, w2⟩ := p_rule_wf hw hil (hok R hRm) f3
          have eg := p_rule_g (g' := fun _ => 0) (hok R hRm) f3
          have kf : k_fq q h (z_set h (q + 6) (k_ms G (p_match R.2.2 x R.1 i g0).2)) := k_fq.set _ (by omega)
          have H2 := H.ms (p_match R.2.2 x R.1 i g0).2
          obtain ⟨a2, b2, nb2, fx2, fb2, g2, fr2, hab2, hq2, h12, hfr2, h62, hsc2, ha2, hx2, hb2, hR2⟩ := id H2
          have h62' := z_set_at h (q + 6) (k_ms G (p_match R.2.2 x R.1 i g0).2)
          generalize z_set h (q + 6) (k_ms G (p_match R.2.2 x R.1 i g0).2) = hN at *
          have ra2 : k_rr q a2 := by unfold k_rr; omega
          have e2 : k_ne a2 b2 := by unfold k_ne; omega
          obtain ⟨hnv, hu, -, flr, hl1, hl2⟩ := hR2.2 k' R f1
          refine z_istore_n d_Rw_step_51 rfl (by decide) ?_
          refine z_iload_n d_Rw_step_52 rfl rfl ?_
          refine z_iconst (v := -1) d_Rw_step_53 (by decide) ?_
          refine z_icmp_eq (tgt := 70) d_Rw_step_54 rfl (fun c2 => absurd c2.symm (nI_m1 (by omega))) (fun c2 => ?_)
          refine z_aload_n d_Rw_step_57 rfl rfl ?_
          refine z_aload_n d_Rw_step_58 rfl rfl ?_
          refine z_getf (L_Rw_11K HG) (by decide) (L_Rw_11 HG) d_Rw_step_59 hq2 (by rfl) ?_
          refine z_iload_n d_Rw_step_62 rfl rfl ?_
          refine z_aald d_Rw_step_63 (ty5 HG) h12 (pk_in k' 8 (by omega)) (by rw [nI_clamp (by omega)]; exact hfr2 k' (by omega)) ?_
          refine z_iload_n d_Rw_step_64 rfl rfl ?_
          have hl41 := hx2.len
          refine z_callV2e (dY := d + 2) d_Rw_step_65 rfl (by omega) (Y_Rw_80 HG) hq2 (cl_Rw HG) (Nat.le_of_ble_eq_true rfl) (c2_doRule HG (kf.rm hrm) hx2 hl2 (by omega) ra2 e2 (by unfold k_rq; omega) hnv (fun j hj => ⟨rfl, w1 j hj⟩) (Nat.le_of_lt hil) hq2 h62' hu hsc2 ha2 hl1 hb2) (fun hc h3 hh3 => ?_) (fun hc h3 hh3 => ?_)
          · obtain ⟨h4, e4, k4, s4, r4⟩ := hh3
            subst e4
            refine z_iconst (v := nI 1) d_Rw_step_68 (by decide) ?_
            refine z_ireturn d_Rw_step_69 rfl rfl ?_
            have hd := RwN.done hab2 h12 hfr2 h62' ha2 hR2 k4 s4 r4 (p_wf_rl w2 hn hc)
            rw [eg] at hd hc
            exact Or.inl ⟨hc, rfl, hd.1, kf.tr hd.2⟩
          · rw [eg] at hc
            obtain ⟨h4, e4, k4, s4⟩ := RwN.fail hab2 hq2 h12 hfr2 h62' ha2 hx2 hR2 hh3
            exact Or.inr ⟨hc, rfl, h4, e4, k4, kf.tr s4⟩
      · rcases hh with ⟨-, f2, -⟩ | ⟨k', R, g0, -, -, -, f2, -⟩ <;> cases f2
    refine z_iload_n d_Rw_step_2 rfl rfl ?_
    refine z_aload_n d_Rw_step_3 rfl rfl ?_
    refine z_getf (L_Rw_24K HG) (by decide) (L_Rw_24 HG) d_Rw_step_4 hq (by rfl) ?_
    refine z_getf (L_Rw_66K HG) (by decide) (L_Rw_66 HG) d_Rw_step_7 ha.1 (by rfl) ?_
    refine z_icmp_ge (tgt := 76) d_Rw_step_10 rfl (fun c1 => ?_) (fun c1 => ?_)
    · rw [nI_leI (by omega) (by omega)] at c1
      omega
    · refine z_aload_n d_Rw_step_13 rfl rfl ?_
      refine z_getf (L_Rw_24K HG) (by decide) (L_Rw_24 HG) d_Rw_step_14 hq (by rfl) ?_
      refine z_iload_n d_Rw_step_17 rfl rfl ?_
      refine z_callV1r (dY := d) d_Rw_step_18 rfl (by omega) (Y_Rw_69 HG) ha.1 (cl_Row HG) (Nat.le_of_ble_eq_true rfl) (c_Row_at HG ha hx40 (nI i)) ?_
      have hv := hx.lt hil
      rw [k_at_in fx hil hx40, hx.eq hil]
      refine z_iconst (v := nI 2) d_Rw_step_21 (by decide) ?_
      refine z_icmp_ne (tgt := 46) d_Rw_step_22 rfl (fun c2 => ?_) (fun c2 => ?_)
      · rw [nI_eq (by omega) (by omega)] at c2
        exact sec (fun hh => c2 ((l_g? hil).mp hh.1))
      · rw [nI_eq (by omega) (by omega)] at c2
        have hx2 := (l_g? hil).mpr c2
        refine z_aload_n d_Rw_step_25 rfl rfl ?_
        refine z_getf (L_Rw_24K HG) (by decide) (L_Rw_24 HG) d_Rw_step_26 hq (by rfl) ?_
        refine z_iload_n d_Rw_step_29 rfl rfl ?_
        refine z_iconst (v := nI 1) d_Rw_step_30 (by decide) ?_
        refine z_iadd d_Rw_step_31 ?_
        rw [nI_add]
        refine z_callV1r (dY := d) d_Rw_step_32 rfl (by omega) (Y_Rw_69 HG) ha.1 (cl_Row HG) (Nat.le_of_ble_eq_true rfl) (c_Row_at HG ha hx40 (nI (i + 1))) ?_
        refine z_iconst (v := nI 3) d_Rw_step_35 (by decide) ?_
        by_cases hil2 : i + 1 < x.length
        · have hv2 := hx.lt hil2
          rw [k_at_in fx hil2 hx40, hx.eq hil2]
          refine z_icmp_ne (tgt := 46) d_Rw_step_36 rfl (fun c3 => ?_) (fun c3 => ?_)
          · rw [nI_eq (by omega) (by omega)] at c3
            exact sec (fun hh => c3 ((l_g? hil2).mp hh.2))
          · rw [nI_eq (by omega) (by omega)] at c3
            have hx3 := (l_g? hil2).mpr c3
            have eh : p_here Rs x i = some (p_beta x i) := by
              unfold p_here
              rw [if_pos ⟨hx2, hx3⟩]
            rw [eh]
            refine z_aload_n d_Rw_step_39 rfl rfl ?_
            refine z_iload_n d_Rw_step_40 rfl rfl ?_
            refine z_callV1e (dY := d + 3) d_Rw_step_41 rfl (by omega) (Y_Rw_73 HG) hq (cl_Rw HG) (Nat.le_of_ble_eq_true rfl) (c2_doLambda HG hrm hx ra rb e (by omega) hq hsc ha hb) (fun hc h3 hh3 => ?_) (fun hc h3 hh3 => ?_)
            · obtain ⟨h4, e4, k4, s4, r4⟩ := hh3
              subst e4
              refine z_iconst (v := nI 1) d_Rw_step_44 (by decide) ?_
              refine z_ireturn d_Rw_step_45 rfl rfl ?_
              have hd := RwN.done hab h1 hfr h6 ha hR k4 s4 r4 (p_wf_rl (p_wf_beta hw hx2 hx3) hn hc)
              exact Or.inl ⟨hc, rfl, hd.1, hd.2⟩
            · obtain ⟨h4, e4, k4, s4⟩ := RwN.fail hab hq h1 hfr h6 ha hx hR hh3
              exact Or.inr ⟨hc, rfl, h4, e4, k4, s4⟩
        · rw [k_at_out fx (by omega) (by omega)]
          refine z_icmp_ne (tgt := 46) d_Rw_step_36 rfl (fun c3 => ?_) (fun c3 => absurd c3 (nI_m1 (by omega)))
          exact sec (fun hh => absurd (l_gi hh.2) hil2)
theorem c_Rw_step (HG : z_ok G) (hn : n ≤ 4) (hw : p_wf n [0] x) (hok : p_rsok Rs) {h : z_H} (hrm : z_rm G h) (H : RwN G h q Rs x) : z_C G m_Rw_step (d + 4) [.ref q] h (st_post G q Rs x h (p_step Rs x)) := by
  refine z_C.of (Nat.le_of_ble_eq_true rfl) ?_
  refine z_iconst (v := nI 0) d_Rw_step_0 (by decide) ?_
  refine z_istore_n d_Rw_step_1 rfl (by decide) ?_
  refine z_fg [(0, .ref q), (1, .int (nI 0))] ⟨rfl, rfl, trivial⟩ ?_
  exact l_step HG hn hw hok x.length 0 h (by omega) hrm H
end SP
end
section
/-! Rewriter.normalize, addRule -/
theorem k_fq.in {q : Nat} {h h' : z_H} (k : k_fq q h h') {y : Nat} (hy : y < q ∨ q + 10 < y) : h'.2.2 y = h.2.2 y := k.2.2 y hy
/-- a row beside the Rewriter and its rules -/
def k_out (q r : Nat) : Prop := r + 1 < q ∨ q + 50 < r
theorem RwN.keep {G : z_G} {h h' : z_H} {q : Nat} {Rs : List (List Nat × List Nat × Nat)} {x : List Nat} (H : RwN G h q Rs x) (k : ∀ y, q ≤ y ∧ y ≤ q + 50 → h'.2.2 y = h.2.2 y) : RwN G h' q Rs x := by
  obtain ⟨a, b, nb, fx, fb, g0, fr, hab, h1, h2, h3, h4, ⟨⟨n7, g7, h7⟩, n9, g9, h9⟩, h6, h8, h10, h11⟩ := H
  refine ⟨a, b, nb, fx, fb, g0, fr, hab, (k _ (by omega)).trans h1, (k _ (by omega)).trans h2, h3, (k _ (by omega)).trans h4, ⟨⟨n7, g7, (k _ (by omega)).trans h7.1, (k _ (by omega)).trans h7.2⟩, n9, g9, (k _ (by omega)).trans h9.1, (k _ (by omega)).trans h9.2⟩, ⟨(k _ (by omega)).trans h6.1, (k _ (by omega)).trans h6.2⟩, h8, ⟨(k _ (by omega)).trans h10.1, (k _ (by omega)).trans h10.2⟩, h11.1, fun j R hj => ⟨(h11.2 j R hj).1, ?_⟩⟩
  have hj8 := l_gi' hj
  have h8 := h11.1
  obtain ⟨e1, ⟨f, e2, e3⟩, f', e4, e5⟩ := (h11.2 j R hj).2
  unfold k_rq at *
  exact ⟨(k _ (by omega)).trans e1, ⟨f, ⟨(k _ (by omega)).trans e2.1, (k _ (by omega)).trans e2.2⟩, e3⟩, f', ⟨(k _ (by omega)).trans e4.1, (k _ (by omega)).trans e4.2⟩, e5⟩
theorem RwN.rset {G : z_G} {h : z_H} {q r n : Nat} {f : Nat → Int32} {Rs : List (List Nat × List Nat × Nat)} {x : List Nat} (H : RwN G h q Rs x) (hr : k_out q r) : RwN G (rset G h r n f) q Rs x := by
  unfold k_out at hr
  exact H.keep (fun y hy => rset_ne G h n f (by omega) (by omega))
section NM
variable {G : z_G} {d q n r nr s : Nat} {fs fr : Nat → Int32} {x : List Nat} {Rs : List (List Nat × List Nat × Nat)}
def nm_post (G : z_G) (q : Nat) (Rs : List (List Nat × List Nat × Nat)) (r : Nat) (fr : Nat → Int32) (k : Nat) (h : z_H) : Option (Nat × List Nat) → z_R → z_H → Prop
  | some z, o, h' => o = .inl (some (.int (nI (k + z.1)))) ∧ ∃ x' h1, h' = rset G h1 r z.2.length (k_app fr 0 z.2) ∧ RwN G h1 q Rs x' ∧ k_fq q h h1
  | none, o, h' => o = .inr z_AE ∧ ∃ x' h1, h' = z_exc h1 ∧ RwN G h1 q Rs x' ∧ k_fq q h h1
theorem l_norm (HG : z_ok G) (hn : n ≤ 4) (hok : p_rsok Rs) (ho : k_out q r) : ∀ (c k : Nat) (x : List Nat) (h : z_H), k + c = 51 → p_wf n [0] x → z_rm G h → RwN G h q Rs x → rowAt G h r nr fr →
    z_V G m_Rw_normalize (d + 5) 10 [(0, .ref q), (2, .ref r), (3, .int (nI k))] [] h (nm_post G q Rs r fr k h (p_norm Rs c x)) := by
  unfold k_out at ho
  intro c
  induction c with
  | zero =>
    intro k x h hk hw hrm H hr
    refine z_iload_n d_Rw_normalize_10 rfl rfl ?_
    refine z_bipush (v := nI 50) d_Rw_normalize_11 (by decide +kernel) ?_
    refine z_icmp_gt (tgt := 39) d_Rw_normalize_13 rfl (fun c1 => ?_) (fun c1 => ?_)
    · exact z_throw d_Rw_normalize_39 d_Rw_normalize_42 d_Rw_normalize_43 d_Rw_normalize_46 rfl (by decide +kernel) (t_Rw_63 HG) hrm.1 hrm.2 (by decide) ⟨rfl, x, h, rfl, H, k_fq.rf⟩
    · rw [nI_ltI (by omega) (by omega)] at c1
      omega
  | succ c ih =>
    intro k x h hk hw hrm H hr
    obtain ⟨a, b, nb, fx, fb, g, fr', hab, hq, h1, hfr, h6, hsc, ha, hx, hb, hR⟩ := id H
    refine z_iload_n d_Rw_normalize_10 rfl rfl ?_
    refine z_bipush (v := nI 50) d_Rw_normalize_11 (by decide +kernel) ?_
    refine z_icmp_gt (tgt := 39) d_Rw_normalize_13 rfl (fun c1 => ?_) (fun c1 => ?_)
    · rw [nI_ltI (by omega) (by omega)] at c1
      omega
    · refine z_aload_n d_Rw_normalize_16 rfl rfl ?_
      have ep : p_norm Rs (c + 1) x = match p_step Rs x with
        | none => some (0, x)
        | some y => if y.length ≤ 40 then (p_norm Rs c y).map (fun z => (z.1 + 1, z.2)) else none := rfl
      rw [ep]
      refine z_callV (as := []) (dY := d + 4) d_Rw_normalize_17 rfl (by omega) (Y_Rw_59 HG) rfl hq (cl_Rw HG) (Nat.le_of_ble_eq_true rfl) (c_Rw_step HG hn hw hok hrm H) (fun v h' hh => ?_) (fun X h' hh => ?_)
      · cases hs : p_step Rs x with
        | none =>
          rw [hs] at hh
          obtain ⟨e1, H2, kf⟩ := hh
          cases e1
          refine z_if_ne (tgt := 33) d_Rw_normalize_20 rfl (fun c2 => absurd nI_0 c2) (fun c2 => ?_)
          obtain ⟨a2, b2, nb2, fx2, fb2, g2, fr2, hab2, hq2, h12, hfr2, h62, hsc2, ha2, hx2, hb2, hR2⟩ := id H2
          have hr2 := kf.row (by omega) hr
          refine z_aload_n d_Rw_normalize_23 rfl rfl ?_
          refine z_aload_n d_Rw_normalize_24 rfl rfl ?_
          refine z_getf (L_Rw_24K HG) (by decide) (L_Rw_24 HG) d_Rw_normalize_25 hq2 (by rfl) ?_
          refine z_callV1v (dY := d) d_Rw_normalize_28 rfl (by omega) (Y_Rw_49 HG) hr2.1 (cl_Row HG) (Nat.le_of_ble_eq_true rfl) (c_Row_copy HG hr2 ha2 hx2 (by omega) (by omega) (by omega)) ?_
          refine z_iload_n d_Rw_normalize_31 rfl rfl ?_
          exact z_ireturn d_Rw_normalize_32 rfl rfl ⟨rfl, x, h', rfl, H2, kf⟩
        | some y =>
          rw [hs] at hh
          rcases hh with ⟨a1, a2, H2, kf⟩ | ⟨a1, a2, -⟩
          · cases a2
            refine z_if_ne (tgt := 33) d_Rw_normalize_20 rfl (fun c2 => ?_) (fun c2 => absurd c2 (by decide))
            refine z_iinc (v := nI (k + 1)) d_Rw_normalize_33 rfl (i_inc k) (by decide) ?_
            refine z_goto (tgt := 10) d_Rw_normalize_36 rfl ?_
            refine z_fg [(0, .ref q), (2, .ref r), (3, .int (nI (k + 1)))] ⟨rfl, rfl, rfl, trivial⟩ ?_
            refine (ih (k + 1) y h' (by omega) (p_step_wf hw hok hs) (kf.rm hrm) H2 (kf.row (by omega) hr)).mono (fun o h2 hh => ?_)
            simp only []
            rw [if_pos a1]
            cases hz : p_norm Rs c y with
            | none =>
              rw [hz] at hh
              obtain ⟨e1, x', h3, e2, e3, e4⟩ := hh
              exact ⟨e1, x', h3, e2, e3, kf.tr e4⟩
            | some z =>
              rw [hz] at hh
              obtain ⟨e1, x', h3, e2, e3, e4⟩ := hh
              rw [Nat.add_right_comm] at e1
              exact ⟨e1, x', h3, e2, e3, kf.tr e4⟩
          · cases a2
      · cases hs : p_step Rs x with
        | none =>
          rw [hs] at hh
          cases hh.1
        | some y =>
          rw [hs] at hh
          rcases hh with ⟨a1, a2, -⟩ | ⟨a1, a2, h3, a3, a4, a5⟩
          · cases a2
          · cases a2
            simp only []
            rw [if_neg a1]
            exact ⟨rfl, x, h3, a3, a4, a5⟩
theorem c_Rw_normalize (HG : z_ok G) (hn : n ≤ 4) (hok : p_rsok Rs) {x0 : List Nat} {h : z_H} (ho : k_out q r) (hso : k_out q s) (hrm : z_rm G h) (H : RwN G h q Rs x0) (hw : p_wf n [0] x) (hs : rowAt G h s x.length fs) (hls : rl fs x) (hr : rowAt G h r nr fr) :
    z_C G m_Rw_normalize (d + 5) [.ref q, .ref s, .ref r] h (nm_post G q Rs r fr 0 h (p_norm Rs 51 x)) := by
  obtain ⟨a, b, nb, fx, fb, g, fr', hab, hq, h1, hfr, h6, hsc, ha, hx, hb, hR⟩ := id H
  have hso' := hso
  have ho' := ho
  unfold k_out at hso' ho'
  have hl := hls.len
  refine z_C.of (Nat.le_of_ble_eq_true rfl) ?_
  refine z_aload_n d_Rw_normalize_0 rfl rfl ?_
  refine z_getf (L_Rw_24K HG) (by decide) (L_Rw_24 HG) d_Rw_normalize_1 hq (by rfl) ?_
  refine z_aload_n d_Rw_normalize_4 rfl rfl ?_
  refine z_callV1v (dY := d) d_Rw_normalize_5 rfl (by omega) (Y_Rw_49 HG) ha.1 (cl_Row HG) (Nat.le_of_ble_eq_true rfl) (c_Row_copy HG ha hs hls (by omega) (by omega) (by omega)) ?_
  refine z_iconst (v := nI 0) d_Rw_normalize_8 (by decide) ?_
  refine z_istore_n d_Rw_normalize_9 rfl (by decide) ?_
  refine z_fg [(0, .ref q), (2, .ref r), (3, .int (nI 0))] ⟨rfl, rfl, rfl, trivial⟩ ?_
  have rb : k_rr q a := by unfold k_rr; omega
  have rb2 : k_rr q b := by unfold k_rr; omega
  have e : k_ne b a := by unfold k_ne; omega
  have kfr : k_fr q a h (rset G h a x.length (k_app fx 0 x)) := k_fr.rset
  have kf : k_fq q h (rset G h a x.length (k_app fx 0 x)) := kfr.fq (by omega)
  have H2 : RwN G (rset G h a x.length (k_app fx 0 x)) q Rs x :=
    ⟨a, b, nb, k_app fx 0 x, fb, g, fr', hab, kfr.rw rb hq, (kfr.2.2 (q + 1) (by omega) (by omega) (by omega)).trans h1, hfr, (kfr.2.2 (q + 6) (by omega) (by omega) (by omega)).trans h6, hsc.rset rb, rset_at .., p_wf_rl hw hn hl, kfr.row rb2 e hb, hR.fq kf⟩
  refine (l_norm HG hn hok ho 51 0 x _ rfl hw (kf.rm hrm) H2 (kf.row (by omega) hr)).mono (fun o h' hh => ?_)
  cases hz : p_norm Rs 51 x with
  | none =>
    rw [hz] at hh
    obtain ⟨e1, x', h3, e2, e3, e4⟩ := hh
    exact ⟨e1, x', h3, e2, e3, kf.tr e4⟩
  | some z =>
    rw [hz] at hh
    obtain ⟨e1, x', h3, e2, e3, e4⟩ := hh
    exact ⟨e1, x', h3, e2, e3, kf.tr e4⟩
end NM
end
section
/-! Rewriter.addRule -/
/-- all eight rules' objects, used or not -/
def ruAll (G : z_G) (h : z_H) (q : Nat) : Prop := ∀ k, k < 8 → ∃ nv nl nr fl fr, h.2.2 (k_rq q k) = some (k_ru (k_rq q k) nv) ∧ rowAt G h (k_rq q k + 1) nl fl ∧ rowAt G h (k_rq q k + 3) nr fr
theorem ruAll.fq {G : z_G} {h h1 : z_H} {q : Nat} (H : ruAll G h q) (k : k_fq q h h1) : ruAll G h1 q := by
  intro j hj
  obtain ⟨nv, nl, nr, fl, fr, e1, e2, e3⟩ := H j hj
  unfold k_rq at *
  exact ⟨nv, nl, nr, fl, fr, (k.2.2 _ (by omega)).trans e1, k.row (by omega) e2, k.row (by omega) e3⟩
theorem ruAll.keep {G : z_G} {h h1 : z_H} {q : Nat} (H : ruAll G h q) (k : ∀ y, q + 10 < y ∧ y ≤ q + 50 → h1.2.2 y = h.2.2 y) : ruAll G h1 q := by
  intro j hj
  obtain ⟨nv, nl, nr, fl, fr, e1, e2, e3⟩ := H j hj
  unfold k_rq at *
  exact ⟨nv, nl, nr, fl, fr, (k _ (by omega)).trans e1, ⟨(k _ (by omega)).trans e2.1, (k _ (by omega)).trans e2.2⟩, ⟨(k _ (by omega)).trans e3.1, (k _ (by omega)).trans e3.2⟩⟩
theorem rset_out {G : z_G} {h : z_H} {r n y : Nat} {f : Nat → Int32} (hy : y < r ∨ r + 1 < y) : (rset G h r n f).2.2 y = h.2.2 y := rset_ne G h n f (by omega) (by omega)
section AR
variable {G : z_G} {d q s t nv : Nat} {fs ft : Nat → Int32} {x ll lr : List Nat} {Rs : List (List Nat × List Nat × Nat)} {h : z_H}
theorem c_Rw_addRule (HG : z_ok G) (hRl : Rs.length < 8) (hnv : nv ≤ 4) (H : RwN G h q Rs x) (HA : ruAll G h q) (so : k_out q s) (to : k_out q t) (hs : rowAt G h s ll.length fs) (hls : rl fs ll) (ht : rowAt G h t lr.length ft) (hlt : rl ft lr) (hll : ∀ f, rl (k_app f 0 ll) ll) (hlr : ∀ f, rl (k_app f 0 lr) lr) :
    z_C G m_Rw_addRule (d + 1) [.ref q, .ref s, .ref t, .int (nI nv)] h (z_pq none (fun h' => RwN G h' q (Rs ++ [(ll, lr, nv)]) x ∧ ruAll G h' q ∧ h'.1 = h.1 ∧ h'.2.1 = h.2.1 ∧ ∀ y, y < q ∨ q + 50 < y → h'.2.2 y = h.2.2 y)) := by
  obtain ⟨a, b, nb, fx, fb, g, fr', hab, hq, h1, hfr, h6, hsc, ha, hx, hb, hR⟩ := id H
  have hso' := so
  have hto' := to
  unfold k_out at hso' hto'
  obtain ⟨nv0, nl, nr, fl, fr, e1, e2, e3⟩ := HA Rs.length hRl
  generalize hu : k_rq q Rs.length = u at e1 e2 e3
  have hu1 : q + 10 < u ∧ u + 4 ≤ q + 50 := by
    rw [← hu]
    unfold k_rq
    omega
  refine z_C.of (Nat.le_of_ble_eq_true rfl) ?_
  refine z_aload_n d_Rw_addRule_0 rfl rfl ?_
  refine z_getf (L_Rw_11K HG) (by decide) (L_Rw_11 HG) d_Rw_addRule_1 hq (by rfl) ?_
  refine z_aload_n d_Rw_addRule_4 rfl rfl ?_
  refine z_getf (L_Rw_17K HG) (by decide) (L_Rw_17 HG) d_Rw_addRule_5 hq (by rfl) ?_
  refine z_aald (x := u) d_Rw_addRule_8 (ty5 HG) h1 (pk_in Rs.length 8 hRl) (by rw [nI_clamp (by omega), ← hu]; exact hfr _ hRl) ?_
  refine z_astore d_Rw_addRule_9 (by decide) ?_
  refine z_aload d_Rw_addRule_11 rfl ?_
  refine z_getf (L_Rw_46K HG) (by decide) (L_Rw_46 HG) d_Rw_addRule_13 e1 (by rfl) ?_
  refine z_aload_n d_Rw_addRule_16 rfl rfl ?_
  refine z_callV1v (dY := d) d_Rw_addRule_17 rfl (by omega) (Y_Rw_49 HG) e2.1 (cl_Row HG) (Nat.le_of_ble_eq_true rfl) (c_Row_copy HG e2 hs hls (by omega) (by omega) (by omega)) ?_
  generalize hh1 : rset G h (u + 1) ll.length (k_app fl 0 ll) = h1'
  have k1 : ∀ y, y < u + 1 ∨ u + 2 < y → h1'.2.2 y = h.2.2 y := by
    subst hh1
    exact fun y hy => rset_out (by omega)
  have k1a : h1'.1 = h.1 ∧ h1'.2.1 = h.2.1 := by
    subst hh1
    exact ⟨rfl, rfl⟩
  have k1r : rowAt G h1' (u + 1) ll.length (k_app fl 0 ll) := by
    subst hh1
    exact rset_at ..
  clear hh1
  refine z_aload d_Rw_addRule_20 rfl ?_
  refine z_getf (L_Rw_53K HG) (by decide) (L_Rw_53 HG) d_Rw_addRule_22 ((k1 u (by omega)).trans e1) (by rfl) ?_
  refine z_aload_n d_Rw_addRule_25 rfl rfl ?_
  have e3' : rowAt G h1' (u + 3) nr fr := ⟨(k1 _ (by omega)).trans e3.1, (k1 _ (by omega)).trans e3.2⟩
  have ht' : rowAt G h1' t lr.length ft := ⟨(k1 _ (by omega)).trans ht.1, (k1 _ (by omega)).trans ht.2⟩
  refine z_callV1v (dY := d) d_Rw_addRule_26 rfl (by omega) (Y_Rw_49 HG) e3'.1 (cl_Row HG) (Nat.le_of_ble_eq_true rfl) (c_Row_copy HG e3' ht' hlt (by omega) (by omega) (by omega)) ?_
  generalize hh2 : rset G h1' (u + 3) lr.length (k_app fr 0 lr) = h2'
  have k2 : ∀ y, y < u + 1 ∨ u + 4 < y → h2'.2.2 y = h.2.2 y := by
    subst hh2
    exact fun y hy => (rset_out (by omega)).trans (k1 y (by omega))
  have k2a : h2'.1 = h.1 ∧ h2'.2.1 = h.2.1 := by
    subst hh2
    exact k1a
  have k2l : rowAt G h2' (u + 1) ll.length (k_app fl 0 ll) := by
    subst hh2
    exact rset_row _ _ k1r (by omega) (by omega) (by omega)
  have k2r : rowAt G h2' (u + 3) lr.length (k_app fr 0 lr) := by
    subst hh2
    exact rset_at ..
  clear hh2
  refine z_aload d_Rw_addRule_29 rfl ?_
  refine z_iload_n d_Rw_addRule_31 rfl rfl ?_
  refine z_putf (L_Rw_56K HG) (by decide) (L_Rw_56 HG) rfl d_Rw_addRule_32 ((k2 u (by omega)).trans e1) rfl rfl (Nat.le_of_ble_eq_true rfl) ?_
  show z_V G m_Rw_addRule (d + 1) 35 _ _ (z_set h2' u (k_ru u nv)) _
  have hq3 : (z_set h2' u (k_ru u nv)).2.2 q = some (k_rw q Rs.length a b) := (z_set_ne _ _ (by omega)).trans ((k2 q (by omega)).trans hq)
  refine z_aload_n d_Rw_addRule_35 rfl rfl ?_
  refine z_dup d_Rw_addRule_36 rfl ?_
  refine z_getf (L_Rw_17K HG) (by decide) (L_Rw_17 HG) d_Rw_addRule_37 hq3 (by rfl) ?_
  refine z_iconst (v := nI 1) d_Rw_addRule_40 (by decide) ?_
  refine z_iadd d_Rw_addRule_41 ?_
  rw [nI_add]
  refine z_putf (L_Rw_17K HG) (by decide) (L_Rw_17 HG) rfl d_Rw_addRule_42 hq3 rfl rfl (Nat.le_of_ble_eq_true rfl) ?_
  show z_V G m_Rw_addRule (d + 1) 45 _ _ (z_set (z_set h2' u (k_ru u nv)) q (k_rw q (Rs.length + 1) a b)) _
  have k4 : ∀ y, y ≠ q → (y < u ∨ u + 4 < y) → (z_set (z_set h2' u (k_ru u nv)) q (k_rw q (Rs.length + 1) a b)).2.2 y = h.2.2 y := fun y n1 n2 => (z_set_ne _ _ n1).trans ((z_set_ne _ _ (by omega)).trans (k2 y (by omega)))
  have k4q := z_set_at (z_set h2' u (k_ru u nv)) q (k_rw q (Rs.length + 1) a b)
  have k4u : (z_set (z_set h2' u (k_ru u nv)) q (k_rw q (Rs.length + 1) a b)).2.2 u = some (k_ru u nv) := (z_set_ne _ _ (by omega)).trans (z_set_at ..)
  have k4l : rowAt G (z_set (z_set h2' u (k_ru u nv)) q (k_rw q (Rs.length + 1) a b)) (u + 1) ll.length (k_app fl 0 ll) := z_set_row _ (z_set_row _ k2l (by omega) (by omega)) (by omega) (by omega)
  have k4r : rowAt G (z_set (z_set h2' u (k_ru u nv)) q (k_rw q (Rs.length + 1) a b)) (u + 3) lr.length (k_app fr 0 lr) := z_set_row _ (z_set_row _ k2r (by omega) (by omega)) (by omega) (by omega)
  have k4a : (z_set (z_set h2' u (k_ru u nv)) q (k_rw q (Rs.length + 1) a b)).1 = h.1 ∧ (z_set (z_set h2' u (k_ru u nv)) q (k_rw q (Rs.length + 1) a b)).2.1 = h.2.1 := k2a
  refine z_return d_Rw_addRule_45 rfl ?_
  generalize z_set (z_set h2' u (k_ru u nv)) q (k_rw q (Rs.length + 1) a b) = h4 at k4 k4q k4u k4l k4r k4a
  obtain ⟨⟨n7, g7, h7⟩, n9, g9, h9⟩ := hsc
  refine ⟨rfl, ⟨a, b, nb, fx, fb, g, fr', hab, ?_, (k4 _ (by omega) (by omega)).trans h1, hfr, (k4 _ (by omega) (by omega)).trans h6, ⟨⟨n7, g7, (k4 _ (by omega) (by omega)).trans h7.1, (k4 _ (by omega) (by omega)).trans h7.2⟩, n9, g9, (k4 _ (by omega) (by omega)).trans h9.1, (k4 _ (by omega) (by omega)).trans h9.2⟩, ⟨(k4 _ (by omega) (by omega)).trans ha.1, (k4 _ (by omega) (by omega)).trans ha.2⟩, hx, ⟨(k4 _ (by omega) (by omega)).trans hb.1, (k4 _ (by omega) (by omega)).trans hb.2⟩, ?_, ?_⟩, ?_, k4a.1, k4a.2, fun y hy => k4 y (by omega) (by omega)⟩
  · rw [List.length_append]
    exact k4q
  · rw [List.length_append]
    exact hRl
  · intro j R hj
    by_cases hjl : j < Rs.length
    · rw [List.getElem?_append_left hjl] at hj
      obtain ⟨f1, f2, ⟨f, f3, f4⟩, f', f5, f6⟩ := hR.2 j R hj
      have hne : k_rq q j + 4 < u ∧ q + 10 < k_rq q j := by
        rw [← hu]
        unfold k_rq
        omega
      generalize k_rq q j = w at *
      exact ⟨f1, (k4 _ (by omega) (by omega)).trans f2, ⟨f, ⟨(k4 _ (by omega) (by omega)).trans f3.1, (k4 _ (by omega) (by omega)).trans f3.2⟩, f4⟩, f', ⟨(k4 _ (by omega) (by omega)).trans f5.1, (k4 _ (by omega) (by omega)).trans f5.2⟩, f6⟩
    · have hj1 := l_gi' hj
      rw [List.length_append, List.length_singleton] at hj1
      have hje : j = Rs.length := by omega
      subst hje
      rw [List.getElem?_append_right (Nat.le_refl _), Nat.sub_self] at hj
      cases hj
      rw [hu]
      exact ⟨hnv, k4u, ⟨_, k4l, hll fl⟩, _, k4r, hlr fr⟩
  · intro j hj
    by_cases hje : j = Rs.length
    · subst hje
      rw [hu]
      exact ⟨_, _, _, _, _, k4u, k4l, k4r⟩
    · obtain ⟨nv', nl', nr', fl', fr'', f1, f2, f3⟩ := HA j hj
      have hne : (k_rq q j + 4 < u ∨ u + 4 < k_rq q j) ∧ q + 10 < k_rq q j := by
        rw [← hu]
        unfold k_rq
        omega
      generalize k_rq q j = w at *
      exact ⟨nv', nl', nr', fl', fr'', (k4 _ (by omega) (by omega)).trans f1, ⟨(k4 _ (by omega) (by omega)).trans f2.1, (k4 _ (by omega) (by omega)).trans f2.2⟩, ⟨(k4 _ (by omega) (by omega)).trans f3.1, (k4 _ (by omega) (by omega)).trans f3.2⟩⟩
end AR
end
section
/-! the kernel's state: judgements (entries, term, type) and entries latest first, constants and rules oldest first -/
abbrev pJ : Type := Nat × List Nat × List Nat
abbrev pR : Type := List Nat × List Nat × Nat
abbrev pK : Type := List pJ × List (List Nat) × List (List Nat × Bool) × List pR
/-- the row at r; where a list is given, it holds it -/
def rowL (G : z_G) (h : z_H) (r : Nat) (o : Option (List Nat)) : Prop := ∃ n f, rowAt G h r n f ∧ ∀ l, o = some l → n = l.length ∧ rl f l
theorem rowL.any {G : z_G} {h : z_H} {r : Nat} {o : Option (List Nat)} (H : rowL G h r o) : rowL G h r none := by
  obtain ⟨n, f, h1, -⟩ := H
  exact ⟨n, f, h1, fun l e => by cases e⟩
theorem rowL.get {G : z_G} {h : z_H} {r : Nat} {l : List Nat} (H : rowL G h r (some l)) : ∃ f, rowAt G h r l.length f ∧ rl f l := by
  obtain ⟨n, f, h1, h2⟩ := H
  obtain ⟨e, h3⟩ := h2 l rfl
  subst e
  exact ⟨f, h1, h3⟩
theorem rowL.mk {G : z_G} {h : z_H} {r : Nat} {f : Nat → Int32} {l : List Nat} (h1 : rowAt G h r l.length f) (h2 : rl f l) : rowL G h r (some l) := ⟨_, f, h1, fun l' e => by cases e; exact ⟨rfl, h2⟩⟩
theorem rowL.keep {G : z_G} {h h' : z_H} {r : Nat} {o : Option (List Nat)} (H : rowL G h r o) (k1 : h'.2.2 r = h.2.2 r) (k2 : h'.2.2 (r + 1) = h.2.2 (r + 1)) : rowL G h' r o := by
  obtain ⟨n, f, h1, h2⟩ := H
  exact ⟨n, f, ⟨k1.trans h1.1, k2.trans h1.2⟩, h2⟩
def k_jd (u e : Nat) : va_E := .inr (1, [.ref (u + 1), .ref (u + 3), .int (nI e)])
def jdAt (G : z_G) (h : z_H) (u : Nat) (o : Option pJ) : Prop := (∃ e, h.2.2 u = some (k_jd u e) ∧ ∀ J, o = some J → e = J.1) ∧ rowL G h (u + 1) (o.map (·.2.1)) ∧ rowL G h (u + 3) (o.map (·.2.2))
theorem jdAt.any {G : z_G} {h : z_H} {u : Nat} {o : Option pJ} (H : jdAt G h u o) : jdAt G h u none := by
  obtain ⟨⟨e, h1, -⟩, h2, h3⟩ := H
  exact ⟨⟨e, h1, fun J e => by cases e⟩, h2.any, h3.any⟩
theorem jdAt.ob {G : z_G} {h : z_H} {u : Nat} {J : pJ} (H : jdAt G h u (some J)) : h.2.2 u = some (k_jd u J.1) := by
  obtain ⟨⟨e, h1, h2⟩, -⟩ := H
  rw [← h2 J rfl]
  exact h1
theorem jdAt.keep {G : z_G} {h h' : z_H} {u : Nat} {o : Option pJ} (H : jdAt G h u o) (k : ∀ y, u ≤ y ∧ y ≤ u + 4 → h'.2.2 y = h.2.2 y) : jdAt G h' u o := by
  obtain ⟨⟨e, h1, h1'⟩, h2, h3⟩ := H
  exact ⟨⟨e, (k u (by omega)).trans h1, h1'⟩, h2.keep (k _ (by omega)) (k _ (by omega)), h3.keep (k _ (by omega)) (k _ (by omega))⟩
abbrev k_ju (o k : Nat) : Nat := o + 64 + 5 * k
abbrev k_cu (o k : Nat) : Nat := o + 94 + 2 * k
abbrev k_ku (o k : Nat) : Nat := o + 102 + 2 * k
def jsAt (G : z_G) (h : z_H) (o : Nat) (js : List pJ) : Prop := js.length ≤ 6 ∧ ∀ k, k < 6 → jdAt G h (k_ju o k) js.reverse[k]?
def csAt (G : z_G) (h : z_H) (o : Nat) (cs : List (List Nat)) : Prop := cs.length ≤ 4 ∧ ∀ k, k < 4 → rowL G h (k_cu o k) cs.reverse[k]?
def ksAt (G : z_G) (h : z_H) (o : Nat) (ks : List (List Nat × Bool)) : Prop := (ks.length ≤ 8 ∧ ∀ k, k < 8 → rowL G h (k_ku o k) (ks[k]?.map (·.1))) ∧ ∃ fd, h.2.2 (o + 4) = some (.inl (G.ca 2, 8, .inl fd)) ∧ ∀ k c, ks[k]? = some c → fd k = if c.2 = true then nI 1 else nI 0
theorem jsAt.keep {G : z_G} {h h' : z_H} {o : Nat} {js : List pJ} (H : jsAt G h o js) (k : ∀ y, o + 64 ≤ y ∧ y ≤ o + 93 → h'.2.2 y = h.2.2 y) : jsAt G h' o js :=
  ⟨H.1, fun j hj => (H.2 j hj).keep (fun y hy => k y (by unfold k_ju at hy; omega))⟩
theorem csAt.keep {G : z_G} {h h' : z_H} {o : Nat} {cs : List (List Nat)} (H : csAt G h o cs) (k : ∀ y, o + 94 ≤ y ∧ y ≤ o + 101 → h'.2.2 y = h.2.2 y) : csAt G h' o cs :=
  ⟨H.1, fun j hj => (H.2 j hj).keep (k _ (by unfold k_cu; omega)) (k _ (by unfold k_cu; omega))⟩
theorem ksAt.keep {G : z_G} {h h' : z_H} {o : Nat} {ks : List (List Nat × Bool)} (H : ksAt G h o ks) (k4 : h'.2.2 (o + 4) = h.2.2 (o + 4)) (k : ∀ y, o + 102 ≤ y ∧ y ≤ o + 117 → h'.2.2 y = h.2.2 y) : ksAt G h' o ks := by
  obtain ⟨⟨h1, h2⟩, fd, h3, h4⟩ := H
  exact ⟨⟨h1, fun j hj => (h2 j hj).keep (k _ (by unfold k_ku; omega)) (k _ (by unfold k_ku; omega))⟩, fd, k4.trans h3, h4⟩
theorem l_rl {α : Type} {J : α} {js : List α} {k : Nat} (hk : k < js.length) : (J :: js).reverse[k]? = js.reverse[k]? := by
  rw [List.reverse_cons, List.getElem?_append_left (by rw [List.length_reverse]; exact hk)]
theorem l_rt {α : Type} {J : α} {js : List α} : (J :: js).reverse[js.length]? = some J := by
  rw [List.reverse_cons, List.getElem?_append_right (by rw [List.length_reverse]; exact Nat.le_refl _), List.length_reverse, Nat.sub_self]
  rfl
theorem l_rn {α : Type} {js : List α} {k : Nat} (hk : js.length ≤ k) : js.reverse[k]? = none := by
  rw [List.getElem?_eq_none (by rw [List.length_reverse]; exact hk)]
theorem jsAt.pop {G : z_G} {h : z_H} {o : Nat} {J : pJ} {js : List pJ} (H : jsAt G h o (J :: js)) : jsAt G h o js := by
  have h1 := H.1
  rw [List.length_cons] at h1
  refine ⟨by omega, fun k hk => ?_⟩
  have h2 := H.2 k hk
  by_cases hkl : k < js.length
  · rw [l_rl hkl] at h2
    exact h2
  · rw [l_rn (by omega)]
    exact h2.any
theorem jsAt.push {G : z_G} {h h' : z_H} {o : Nat} {J : pJ} {js : List pJ} (H : jsAt G h o js) (hl : js.length < 6) (k : ∀ y, o + 64 ≤ y ∧ y ≤ o + 93 → y < k_ju o js.length ∨ k_ju o js.length + 4 < y → h'.2.2 y = h.2.2 y) (HJ : jdAt G h' (k_ju o js.length) (some J)) : jsAt G h' o (J :: js) := by
  refine ⟨hl, fun j hj => ?_⟩
  by_cases h1 : j = js.length
  · subst h1
    rw [l_rt]
    exact HJ
  · have h2 := (H.2 j hj).keep (h' := h') (fun y hy => k y (by unfold k_ju at hy; omega) (by unfold k_ju at *; omega))
    by_cases h3 : j < js.length
    · rw [l_rl h3]
      exact h2
    · rw [List.getElem?_eq_none (by rw [List.length_reverse, List.length_cons]; omega)]
      exact h2.any
theorem jsAt.get {G : z_G} {h : z_H} {o k : Nat} {J : pJ} {js : List pJ} (H : jsAt G h o js) (hk : js[k]? = some J) : jdAt G h (k_ju o (js.length - 1 - k)) (some J) := by
  have hl := l_gi' hk
  have h6 := H.1
  have h2 := H.2 (js.length - 1 - k) (by omega)
  rw [List.getElem?_reverse (by omega)] at h2
  rw [show js.length - 1 - (js.length - 1 - k) = k by omega, hk] at h2
  exact h2
theorem csAt.pop {G : z_G} {h : z_H} {o : Nat} {c : List Nat} {cs : List (List Nat)} (H : csAt G h o (c :: cs)) : csAt G h o cs := by
  have h1 := H.1
  rw [List.length_cons] at h1
  refine ⟨by omega, fun k hk => ?_⟩
  have h2 := H.2 k hk
  by_cases hkl : k < cs.length
  · rw [l_rl hkl] at h2
    exact h2
  · rw [l_rn (by omega)]
    exact h2.any
theorem csAt.push {G : z_G} {h h' : z_H} {o : Nat} {c : List Nat} {cs : List (List Nat)} (H : csAt G h o cs) (hl : cs.length < 4) (k : ∀ y, o + 94 ≤ y ∧ y ≤ o + 101 → y < k_cu o cs.length ∨ k_cu o cs.length + 1 < y → h'.2.2 y = h.2.2 y) (HC : rowL G h' (k_cu o cs.length) (some c)) : csAt G h' o (c :: cs) := by
  refine ⟨hl, fun j hj => ?_⟩
  by_cases h1 : j = cs.length
  · subst h1
    rw [l_rt]
    exact HC
  · have h2 := (H.2 j hj).keep (h' := h') (k _ (by unfold k_cu; omega) (by unfold k_cu; omega)) (k _ (by unfold k_cu; omega) (by unfold k_cu; omega))
    by_cases h3 : j < cs.length
    · rw [l_rl h3]
      exact h2
    · rw [List.getElem?_eq_none (by rw [List.length_reverse, List.length_cons]; omega)]
      exact h2.any
theorem csAt.get {G : z_G} {h : z_H} {o k : Nat} {c : List Nat} {cs : List (List Nat)} (H : csAt G h o cs) (hk : cs[k]? = some c) : rowL G h (k_cu o (cs.length - 1 - k)) (some c) := by
  have hl := l_gi' hk
  have h6 := H.1
  have h2 := H.2 (cs.length - 1 - k) (by omega)
  rw [List.getElem?_reverse (by omega)] at h2
  rw [show cs.length - 1 - (cs.length - 1 - k) = k by omega, hk] at h2
  exact h2
theorem csAt.nil {G : z_G} {h : z_H} {o : Nat} {cs : List (List Nat)} (H : csAt G h o cs) : csAt G h o [] := ⟨Nat.zero_le _, fun k hk => (H.2 k hk).any⟩
theorem jsAt.nil {G : z_G} {h : z_H} {o : Nat} {js : List pJ} (H : jsAt G h o js) : jsAt G h o [] := ⟨Nat.zero_le _, fun k hk => (H.2 k hk).any⟩
theorem ksAt.get {G : z_G} {h : z_H} {o k : Nat} {c : List Nat × Bool} {ks : List (List Nat × Bool)} (H : ksAt G h o ks) (hk : ks[k]? = some c) : rowL G h (k_ku o k) (some c.1) := by
  have hl := l_gi' hk
  have h8 := H.1.1
  have h2 := H.1.2 k (by omega)
  rw [hk] at h2
  exact h2
def k_arr (c : ClassId) (n : Nat) (f : Nat → Option Nat) : va_E := .inl (c, n, .inr (.inr (.inr (.inr f))))
def k_tk (o nj ne nc : Nat) : va_E := .inr (5, [.ref (o + 1), .int (nI nj), .ref (o + 2), .int (nI ne), .ref (o + 3), .ref (o + 4), .int (nI nc), .ref (o + 5), .ref (o + 56), .ref (o + 58), .ref (o + 60), .ref (o + 62)])
def tkF (G : z_G) (h : z_H) (o : Nat) : Prop := (∃ f, h.2.2 (o + 1) = some (k_arr (G.ca 4) 6 f) ∧ ∀ k, k < 6 → f k = some (k_ju o k)) ∧ (∃ f, h.2.2 (o + 2) = some (k_arr (G.ca 3) 4 f) ∧ ∀ k, k < 4 → f k = some (k_cu o k)) ∧ ∃ f, h.2.2 (o + 3) = some (k_arr (G.ca 3) 8 f) ∧ ∀ k, k < 8 → f k = some (k_ku o k)
theorem tkF.keep {G : z_G} {h h' : z_H} {o : Nat} (H : tkF G h o) (k : ∀ y, o + 1 ≤ y ∧ y ≤ o + 3 → h'.2.2 y = h.2.2 y) : tkF G h' o := by
  obtain ⟨⟨f1, a1, b1⟩, ⟨f2, a2, b2⟩, f3, a3, b3⟩ := H
  exact ⟨⟨f1, (k _ (by omega)).trans a1, b1⟩, ⟨f2, (k _ (by omega)).trans a2, b2⟩, f3, (k _ (by omega)).trans a3, b3⟩
/-- the four rows for work -/
def scR (r : Nat) : Prop := r = 56 ∨ r = 58 ∨ r = 60 ∨ r = 62
def scAt (G : z_G) (h : z_H) (o : Nat) : Prop := ∀ r, scR r → rowL G h (o + r) none
theorem scAt.keep {G : z_G} {h h' : z_H} {o : Nat} (H : scAt G h o) (k : ∀ y, o + 56 ≤ y ∧ y ≤ o + 63 → h'.2.2 y = h.2.2 y) : scAt G h' o :=
  fun r hr => (H r hr).keep (k _ (by unfold scR at hr; omega)) (k _ (by unfold scR at hr; omega))
theorem scAt.rset {G : z_G} {h : z_H} {o r n : Nat} {f : Nat → Int32} (H : scAt G h o) (hr : scR r) : scAt G (rset G h (o + r) n f) o := by
  intro r' hr'
  by_cases e : r' = r
  · subst e
    exact ⟨n, f, rset_at .., fun l e => by cases e⟩
  · unfold scR at hr hr'
    exact (H r' hr').keep (rset_ne G h n f (by omega) (by omega)) (rset_ne G h n f (by omega) (by omega))
/-- the kernel with its judgements, entries, constants and rules -/
def KAt (G : z_G) (h : z_H) (o : Nat) (K : pK) : Prop := tkF G h o ∧ h.2.2 o = some (k_tk o K.1.length K.2.1.length K.2.2.1.length) ∧ jsAt G h o K.1 ∧ csAt G h o K.2.1 ∧ ksAt G h o K.2.2.1 ∧ scAt G h o ∧ (∃ x, RwN G h (o + 5) K.2.2.2 x) ∧ ruAll G h (o + 5)
/-- beside the kernel's cells nothing has changed -/
def k_ft (o : Nat) (h h' : z_H) : Prop := h'.1 = h.1 ∧ h'.2.1 = h.2.1 ∧ ∀ y : Nat, y < o ∨ o + 117 < y → h'.2.2 y = h.2.2 y
theorem k_ft.rf {q : Nat} {h : z_H} : k_ft q h h := ⟨rfl, rfl, fun _ _ => rfl⟩
theorem k_ft.tr {q : Nat} {h h1 h2 : z_H} (a : k_ft q h h1) (b : k_ft q h1 h2) : k_ft q h h2 := ⟨b.1.trans a.1, b.2.1.trans a.2.1, fun x h1 => (b.2.2 x h1).trans (a.2.2 x h1)⟩
theorem k_ft.rm {G : z_G} {q : Nat} {h h1 : z_H} (a : k_ft q h h1) (H : z_rm G h) : z_rm G h1 := by
  unfold z_rm
  rw [a.1, a.2.1]
  exact H
theorem k_ft.rset {G : z_G} {o r n : Nat} {f : Nat → Int32} {h : z_H} (hr : o ≤ r ∧ r + 1 ≤ o + 117) : k_ft o h (rset G h r n f) := ⟨rfl, rfl, fun y hy => rset_ne G h n f (by omega) (by omega)⟩
theorem k_ft.set {o c : Nat} {h : z_H} (v : va_E) (hc : o ≤ c ∧ c ≤ o + 117) : k_ft o h (z_set h c v) := ⟨rfl, rfl, fun y hy => z_set_ne h v (by omega)⟩
theorem k_fq.ft {o : Nat} {h h1 : z_H} (H : k_fq (o + 5) h h1) : k_ft o h h1 := ⟨H.1, H.2.1, fun y hy => H.2.2 y (by omega)⟩
/-- what a call answers: an exception leaves the kernel as it was -/
def tk_post (G : z_G) (o : Nat) (K : pK) (h : z_H) : (String ⊕ (Option Value × pK)) → z_R → z_H → Prop
  | .inr v, r, h' => r = .inl v.1 ∧ KAt G h' o v.2 ∧ k_ft o h h'
  | .inl X, r, h' => r = .inr X ∧ ∃ h1, h' = z_exc h1 ∧ KAt G h1 o K ∧ k_ft o h h1
end
section
/-! TypeKernel's small methods -/
def z_ISE : String := "java/lang/IllegalStateException"
def z_UOE : String := "java/lang/UnsupportedOperationException"
def z_IAE : String := "java/lang/IllegalArgumentException"
def z_IOB : String := "java/lang/IndexOutOfBoundsException"
def z_eqx (c : Prop) (v : Option Value) (P : z_H → Prop) (X : String) (PX : z_H → Prop) : z_R → z_H → Prop := fun r h' => (c ∧ r = .inl v ∧ P h') ∨ (¬ c ∧ r = .inr X ∧ PX h')
theorem z_callVg {G : z_G} {mt mtY : z_M} {d dY pc : Nat} {lo : List (Nat × Value)} {st : List Value} {h : z_H} {Q : z_R → z_H → Prop} {as : List Value} {b ci N idx n : Nat} {T : u_T} {fs : List Value} (hd : decode mt.2.1 pc = .ok (.invokevirtual idx, 3)) (hh : mt.2.2.2.2 = []) (hdp : dY + 1 ≤ d) (Y : z_Yv G mt.1.cls idx mtY n) (hn : as.length = n) (hb : h.2.2 b = some (.inr (ci, fs))) (hcl : G.cl[ci]? = some (mtY.1.cls, T, N)) (hst : (st.map fun v => v.category).sum ≤ 8) {c : Prop} {v : Option Value} {P : z_H → Prop} {X : String} {PX : z_H → Prop} (hM : z_C G mtY dY (.ref b :: as) h (z_eqx c v P X PX)) (kk : c → ∀ h', P h' → z_V G mt d (pc + 3) lo (v.toList ++ st) h' Q) (kx : ¬ c → ∀ h', PX h' → Q (.inr X) h') : z_V G mt d pc lo (as.reverse ++ .ref b :: st) h Q :=
  z_callV hd hh hdp Y hn hb hcl hst hM (fun v h' q => by
    rcases q with ⟨q1, q2, q3⟩ | ⟨-, q2, -⟩
    · cases q2
      exact kk q1 h' q3
    · cases q2) (fun X h' q => by
    rcases q with ⟨-, q2, -⟩ | ⟨q1, q2, q3⟩
    · cases q2
    · cases q2
      exact kx q1 h' q3)
def k_is (i : Int32) (n : Nat) : Int32 := if i < 0 then nI 0 else if nI n ≤ i then nI 0 else nI 1
theorem k_is_nI {j n : Nat} (hj : j < 2 ^ 31) (hn : n < 2 ^ 31) : k_is (nI j) n = if j < n then nI 1 else nI 0 := by
  unfold k_is
  rw [if_neg (nI_pos hj)]
  by_cases h : j < n
  · rw [if_neg (nI_ge h hn), if_pos h]
  · rw [if_pos (nI_le (by omega) hj), if_neg h]
theorem l_is {f : Nat → Int32} {l : List Nat} {v : Nat} (h : rl f l) (hv : v < 1000) : (l.length = 1 ∧ f 0 = nI v) ↔ l = [v] := by
  cases l with
  | nil => simp
  | cons w l =>
    have h0 := h.2 0 (by simp)
    have e : (w :: l).getD 0 0 = w := rfl
    rw [e] at h0
    constructor
    · rintro ⟨h1, h2⟩
      rw [h0.1, nI_eq (by omega) (by omega)] at h2
      have : l = [] := List.eq_nil_of_length_eq_zero (by simpa using h1)
      rw [h2, this]
    · intro e
      cases e
      exact ⟨rfl, h0.1⟩
section TS
variable {G : z_G} {h : z_H} {d o nj ne nc : Nat}
theorem c_TK_isConstant (HG : z_ok G) (ho : h.2.2 o = some (k_tk o nj ne nc)) (i : Int32) : z_C G m_TK_isConstant d [.ref o, .int i] h (z_rq (some (.int (k_is i nc))) h) := by
  refine z_C.of (Nat.le_of_ble_eq_true rfl) ?_
  unfold k_is
  refine z_iload_n d_TK_isConstant_0 rfl rfl ?_
  refine z_if_lt (tgt := 16) d_TK_isConstant_1 rfl (fun c1 => ?_) (fun c1 => ?_)
  · rw [if_pos c1]
    refine z_iconst (v := nI 0) d_TK_isConstant_16 (by decide) ?_
    exact z_ireturn d_TK_isConstant_17 rfl rfl ⟨rfl, rfl⟩
  · rw [if_neg c1]
    refine z_iload_n d_TK_isConstant_4 rfl rfl ?_
    refine z_aload_n d_TK_isConstant_5 rfl rfl ?_
    refine z_getf (L_TK_35K HG) (by decide) (L_TK_35 HG) d_TK_isConstant_6 ho (by rfl) ?_
    refine z_icmp_ge (tgt := 16) d_TK_isConstant_9 rfl (fun c2 => ?_) (fun c2 => ?_)
    · rw [if_pos c2]
      refine z_iconst (v := nI 0) d_TK_isConstant_16 (by decide) ?_
      exact z_ireturn d_TK_isConstant_17 rfl rfl ⟨rfl, rfl⟩
    · rw [if_neg c2]
      refine z_iconst (v := nI 1) d_TK_isConstant_12 (by decide) ?_
      refine z_goto (tgt := 17) d_TK_isConstant_13 rfl ?_
      exact z_ireturn d_TK_isConstant_17 rfl rfl ⟨rfl, rfl⟩
theorem c_TK_isEntry (HG : z_ok G) (ho : h.2.2 o = some (k_tk o nj ne nc)) (i : Int32) : z_C G m_TK_isEntry d [.ref o, .int i] h (z_rq (some (.int (k_is i ne))) h) := by
  refine z_C.of (Nat.le_of_ble_eq_true rfl) ?_
  unfold k_is
  refine z_iload_n d_TK_isEntry_0 rfl rfl ?_
  refine z_if_lt (tgt := 16) d_TK_isEntry_1 rfl (fun c1 => ?_) (fun c1 => ?_)
  · rw [if_pos c1]
    refine z_iconst (v := nI 0) d_TK_isEntry_16 (by decide) ?_
    exact z_ireturn d_TK_isEntry_17 rfl rfl ⟨rfl, rfl⟩
  · rw [if_neg c1]
    refine z_iload_n d_TK_isEntry_4 rfl rfl ?_
    refine z_aload_n d_TK_isEntry_5 rfl rfl ?_
    refine z_getf (L_TK_25K HG) (by decide) (L_TK_25 HG) d_TK_isEntry_6 ho (by rfl) ?_
    refine z_icmp_ge (tgt := 16) d_TK_isEntry_9 rfl (fun c2 => ?_) (fun c2 => ?_)
    · rw [if_pos c2]
      refine z_iconst (v := nI 0) d_TK_isEntry_16 (by decide) ?_
      exact z_ireturn d_TK_isEntry_17 rfl rfl ⟨rfl, rfl⟩
    · rw [if_neg c2]
      refine z_iconst (v := nI 1) d_TK_isEntry_12 (by decide) ?_
      refine z_goto (tgt := 17) d_TK_isEntry_13 rfl ?_
      exact z_ireturn d_TK_isEntry_17 rfl rfl ⟨rfl, rfl⟩
theorem c_TK_isJudgement (HG : z_ok G) (ho : h.2.2 o = some (k_tk o nj ne nc)) (i : Int32) : z_C G m_TK_isJudgement d [.ref o, .int i] h (z_rq (some (.int (k_is i nj))) h) := by
  refine z_C.of (Nat.le_of_ble_eq_true rfl) ?_
  unfold k_is
  refine z_iload_n d_TK_isJudgement_0 rfl rfl ?_
  refine z_if_lt (tgt := 16) d_TK_isJudgement_1 rfl (fun c1 => ?_) (fun c1 => ?_)
  · rw [if_pos c1]
    refine z_iconst (v := nI 0) d_TK_isJudgement_16 (by decide) ?_
    exact z_ireturn d_TK_isJudgement_17 rfl rfl ⟨rfl, rfl⟩
  · rw [if_neg c1]
    refine z_iload_n d_TK_isJudgement_4 rfl rfl ?_
    refine z_aload_n d_TK_isJudgement_5 rfl rfl ?_
    refine z_getf (L_TK_15K HG) (by decide) (L_TK_15 HG) d_TK_isJudgement_6 ho (by rfl) ?_
    refine z_icmp_ge (tgt := 16) d_TK_isJudgement_9 rfl (fun c2 => ?_) (fun c2 => ?_)
    · rw [if_pos c2]
      refine z_iconst (v := nI 0) d_TK_isJudgement_16 (by decide) ?_
      exact z_ireturn d_TK_isJudgement_17 rfl rfl ⟨rfl, rfl⟩
    · rw [if_neg c2]
      refine z_iconst (v := nI 1) d_TK_isJudgement_12 (by decide) ?_
      refine z_goto (tgt := 17) d_TK_isJudgement_13 rfl ?_
      exact z_ireturn d_TK_isJudgement_17 rfl rfl ⟨rfl, rfl⟩
theorem c_TK_entryAt (HG : z_ok G) (ho : h.2.2 o = some (k_tk o nj ne nc)) (hF : tkF G h o) (hne : ne ≤ 4) {k : Nat} (hk : k < ne) : z_C G m_TK_entryAt d [.ref o, .int (nI k)] h (z_rq (some (.ref (k_cu o (ne - 1 - k)))) h) := by
  obtain ⟨-, ⟨f, h2, hf⟩, -⟩ := hF
  refine z_C.of (Nat.le_of_ble_eq_true rfl) ?_
  refine z_aload_n d_TK_entryAt_0 rfl rfl ?_
  refine z_getf (L_TK_21K HG) (by decide) (L_TK_21 HG) d_TK_entryAt_1 ho (by rfl) ?_
  refine z_aload_n d_TK_entryAt_4 rfl rfl ?_
  refine z_getf (L_TK_25K HG) (by decide) (L_TK_25 HG) d_TK_entryAt_5 ho (by rfl) ?_
  refine z_iconst (v := nI 1) d_TK_entryAt_8 (by decide) ?_
  refine z_isub d_TK_entryAt_9 ?_
  rw [pk_sub (by omega)]
  refine z_iload_n d_TK_entryAt_10 rfl rfl ?_
  refine z_isub d_TK_entryAt_11 ?_
  rw [pk_sub (by omega)]
  refine z_aald d_TK_entryAt_12 (ty3 HG) h2 (pk_in (ne - 1 - k) 4 (by omega)) (by rw [nI_clamp (by omega)]; exact hf _ (by omega)) ?_
  exact z_areturn d_TK_entryAt_13 rfl ⟨rfl, rfl⟩
theorem c_TK_judgementAt (HG : z_ok G) (ho : h.2.2 o = some (k_tk o nj ne nc)) (hF : tkF G h o) (hnj : nj ≤ 6) {k : Nat} (hk : k < nj) : z_C G m_TK_judgementAt d [.ref o, .int (nI k)] h (z_rq (some (.ref (k_ju o (nj - 1 - k)))) h) := by
  obtain ⟨⟨f, h2, hf⟩, -, -⟩ := hF
  refine z_C.of (Nat.le_of_ble_eq_true rfl) ?_
  refine z_aload_n d_TK_judgementAt_0 rfl rfl ?_
  refine z_getf (L_TK_11K HG) (by decide) (L_TK_11 HG) d_TK_judgementAt_1 ho (by rfl) ?_
  refine z_aload_n d_TK_judgementAt_4 rfl rfl ?_
  refine z_getf (L_TK_15K HG) (by decide) (L_TK_15 HG) d_TK_judgementAt_5 ho (by rfl) ?_
  refine z_iconst (v := nI 1) d_TK_judgementAt_8 (by decide) ?_
  refine z_isub d_TK_judgementAt_9 ?_
  rw [pk_sub (by omega)]
  refine z_iload_n d_TK_judgementAt_10 rfl rfl ?_
  refine z_isub d_TK_judgementAt_11 ?_
  rw [pk_sub (by omega)]
  refine z_aald d_TK_judgementAt_12 (ty4 HG) h2 (pk_in (nj - 1 - k) 6 (by omega)) (by rw [nI_clamp (by omega)]; exact hf _ (by omega)) ?_
  exact z_areturn d_TK_judgementAt_13 rfl ⟨rfl, rfl⟩
theorem c_TK_needed (HG : z_ok G) (hrm : z_rm G h) (ho : h.2.2 o = some (k_tk o nj ne nc)) (hF : tkF G h o) (hnj : nj ≤ 6) {k : Nat} (hk : k < 6) : z_C G m_TK_neededJudgement (d + 1) [.ref o, .int (nI k)] h (z_eqx (k < nj) (some (.ref (k_ju o (nj - 1 - k)))) (fun h' => h' = h) z_ISE (fun h' => h' = z_exc h)) := by
  refine z_C.of (Nat.le_of_ble_eq_true rfl) ?_
  refine z_aload_n d_TK_neededJudgement_0 rfl rfl ?_
  refine z_iload_n d_TK_neededJudgement_1 rfl rfl ?_
  refine z_callV1r (dY := d) d_TK_neededJudgement_2 rfl (by omega) (Y_TK_173 HG) ho (cl_TK HG) (Nat.le_of_ble_eq_true rfl) (c_TK_isJudgement HG ho (nI k)) ?_
  rw [k_is_nI (by omega) (by omega)]
  refine z_if_ne (tgt := 16) d_TK_neededJudgement_5 rfl (fun c1 => ?_) (fun c1 => ?_)
  · have hk2 : k < nj := by
      apply Classical.byContradiction
      intro hh
      rw [if_neg hh] at c1
      exact c1 nI_0
    refine z_aload_n d_TK_neededJudgement_16 rfl rfl ?_
    refine z_iload_n d_TK_neededJudgement_17 rfl rfl ?_
    refine z_callV1r (dY := d) d_TK_neededJudgement_18 rfl (by omega) (Y_TK_176 HG) ho (cl_TK HG) (Nat.le_of_ble_eq_true rfl) (c_TK_judgementAt HG ho hF hnj hk2) ?_
    exact z_areturn d_TK_neededJudgement_21 rfl (Or.inl ⟨hk2, rfl, rfl⟩)
  · have hk2 : ¬ k < nj := by
      intro hh
      rw [if_pos hh] at c1
      exact absurd c1 (by decide)
    exact z_throw d_TK_neededJudgement_8 d_TK_neededJudgement_11 d_TK_neededJudgement_12 d_TK_neededJudgement_15 rfl (by decide +kernel) (t_TK_146 HG) hrm.1 hrm.2 (by decide) (Or.inr ⟨hk2, rfl, rfl⟩)
end TS
section TP
variable {G : z_G} {h : z_H} {d o nc : Nat} {js : List pJ} {ne : Nat}
/-- is there a k-th judgement, made with the present entries -/
def p_pres (js : List pJ) (ne k : Nat) : Prop := ∃ J, js[k]? = some J ∧ J.1 = ne
theorem c_TK_present (HG : z_ok G) (hrm : z_rm G h) (ho : h.2.2 o = some (k_tk o js.length ne nc)) (hF : tkF G h o) (hj : jsAt G h o js) (he : ∀ J ∈ js, J.1 ≤ 4) (hne : ne ≤ 4) {k : Nat} (hk : k < 6) : z_C G m_TK_presentJudgement (d + 2) [.ref o, .int (nI k)] h (z_eqx (p_pres js ne k) (some (.ref (k_ju o (js.length - 1 - k)))) (fun h' => h' = h) z_ISE (fun h' => h' = z_exc h)) := by
  refine z_C.of (Nat.le_of_ble_eq_true rfl) ?_
  refine z_aload_n d_TK_presentJudgement_0 rfl rfl ?_
  refine z_iload_n d_TK_presentJudgement_1 rfl rfl ?_
  refine z_callVg (as := [.int (nI k)]) (dY := d + 1) d_TK_presentJudgement_2 rfl (by omega) (Y_TK_163 HG) rfl ho (cl_TK HG) (Nat.le_of_ble_eq_true rfl) (c_TK_needed HG hrm ho hF hj.1 hk) (fun hc h' hh => ?_) (fun hc h' hh => ?_)
  · subst hh
    have hJ := List.getElem?_eq_getElem hc
    generalize js[k] = J at hJ
    have hJm := he J (List.mem_of_getElem? hJ)
    have hu := (hj.get hJ).ob
    refine z_astore_n d_TK_presentJudgement_5 rfl (by decide) ?_
    refine z_aload_n d_TK_presentJudgement_6 rfl rfl ?_
    refine z_getf (L_TK_166K HG) (by decide) (L_TK_166 HG) d_TK_presentJudgement_7 hu (by rfl) ?_
    refine z_aload_n d_TK_presentJudgement_10 rfl rfl ?_
    refine z_getf (L_TK_25K HG) (by decide) (L_TK_25 HG) d_TK_presentJudgement_11 ho (by rfl) ?_
    refine z_icmp_eq (tgt := 25) d_TK_presentJudgement_14 rfl (fun c1 => ?_) (fun c1 => ?_)
    · rw [nI_eq (by omega) (by omega)] at c1
      refine z_aload_n d_TK_presentJudgement_25 rfl rfl ?_
      exact z_areturn d_TK_presentJudgement_26 rfl (Or.inl ⟨⟨J, hJ, c1⟩, rfl, rfl⟩)
    · rw [nI_eq (by omega) (by omega)] at c1
      refine z_throw d_TK_presentJudgement_17 d_TK_presentJudgement_20 d_TK_presentJudgement_21 d_TK_presentJudgement_24 rfl (by decide +kernel) (t_TK_146 HG) hrm.1 hrm.2 (by decide) (Or.inr ⟨?_, rfl, rfl⟩)
      rintro ⟨J', h1, h2⟩
      rw [hJ] at h1
      cases h1
      exact c1 h2
  · refine Or.inr ⟨?_, rfl, hh⟩
    rintro ⟨J', h1, h2⟩
    exact hc (l_gi' h1)
theorem l_count (HG : z_ok G) (ho : h.2.2 o = some (k_tk o js.length ne nc)) (hF : tkF G h o) (hj : jsAt G h o js) (he : ∀ J ∈ js, J.1 ≤ 4) (hne : ne ≤ 4) : ∀ (c k m : Nat), k + c = js.length → m ≤ k →
    z_V G m_TK_presentCount d 4 [(0, .ref o), (1, .int (nI m)), (2, .int (nI k))] [] h (z_rq (some (.int (nI (m + (js.reverse.drop k).countP (fun J => J.1 == ne))))) h) := by
  obtain ⟨⟨f, h2, hf⟩, -, -⟩ := hF
  have h6 := hj.1
  intro c
  induction c with
  | zero =>
    intro k m hk hm
    rw [List.drop_eq_nil_of_le (by rw [List.length_reverse]; omega)]
    refine z_iload_n d_TK_presentCount_4 rfl rfl ?_
    refine z_aload_n d_TK_presentCount_5 rfl rfl ?_
    refine z_getf (L_TK_15K HG) (by decide) (L_TK_15 HG) d_TK_presentCount_6 ho (by rfl) ?_
    refine z_icmp_ge (tgt := 37) d_TK_presentCount_9 rfl (fun c1 => ?_) (fun c1 => ?_)
    · refine z_iload_n d_TK_presentCount_37 rfl rfl ?_
      exact z_ireturn d_TK_presentCount_38 rfl rfl ⟨rfl, rfl⟩
    · rw [nI_leI (by omega) (by omega)] at c1
      omega
  | succ c ih =>
    intro k m hk hm
    have hkl : k < js.reverse.length := by rw [List.length_reverse]; omega
    have hJ := List.getElem?_eq_getElem hkl
    rw [List.drop_eq_getElem_cons hkl]
    generalize js.reverse[k] = J at hJ ⊢
    have hJm := he J (List.mem_reverse.mp (List.mem_of_getElem? hJ))
    have hu := hj.2 k (by omega)
    rw [hJ] at hu
    have hu := hu.ob
    refine z_iload_n d_TK_presentCount_4 rfl rfl ?_
    refine z_aload_n d_TK_presentCount_5 rfl rfl ?_
    refine z_getf (L_TK_15K HG) (by decide) (L_TK_15 HG) d_TK_presentCount_6 ho (by rfl) ?_
    refine z_icmp_ge (tgt := 37) d_TK_presentCount_9 rfl (fun c1 => ?_) (fun c1 => ?_)
    · rw [nI_leI (by omega) (by omega)] at c1
      omega
    · refine z_aload_n d_TK_presentCount_12 rfl rfl ?_
      refine z_getf (L_TK_11K HG) (by decide) (L_TK_11 HG) d_TK_presentCount_13 ho (by rfl) ?_
      refine z_iload_n d_TK_presentCount_16 rfl rfl ?_
      refine z_aald d_TK_presentCount_17 (ty4 HG) h2 (pk_in k 6 (by omega)) (by rw [nI_clamp (by omega)]; exact hf _ (by omega)) ?_
      refine z_getf (L_TK_166K HG) (by decide) (L_TK_166 HG) d_TK_presentCount_18 hu (by rfl) ?_
      refine z_aload_n d_TK_presentCount_21 rfl rfl ?_
      refine z_getf (L_TK_25K HG) (by decide) (L_TK_25 HG) d_TK_presentCount_22 ho (by rfl) ?_
      refine z_icmp_ne (tgt := 31) d_TK_presentCount_25 rfl (fun c2 => ?_) (fun c2 => ?_)
      · rw [nI_eq (by omega) (by omega)] at c2
        refine z_iinc (v := nI (k + 1)) d_TK_presentCount_31 rfl (i_inc k) (by decide) ?_
        refine z_goto (tgt := 4) d_TK_presentCount_34 rfl ?_
        refine z_fg [(0, .ref o), (1, .int (nI m)), (2, .int (nI (k + 1)))] ⟨rfl, rfl, rfl, trivial⟩ ?_
        rw [List.countP_cons_of_neg (by simpa using c2)]
        exact ih (k + 1) m (by omega) (by omega)
      · rw [nI_eq (by omega) (by omega)] at c2
        refine z_iinc (v := nI (m + 1)) d_TK_presentCount_28 rfl (i_inc m) (by decide) ?_
        refine z_iinc (v := nI (k + 1)) d_TK_presentCount_31 rfl (i_inc k) (by decide) ?_
        refine z_goto (tgt := 4) d_TK_presentCount_34 rfl ?_
        refine z_fg [(0, .ref o), (1, .int (nI (m + 1))), (2, .int (nI (k + 1)))] ⟨rfl, rfl, rfl, trivial⟩ ?_
        rw [List.countP_cons_of_pos (by simpa using c2), ← Nat.add_assoc, Nat.add_right_comm]
        exact ih (k + 1) (m + 1) (by omega) (by omega)
/-- how many judgements are made with the present entries -/
def p_cnt (js : List pJ) (ne : Nat) : Nat := js.countP (fun J => J.1 == ne)
theorem c_TK_presentCount (HG : z_ok G) (ho : h.2.2 o = some (k_tk o js.length ne nc)) (hF : tkF G h o) (hj : jsAt G h o js) (he : ∀ J ∈ js, J.1 ≤ 4) (hne : ne ≤ 4) : z_C G m_TK_presentCount d [.ref o] h (z_rq (some (.int (nI (p_cnt js ne)))) h) := by
  refine z_C.of (Nat.le_of_ble_eq_true rfl) ?_
  refine z_iconst (v := nI 0) d_TK_presentCount_0 (by decide) ?_
  refine z_istore_n d_TK_presentCount_1 rfl (by decide) ?_
  refine z_iconst (v := nI 0) d_TK_presentCount_2 (by decide) ?_
  refine z_istore_n d_TK_presentCount_3 rfl (by decide) ?_
  refine z_fg [(0, .ref o), (1, .int (nI 0)), (2, .int (nI 0))] ⟨rfl, rfl, rfl, trivial⟩ ?_
  refine (l_count HG ho hF hj he hne js.length 0 0 (by omega) (by omega)).mono (fun r h' hh => ?_)
  rw [List.drop_zero, List.countP_reverse, Nat.zero_add] at hh
  exact hh
/-- may the latest entry be taken out with the top judgement -/
def p_only (js : List pJ) (ne : Nat) : Prop := p_pres js ne 0 ∧ ne ≠ 0 ∧ p_cnt js ne ≤ 1
theorem c_TK_only (HG : z_ok G) (hrm : z_rm G h) (ho : h.2.2 o = some (k_tk o js.length ne nc)) (hF : tkF G h o) (hj : jsAt G h o js) (he : ∀ J ∈ js, J.1 ≤ 4) (hne : ne ≤ 4) : z_C G m_TK_onlyPresentJudgement (d + 3) [.ref o] h (z_eqx (p_only js ne) (some (.ref (k_ju o (js.length - 1)))) (fun h' => h' = h) z_ISE (fun h' => h' = z_exc h)) := by
  have hcl : p_cnt js ne ≤ 6 := Nat.le_trans List.countP_le_length hj.1
  refine z_C.of (Nat.le_of_ble_eq_true rfl) ?_
  refine z_aload_n d_TK_onlyPresentJudgement_0 rfl rfl ?_
  refine z_iconst (v := nI 0) d_TK_onlyPresentJudgement_1 (by decide) ?_
  refine z_callVg (as := [.int (nI 0)]) (dY := d + 2) d_TK_onlyPresentJudgement_2 rfl (by omega) (Y_TK_99 HG) rfl ho (cl_TK HG) (Nat.le_of_ble_eq_true rfl) (c_TK_present HG hrm ho hF hj he hne (k := 0) (by omega)) (fun hc h' hh => ?_) (fun hc h' hh => ?_)
  · subst hh
    refine z_astore_n d_TK_onlyPresentJudgement_5 rfl (by decide) ?_
    refine z_aload_n d_TK_onlyPresentJudgement_6 rfl rfl ?_
    refine z_getf (L_TK_25K HG) (by decide) (L_TK_25 HG) d_TK_onlyPresentJudgement_7 ho (by rfl) ?_
    refine z_if_eq (tgt := 21) d_TK_onlyPresentJudgement_10 rfl (fun c1 => ?_) (fun c1 => ?_)
    · rw [← nI_0, nI_eq (by omega) (by omega)] at c1
      exact z_throw d_TK_onlyPresentJudgement_21 d_TK_onlyPresentJudgement_24 d_TK_onlyPresentJudgement_25 d_TK_onlyPresentJudgement_28 rfl (by decide +kernel) (t_TK_146 HG) hrm.1 hrm.2 (by decide) (Or.inr ⟨fun hh => hh.2.1 c1, rfl, rfl⟩)
    · rw [← nI_0, nI_eq (by omega) (by omega)] at c1
      refine z_aload_n d_TK_onlyPresentJudgement_13 rfl rfl ?_
      refine z_callV0r (dY := d) d_TK_onlyPresentJudgement_14 rfl (by omega) (Y_TK_169 HG) ho (cl_TK HG) (Nat.le_of_ble_eq_true rfl) (c_TK_presentCount HG ho hF hj he hne) ?_
      refine z_iconst (v := nI 1) d_TK_onlyPresentJudgement_17 (by decide) ?_
      refine z_icmp_le (tgt := 29) d_TK_onlyPresentJudgement_18 rfl (fun c2 => ?_) (fun c2 => ?_)
      · rw [nI_leI (by omega) (by omega)] at c2
        refine z_aload_n d_TK_onlyPresentJudgement_29 rfl rfl ?_
        exact z_areturn d_TK_onlyPresentJudgement_30 rfl (Or.inl ⟨⟨hc, c1, c2⟩, rfl, rfl⟩)
      · rw [nI_leI (by omega) (by omega)] at c2
        exact z_throw d_TK_onlyPresentJudgement_21 d_TK_onlyPresentJudgement_24 d_TK_onlyPresentJudgement_25 d_TK_onlyPresentJudgement_28 rfl (by decide +kernel) (t_TK_146 HG) hrm.1 hrm.2 (by decide) (Or.inr ⟨fun hh => c2 hh.2.2, rfl, rfl⟩)
  · exact Or.inr ⟨fun hh' => hc hh'.1, rfl, hh⟩
theorem c_TK_hasSort (HG : z_ok G) {u : Nat} {J : pJ} (hJ : jdAt G h u (some J)) : z_C G m_TK_hasSort (d + 1) [.ref u] h (z_rq (some (.int (if J.2.2 = [0] ∨ J.2.2 = [1] then nI 1 else nI 0))) h) := by
  obtain ⟨f, hy, hl⟩ := rowL.get hJ.2.2
  have h40 := hl.len
  refine z_C.of (Nat.le_of_ble_eq_true rfl) ?_
  refine z_aload_n d_TK_hasSort_0 rfl rfl ?_
  refine z_getf (L_TK_71K HG) (by decide) (L_TK_71 HG) d_TK_hasSort_1 hJ.ob (by rfl) ?_
  refine z_iconst (v := nI 0) d_TK_hasSort_4 (by decide) ?_
  refine z_callV1r (dY := d) d_TK_hasSort_5 rfl (by omega) (Y_TK_132 HG) hy.1 (cl_Row HG) (Nat.le_of_ble_eq_true rfl) (c_Row_is HG hy h40 (nI 0)) ?_
  simp only [l_is hl (show 0 < 1000 by omega)]
  refine z_if_ne (tgt := 22) d_TK_hasSort_8 rfl (fun c1 => ?_) (fun c1 => ?_)
  · have hk2 : J.2.2 = [0] := by
      apply Classical.byContradiction
      intro hh
      rw [if_neg hh] at c1
      exact c1 nI_0
    rw [if_pos (Or.inl hk2)]
    refine z_iconst (v := nI 1) d_TK_hasSort_22 (by decide) ?_
    refine z_goto (tgt := 27) d_TK_hasSort_23 rfl ?_
    exact z_ireturn d_TK_hasSort_27 rfl rfl ⟨rfl, rfl⟩
  · have hk2 : ¬ J.2.2 = [0] := by
      intro hh
      rw [if_pos hh] at c1
      exact absurd c1 (by decide)
    refine z_aload_n d_TK_hasSort_11 rfl rfl ?_
    refine z_getf (L_TK_71K HG) (by decide) (L_TK_71 HG) d_TK_hasSort_12 hJ.ob (by rfl) ?_
    refine z_iconst (v := nI 1) d_TK_hasSort_15 (by decide) ?_
    refine z_callV1r (dY := d) d_TK_hasSort_16 rfl (by omega) (Y_TK_132 HG) hy.1 (cl_Row HG) (Nat.le_of_ble_eq_true rfl) (c_Row_is HG hy h40 (nI 1)) ?_
    simp only [l_is hl (show 1 < 1000 by omega)]
    refine z_if_eq (tgt := 26) d_TK_hasSort_19 rfl (fun c2 => ?_) (fun c2 => ?_)
    · have hk3 : ¬ J.2.2 = [1] := by
        intro hh
        rw [if_pos hh] at c2
        exact absurd c2 (by decide)
      rw [if_neg (by intro hh; exact hh.elim hk2 hk3)]
      refine z_iconst (v := nI 0) d_TK_hasSort_26 (by decide) ?_
      exact z_ireturn d_TK_hasSort_27 rfl rfl ⟨rfl, rfl⟩
    · have hk3 : J.2.2 = [1] := by
        apply Classical.byContradiction
        intro hh
        rw [if_neg hh] at c2
        exact c2 nI_0
      rw [if_pos (Or.inr hk3)]
      refine z_iconst (v := nI 1) d_TK_hasSort_22 (by decide) ?_
      refine z_goto (tgt := 27) d_TK_hasSort_23 rfl ?_
      exact z_ireturn d_TK_hasSort_27 rfl rfl ⟨rfl, rfl⟩
end TP
end
section
/-! addJudgement, sort, constant, variable -/
/-- what holds of every kernel that the calls make -/
def pok (K : pK) : Prop := (∀ J ∈ K.1, J.1 ≤ K.2.1.length ∧ p_wf J.1 [0] J.2.1 ∧ p_wf J.1 [0] J.2.2) ∧ (∀ k c, K.2.1[k]? = some c → p_wf (K.2.1.length - 1 - k) [0] c) ∧ (∀ c ∈ K.2.2.1, p_wf 0 [0] c.1) ∧ p_rsok K.2.2.2
def k_ix (i : Int32) (n : Nat) : Option Nat := if i < 0 then none else if nI n ≤ i then none else some i.toNatClampNeg
theorem k_ix_cases (i : Int32) {n : Nat} (hn : n < 2 ^ 31) : (k_ix i n = none ∧ k_is i n = nI 0) ∨ ∃ j, j < n ∧ i = nI j ∧ k_ix i n = some j ∧ k_is i n = nI 1 := by
  unfold k_ix k_is
  by_cases h1 : i < 0
  · rw [if_pos h1, if_pos h1]
    exact Or.inl ⟨rfl, rfl⟩
  · by_cases h2 : nI n ≤ i
    · rw [if_neg h1, if_neg h1, if_pos h2, if_pos h2]
      exact Or.inl ⟨rfl, rfl⟩
    · rw [if_neg h1, if_neg h1, if_neg h2, if_neg h2]
      rcases pk_ix i hn with h | h | ⟨j, hj, rfl⟩
      · exact absurd h h1
      · exact absurd h h2
      · exact Or.inr ⟨j, hj, rfl, by rw [nI_clamp (by omega)], rfl⟩
theorem RwN.kfr {G : z_G} {h h' : z_H} {q r : Nat} {Rs : List pR} {x : List Nat} (H : RwN G h q Rs x) (ho : k_out q r) (k : k_fr q r h h') (hs : k_sc G q h') : RwN G h' q Rs x := by
  unfold k_out at ho
  obtain ⟨a, b, nb, fx, fb, g0, fr, hab, h1, h2, h3, h4, -, h6, h8, h10, h11⟩ := H
  have kk : ∀ y, (q ≤ y ∧ y ≤ q + 6) ∨ (q + 11 ≤ y ∧ y ≤ q + 50) → h'.2.2 y = h.2.2 y := fun y hy => k.2.2 y (by omega) (by omega) (by omega)
  refine ⟨a, b, nb, fx, fb, g0, fr, hab, (kk _ (by omega)).trans h1, (kk _ (by omega)).trans h2, h3, (kk _ (by omega)).trans h4, hs, ⟨(kk _ (by omega)).trans h6.1, (kk _ (by omega)).trans h6.2⟩, h8, ⟨(kk _ (by omega)).trans h10.1, (kk _ (by omega)).trans h10.2⟩, h11.1, fun j R hj => ⟨(h11.2 j R hj).1, ?_⟩⟩
  have hj8 := l_gi' hj
  have h8 := h11.1
  obtain ⟨e1, ⟨f, e2, e3⟩, f', e4, e5⟩ := (h11.2 j R hj).2
  unfold k_rq at *
  exact ⟨(kk _ (by omega)).trans e1, ⟨f, ⟨(kk _ (by omega)).trans e2.1, (kk _ (by omega)).trans e2.2⟩, e3⟩, f', ⟨(kk _ (by omega)).trans e4.1, (kk _ (by omega)).trans e4.2⟩, e5⟩
section KP
variable {G : z_G} {h : z_H} {d o : Nat} {K : pK}
theorem KAt.pushJ {h' : z_H} {J : pJ} (H : KAt G h o K) (hl : K.1.length < 6) (k : ∀ y, y ≠ o → (y < k_ju o K.1.length ∨ k_ju o K.1.length + 4 < y) → h'.2.2 y = h.2.2 y) (ho : h'.2.2 o = some (k_tk o (K.1.length + 1) K.2.1.length K.2.2.1.length)) (HJ : jdAt G h' (k_ju o K.1.length) (some J)) : KAt G h' o (J :: K.1, K.2) := by
  obtain ⟨h1, -, h3, h4, h5, h6, ⟨x, h7⟩, h8⟩ := H
  have hu : o + 64 ≤ k_ju o K.1.length ∧ k_ju o K.1.length + 4 ≤ o + 93 := by unfold k_ju; omega
  refine ⟨h1.keep (fun y hy => k y (by omega) (by omega)), ho, h3.push hl (fun y hy hy2 => k y (by omega) hy2) HJ, h4.keep (fun y hy => k y (by omega) (by omega)), h5.keep (k _ (by omega) (by omega)) (fun y hy => k y (by omega) (by omega)), h6.keep (fun y hy => k y (by omega) (by omega)), ⟨x, h7.keep (fun y hy => k y (by omega) (by omega))⟩, h8.keep (fun y hy => k y (by omega) (by omega))⟩
theorem KAt.len (H : KAt G h o K) : K.1.length ≤ 6 ∧ K.2.1.length ≤ 4 ∧ K.2.2.1.length ≤ 8 := ⟨H.2.2.1.1, H.2.2.2.1.1, H.2.2.2.2.1.1.1⟩
theorem pok.e4 (H : KAt G h o K) (P : pok K) : ∀ J ∈ K.1, J.1 ≤ 4 := fun J hJ => Nat.le_trans (P.1 J hJ).1 H.len.2.1
def k_add (h : z_H) (o : Nat) (K : pK) : z_H := z_set (z_set h o (k_tk o (K.1.length + 1) K.2.1.length K.2.2.1.length)) (k_ju o K.1.length) (k_jd (k_ju o K.1.length) K.2.1.length)
theorem c_TK_add (HG : z_ok G) (hrm : z_rm G h) (H : KAt G h o K) : z_C G m_TK_addJudgement (d + 1) [.ref o] h (z_eqx (¬ K.1.length = 6) (some (.ref (k_ju o K.1.length))) (fun h' => h' = k_add h o K) z_UOE (fun h' => h' = z_exc h)) := by
  obtain ⟨l1, l2, l3⟩ := H.len
  obtain ⟨h1, ho, h3, h4, h5, h6, h7, h8⟩ := id H
  refine z_C.of (Nat.le_of_ble_eq_true rfl) ?_
  refine z_aload_n d_TK_addJudgement_0 rfl rfl ?_
  refine z_getf (L_TK_15K HG) (by decide) (L_TK_15 HG) d_TK_addJudgement_1 ho (by rfl) ?_
  refine z_bipush (v := nI 6) d_TK_addJudgement_4 (by decide +kernel) ?_
  refine z_icmp_ne (tgt := 17) d_TK_addJudgement_6 rfl (fun c1 => ?_) (fun c1 => ?_)
  · rw [nI_eq (by omega) (by omega)] at c1
    refine z_aload_n d_TK_addJudgement_17 rfl rfl ?_
    refine z_dup d_TK_addJudgement_18 rfl ?_
    refine z_getf (L_TK_15K HG) (by decide) (L_TK_15 HG) d_TK_addJudgement_19 ho (by rfl) ?_
    refine z_iconst (v := nI 1) d_TK_addJudgement_22 (by decide) ?_
    refine z_iadd d_TK_addJudgement_23 ?_
    rw [nI_add]
    refine z_putf (L_TK_15K HG) (by decide) (L_TK_15 HG) rfl d_TK_addJudgement_24 ho rfl rfl (Nat.le_of_ble_eq_true rfl) ?_
    show z_V G m_TK_addJudgement (d + 1) 27 _ _ (z_set h o (k_tk o (K.1.length + 1) K.2.1.length K.2.2.1.length)) _
    have ho2 := z_set_at h o (k_tk o (K.1.length + 1) K.2.1.length K.2.2.1.length)
    have hF2 := h1.keep (h' := z_set h o (k_tk o (K.1.length + 1) K.2.1.length K.2.2.1.length)) (fun y hy => z_set_ne h _ (by omega))
    have hj2 := h3.keep (h' := z_set h o (k_tk o (K.1.length + 1) K.2.1.length K.2.2.1.length)) (fun y hy => z_set_ne h _ (by omega))
    refine z_aload_n d_TK_addJudgement_27 rfl rfl ?_
    refine z_iconst (v := nI 0) d_TK_addJudgement_28 (by decide) ?_
    refine z_callV1r (dY := d) d_TK_addJudgement_29 rfl (by omega) (Y_TK_176 HG) ho2 (cl_TK HG) (Nat.le_of_ble_eq_true rfl) (c_TK_judgementAt HG ho2 hF2 (by omega) (k := 0) (by omega)) ?_
    rw [show K.1.length + 1 - 1 - 0 = K.1.length by omega]
    obtain ⟨⟨e, hu, -⟩, -⟩ := hj2.2 K.1.length (by omega)
    refine z_astore_n d_TK_addJudgement_32 rfl (by decide) ?_
    refine z_aload_n d_TK_addJudgement_33 rfl rfl ?_
    refine z_aload_n d_TK_addJudgement_34 rfl rfl ?_
    refine z_getf (L_TK_25K HG) (by decide) (L_TK_25 HG) d_TK_addJudgement_35 ho2 (by rfl) ?_
    refine z_putf (L_TK_166K HG) (by decide) (L_TK_166 HG) rfl d_TK_addJudgement_38 hu rfl rfl (Nat.le_of_ble_eq_true rfl) ?_
    refine z_aload_n d_TK_addJudgement_41 rfl rfl ?_
    exact z_areturn d_TK_addJudgement_42 rfl (Or.inl ⟨c1, rfl, rfl⟩)
  · rw [nI_eq (by omega) (by omega)] at c1
    exact z_throw d_TK_addJudgement_9 d_TK_addJudgement_12 d_TK_addJudgement_13 d_TK_addJudgement_16 rfl (by decide +kernel) (t_TK_129 HG) hrm.1 hrm.2 (by decide) (Or.inr ⟨fun hh => hh c1, rfl, rfl⟩)
/-- what addJudgement leaves -/
theorem k_add_ok (H : KAt G h o K) (hl : K.1.length < 6) : (k_add h o K).2.2 o = some (k_tk o (K.1.length + 1) K.2.1.length K.2.2.1.length) ∧ (k_add h o K).2.2 (k_ju o K.1.length) = some (k_jd (k_ju o K.1.length) K.2.1.length) ∧ (∀ y, y ≠ o → y ≠ k_ju o K.1.length → (k_add h o K).2.2 y = h.2.2 y) ∧ (∃ n f, rowAt G (k_add h o K) (k_ju o K.1.length + 1) n f) ∧ (∃ n f, rowAt G (k_add h o K) (k_ju o K.1.length + 3) n f) ∧ k_ft o h (k_add h o K) := by
  have hu : o + 64 ≤ k_ju o K.1.length ∧ k_ju o K.1.length + 4 ≤ o + 93 := by unfold k_ju; omega
  obtain ⟨-, ⟨n1, f1, r1, -⟩, n2, f2, r2, -⟩ := H.2.2.1.2 K.1.length hl
  refine ⟨(z_set_ne _ _ (by omega)).trans (z_set_at ..), z_set_at .., fun y h1 h2 => (z_set_ne _ _ h2).trans (z_set_ne _ _ h1), ⟨n1, f1, z_set_row _ (z_set_row _ r1 (by omega) (by omega)) (by omega) (by omega)⟩, ⟨n2, f2, z_set_row _ (z_set_row _ r2 (by omega) (by omega)) (by omega) (by omega)⟩, (k_ft.set _ (by omega)).tr (k_ft.set _ (by omega))⟩
def k_sort (K : pK) : String ⊕ (Option Value × pK) := if K.1.length = 6 then .inl z_UOE else .inr (none, ((K.2.1.length, [0], [1]) :: K.1, K.2))
theorem rl_one {f : Nat → Int32} {v : Nat} (hv : v < 1000) : rl (upd f 0 (nI v)) [v] := by
  refine ⟨by simp, fun i hi => ?_⟩
  have : i = 0 := by simp at hi; omega
  subst this
  exact ⟨pk_us, hv⟩
theorem c_TK_sort (HG : z_ok G) (hrm : z_rm G h) (H : KAt G h o K) : z_C G m_TK_sort (d + 2) [.ref o] h (tk_post G o K h (k_sort K)) := by
  obtain ⟨l1, l2, l3⟩ := H.len
  unfold k_sort
  refine z_C.of (Nat.le_of_ble_eq_true rfl) ?_
  refine z_aload_n d_TK_sort_0 rfl rfl ?_
  refine z_callVg (as := []) (dY := d + 1) d_TK_sort_1 rfl (by omega) (Y_TK_60 HG) rfl H.2.1 (cl_TK HG) (Nat.le_of_ble_eq_true rfl) (c_TK_add HG hrm H) (fun hc h' hh => ?_) (fun hc h' hh => ?_)
  · rw [if_neg hc]
    obtain ⟨k1, k2, k3, ⟨n1, f1, r1⟩, ⟨n2, f2, r2⟩, k4⟩ := k_add_ok H (by omega)
    rw [← hh] at k1 k2 k3 r1 r2 k4
    clear hh
    have hu : o + 64 ≤ k_ju o K.1.length ∧ k_ju o K.1.length + 4 ≤ o + 93 := by unfold k_ju; omega
    have hK := fun h' J => KAt.pushJ (h' := h') (J := J) H (by omega)
    generalize k_ju o K.1.length = u at *
    refine z_astore_n d_TK_sort_4 rfl (by decide) ?_
    refine z_aload_n d_TK_sort_5 rfl rfl ?_
    refine z_getf (L_TK_64K HG) (by decide) (L_TK_64 HG) d_TK_sort_6 k2 (by rfl) ?_
    refine z_iconst (v := nI 0) d_TK_sort_9 (by decide) ?_
    refine z_callV1v (dY := d + 1) d_TK_sort_10 rfl (by omega) (Y_TK_67 HG) r1.1 (cl_Row HG) (Nat.le_of_ble_eq_true rfl) (c_Row_become HG r1 (nI 0)) ?_
    have r2' := rset_row (r := u + 1) 1 (upd f1 0 (nI 0)) r2 (by omega) (by omega) (by omega)
    refine z_aload_n d_TK_sort_13 rfl rfl ?_
    refine z_getf (L_TK_71K HG) (by decide) (L_TK_71 HG) d_TK_sort_14 ((rset_ne G _ _ _ (by omega) (by omega)).trans k2) (by rfl) ?_
    refine z_iconst (v := nI 1) d_TK_sort_17 (by decide) ?_
    refine z_callV1v (dY := d + 1) d_TK_sort_18 rfl (by omega) (Y_TK_67 HG) r2'.1 (cl_Row HG) (Nat.le_of_ble_eq_true rfl) (c_Row_become HG r2' (nI 1)) ?_
    refine z_return d_TK_sort_21 rfl ⟨rfl, hK _ _ (fun y y1 y2 => (rset_out (by omega)).trans ((rset_out (by omega)).trans (k3 y y1 (by omega)))) ((rset_out (by omega)).trans ((rset_out (by omega)).trans k1)) ⟨⟨_, (rset_out (by omega)).trans ((rset_out (by omega)).trans k2), fun J e => by cases e; rfl⟩, rowL.mk (rset_row _ _ (rset_at ..) (by omega) (by omega) (by omega)) (rl_one (by omega)), rowL.mk (rset_at ..) (rl_one (by omega))⟩, k4.tr ((k_ft.rset (by omega)).tr (k_ft.rset (by omega)))⟩
  · rw [if_pos (Classical.not_not.mp hc)]
    exact ⟨rfl, h, hh, H, k_ft.rf⟩
def k_const (K : pK) (i : Int32) : String ⊕ (Option Value × pK) := match k_ix i K.2.2.1.length with
  | none => .inl z_IOB
  | some j => if K.1.length = 6 then .inl z_UOE else .inr (none, ((K.2.1.length, [10 + j], ((K.2.2.1[j]?.map (·.1)).getD [])) :: K.1, K.2))
theorem c_TK_constant (HG : z_ok G) (hrm : z_rm G h) (H : KAt G h o K) (P : pok K) (i : Int32) : z_C G m_TK_constant (d + 2) [.ref o, .int i] h (tk_post G o K h (k_const K i)) := by
  obtain ⟨l1, l2, l3⟩ := H.len
  unfold k_const
  refine z_C.of (Nat.le_of_ble_eq_true rfl) ?_
  refine z_aload_n d_TK_constant_0 rfl rfl ?_
  refine z_iload_n d_TK_constant_1 rfl rfl ?_
  refine z_callV1r (dY := d) d_TK_constant_2 rfl (by omega) (Y_TK_74 HG) H.2.1 (cl_TK HG) (Nat.le_of_ble_eq_true rfl) (c_TK_isConstant HG H.2.1 i) ?_
  rcases k_ix_cases i (n := K.2.2.1.length) (by omega) with ⟨e1, e2⟩ | ⟨j, hj, rfl, e1, e2⟩
  · rw [e1, e2]
    refine z_if_ne (tgt := 16) d_TK_constant_5 rfl (fun c1 => absurd nI_0 c1) (fun c1 => ?_)
    exact z_throw d_TK_constant_8 d_TK_constant_11 d_TK_constant_12 d_TK_constant_15 rfl (by decide +kernel) (t_TK_78 HG) hrm.1 hrm.2 (by decide) ⟨rfl, h, rfl, H, k_ft.rf⟩
  · rw [e1, e2]
    refine z_if_ne (tgt := 16) d_TK_constant_5 rfl (fun c1 => ?_) (fun c1 => absurd c1 (by decide))
    refine z_aload_n d_TK_constant_16 rfl rfl ?_
    refine z_callVg (as := []) (dY := d + 1) d_TK_constant_17 rfl (by omega) (Y_TK_60 HG) rfl H.2.1 (cl_TK HG) (Nat.le_of_ble_eq_true rfl) (c_TK_add HG hrm H) (fun hc h' hh => ?_) (fun hc h' hh => ?_)
    · simp only []
      rw [if_neg hc]
      obtain ⟨k1, k2, k3, ⟨n1, f1, r1⟩, ⟨n2, f2, r2⟩, k4⟩ := k_add_ok H (by omega)
      rw [← hh] at k1 k2 k3 r1 r2 k4
      clear hh
      have hu : o + 64 ≤ k_ju o K.1.length ∧ k_ju o K.1.length + 4 ≤ o + 93 := by unfold k_ju; omega
      have hK := fun h' J => KAt.pushJ (h' := h') (J := J) H (by omega)
      generalize k_ju o K.1.length = u at *
      have hc1 := List.getElem?_eq_getElem hj
      generalize K.2.2.1[j] = c at hc1
      obtain ⟨fc, rc, hrl⟩ := (H.2.2.2.2.1.get hc1).get
      obtain ⟨-, -, ff, ha3, hf3⟩ := H.1
      have hwf : p_wf 0 [0] c.1 := P.2.2.1 c (List.mem_of_getElem? hc1)
      have hku : o + 102 ≤ k_ku o j := by unfold k_ku; omega
      have hfj := hf3 j (by omega)
      generalize k_ku o j = w at *
      rw [hc1]
      refine z_astore_n d_TK_constant_20 rfl (by decide) ?_
      refine z_aload_n d_TK_constant_21 rfl rfl ?_
      refine z_getf (L_TK_64K HG) (by decide) (L_TK_64 HG) d_TK_constant_22 k2 (by rfl) ?_
      refine z_bipush (v := nI 10) d_TK_constant_25 (by decide +kernel) ?_
      refine z_iload_n d_TK_constant_27 rfl rfl ?_
      refine z_iadd d_TK_constant_28 ?_
      rw [nI_add]
      refine z_callV1v (dY := d + 1) d_TK_constant_29 rfl (by omega) (Y_TK_67 HG) r1.1 (cl_Row HG) (Nat.le_of_ble_eq_true rfl) (c_Row_become HG r1 (nI (10 + j))) ?_
      have r2' := rset_row (r := u + 1) 1 (upd f1 0 (nI (10 + j))) r2 (by omega) (by omega) (by omega)
      have ho2 := (rset_out (G := G) (r := u + 1) (n := 1) (f := upd f1 0 (nI (10 + j))) (y := o) (by omega)).trans k1
      have hA := (rset_out (G := G) (r := u + 1) (n := 1) (f := upd f1 0 (nI (10 + j))) (y := o + 3) (by omega)).trans ((k3 (o + 3) (by omega) (by omega)).trans ha3)
      have rc2 : rowAt G (rset G h' (u + 1) 1 (upd f1 0 (nI (10 + j)))) w c.1.length fc := ⟨(rset_out (by omega)).trans ((k3 _ (by omega) (by omega)).trans rc.1), (rset_out (by omega)).trans ((k3 _ (by omega) (by omega)).trans rc.2)⟩
      refine z_aload_n d_TK_constant_32 rfl rfl ?_
      refine z_getf (L_TK_71K HG) (by decide) (L_TK_71 HG) d_TK_constant_33 ((rset_ne G _ _ _ (by omega) (by omega)).trans k2) (by rfl) ?_
      refine z_aload_n d_TK_constant_36 rfl rfl ?_
      refine z_getf (L_TK_28K HG) (by decide) (L_TK_28 HG) d_TK_constant_37 ho2 (by rfl) ?_
      refine z_iload_n d_TK_constant_40 rfl rfl ?_
      refine z_aald (x := w) d_TK_constant_41 (ty3 HG) hA (pk_in j 8 (by omega)) (by rw [nI_clamp (by omega)]; exact hfj) ?_
      refine z_callV1v (dY := d) d_TK_constant_42 rfl (by omega) (Y_TK_81 HG) r2'.1 (cl_Row HG) (Nat.le_of_ble_eq_true rfl) (c_Row_copy HG r2' rc2 hrl (by omega) (by omega) (by omega)) ?_
      refine z_return d_TK_constant_45 rfl ⟨rfl, hK _ _ (fun y y1 y2 => (rset_out (by omega)).trans ((rset_out (by omega)).trans (k3 y y1 (by omega)))) ((rset_out (by omega)).trans ((rset_out (by omega)).trans k1)) ⟨⟨_, (rset_out (by omega)).trans ((rset_out (by omega)).trans k2), fun J e => by cases e; rfl⟩, rowL.mk (rset_row _ _ (rset_at ..) (by omega) (by omega) (by omega)) (rl_one (by omega)), rowL.mk (rset_at ..) (p_wf_rl hwf (by omega) hrl.len)⟩, k4.tr ((k_ft.rset (by omega)).tr (k_ft.rset (by omega)))⟩
    · simp only []
      rw [if_pos (Classical.not_not.mp hc)]
      exact ⟨rfl, h, hh, H, k_ft.rf⟩
end KP
end
section
/-! variable, drop, leave, counts and the views -/
theorem p_end_full {n : Nat} {S : List Nat} : ∀ {l : List Nat}, p_wf n S l → p_end S.length l = l.length := by
  intro l
  induction l generalizing S with
  | nil => intro h; rw [p_end_nil]; rfl
  | cons v l ih =>
    intro h
    cases S with
    | nil => exact h.elim
    | cons d S =>
      have := ih h.2
      rw [p_aw_len] at this
      show p_end (if p_two v = true then S.length + 2 else S.length) l + 1 = l.length + 1
      rw [this]
theorem p_lift_wl {n k : Nat} {l : List Nat} (h : p_wf n [0] l) : (p_lift k [0] l).length = l.length ∧ p_wf (n + k) [0] (p_lift k [0] l) := by
  have h1 := p_wf_lift (k := k) h
  rw [show ([0] : List Nat).map (· + k) = [0 + k] by simp, Nat.zero_add] at h1
  refine ⟨?_, p_wf_sh1.mp h1⟩
  rw [p_lift_len]
  exact p_end_full h
section KV
variable {G : z_G} {h : z_H} {d o : Nat} {K : pK}
def k_var (K : pK) (i : Int32) : String ⊕ (Option Value × pK) := match k_ix i K.2.1.length with
  | none => .inl z_IOB
  | some j => if K.1.length = 6 then .inl z_UOE else .inr (none, ((K.2.1.length, [100 + j], p_lift (j + 1) [0] (K.2.1[j]?.getD [])) :: K.1, K.2))
theorem c_TK_variable (HG : z_ok G) (hrm : z_rm G h) (H : KAt G h o K) (P : pok K) (i : Int32) : z_C G m_TK_variable (d + 2) [.ref o, .int i] h (tk_post G o K h (k_var K i)) := by
  obtain ⟨l1, l2, l3⟩ := H.len
  unfold k_var
  refine z_C.of (Nat.le_of_ble_eq_true rfl) ?_
  refine z_aload_n d_TK_variable_0 rfl rfl ?_
  refine z_iload_n d_TK_variable_1 rfl rfl ?_
  refine z_callV1r (dY := d) d_TK_variable_2 rfl (by omega) (Y_TK_85 HG) H.2.1 (cl_TK HG) (Nat.le_of_ble_eq_true rfl) (c_TK_isEntry HG H.2.1 i) ?_
  rcases k_ix_cases i (n := K.2.1.length) (by omega) with ⟨e1, e2⟩ | ⟨j, hj, rfl, e1, e2⟩
  · rw [e1, e2]
    refine z_if_ne (tgt := 16) d_TK_variable_5 rfl (fun c1 => absurd nI_0 c1) (fun c1 => ?_)
    exact z_throw d_TK_variable_8 d_TK_variable_11 d_TK_variable_12 d_TK_variable_15 rfl (by decide +kernel) (t_TK_78 HG) hrm.1 hrm.2 (by decide) ⟨rfl, h, rfl, H, k_ft.rf⟩
  · rw [e1, e2]
    refine z_if_ne (tgt := 16) d_TK_variable_5 rfl (fun c1 => ?_) (fun c1 => absurd c1 (by decide))
    refine z_aload_n d_TK_variable_16 rfl rfl ?_
    refine z_callVg (as := []) (dY := d + 1) d_TK_variable_17 rfl (by omega) (Y_TK_60 HG) rfl H.2.1 (cl_TK HG) (Nat.le_of_ble_eq_true rfl) (c_TK_add HG hrm H) (fun hc h' hh => ?_) (fun hc h' hh => ?_)
    · simp only []
      rw [if_neg hc]
      obtain ⟨k1, k2, k3, ⟨n1, f1, r1⟩, ⟨n2, f2, r2⟩, k4⟩ := k_add_ok H (by omega)
      rw [← hh] at k1 k2 k3 r1 r2 k4
      clear hh
      have hu : o + 64 ≤ k_ju o K.1.length ∧ k_ju o K.1.length + 4 ≤ o + 93 := by unfold k_ju; omega
      have hF' : tkF G h' o := H.1.keep (fun y hy => k3 y (by omega) (by unfold k_ju; omega))
      generalize hue : k_ju o K.1.length = u at *
      have hc1 := List.getElem?_eq_getElem hj
      generalize K.2.1[j] = c at hc1
      obtain ⟨fc, rc, hrl⟩ := (H.2.2.2.1.get hc1).get
      have h40 := hrl.len
      have hwf : p_wf (K.2.1.length - 1 - j) [0] c := P.2.1 j c hc1
      obtain ⟨pl1, pl2⟩ := p_lift_wl (k := j + 1) hwf
      rw [show K.2.1.length - 1 - j + (j + 1) = K.2.1.length by omega] at pl2
      have hku : o + 94 ≤ k_cu o (K.2.1.length - 1 - j) ∧ k_cu o (K.2.1.length - 1 - j) + 1 ≤ o + 101 := by unfold k_cu; omega
      rw [hc1]
      refine z_astore_n d_TK_variable_20 rfl (by decide) ?_
      refine z_aload_n d_TK_variable_21 rfl rfl ?_
      refine z_getf (L_TK_64K HG) (by decide) (L_TK_64 HG) d_TK_variable_22 k2 (by rfl) ?_
      refine z_bipush (v := nI 100) d_TK_variable_25 (by decide +kernel) ?_
      refine z_iload_n d_TK_variable_27 rfl rfl ?_
      refine z_iadd d_TK_variable_28 ?_
      rw [nI_add]
      refine z_callV1v (dY := d + 1) d_TK_variable_29 rfl (by omega) (Y_TK_67 HG) r1.1 (cl_Row HG) (Nat.le_of_ble_eq_true rfl) (c_Row_become HG r1 (nI (100 + j))) ?_
      have r1' := rset_at G h' (u + 1) 1 (upd f1 0 (nI (100 + j)))
      have r2' := rset_row (r := u + 1) 1 (upd f1 0 (nI (100 + j))) r2 (by omega) (by omega) (by omega)
      have kA : ∀ y, y < u + 1 ∨ u + 2 < y → (rset G h' (u + 1) 1 (upd f1 0 (nI (100 + j)))).2.2 y = h'.2.2 y := fun y hy => rset_out (by omega)
      have kft1 : k_ft o h' (rset G h' (u + 1) 1 (upd f1 0 (nI (100 + j)))) := k_ft.rset (by omega)
      generalize rset G h' (u + 1) 1 (upd f1 0 (nI (100 + j))) = h1 at r1' r2' kA kft1 ⊢
      refine z_aload_n d_TK_variable_32 rfl rfl ?_
      refine z_getf (L_TK_71K HG) (by decide) (L_TK_71 HG) d_TK_variable_33 ((kA u (by omega)).trans k2) (by rfl) ?_
      refine z_callV0v (dY := d) d_TK_variable_36 rfl (by omega) (Y_TK_88 HG) r2'.1 (cl_Row HG) (Nat.le_of_ble_eq_true rfl) (c_Row_clear HG r2') ?_
      have r2b := rset_at G h1 (u + 3) 0 f2
      have r1b := rset_row (r := u + 3) 0 f2 r1' (by omega) (by omega) (by omega)
      have kB : ∀ y, y < u + 1 ∨ u + 4 < y → (rset G h1 (u + 3) 0 f2).2.2 y = h'.2.2 y := fun y hy => (rset_out (by omega)).trans (kA y (by omega))
      have kft2 : k_ft o h' (rset G h1 (u + 3) 0 f2) := kft1.tr (k_ft.rset (by omega))
      generalize rset G h1 (u + 3) 0 f2 = h2 at r1b r2b kB kft2 ⊢
      have kC : ∀ y, y ≠ o → (y < u ∨ u + 4 < y) → h2.2.2 y = h.2.2 y := fun y y1 y2 => (kB y (by omega)).trans (k3 y y1 (by omega))
      have ho2 := (kB o (by omega)).trans k1
      have hF2 : tkF G h2 o := hF'.keep (fun y hy => kB y (by omega))
      have rc2 : rowAt G h2 (k_cu o (K.2.1.length - 1 - j)) c.length fc := ⟨(kC _ (by omega) (by omega)).trans rc.1, (kC _ (by omega) (by omega)).trans rc.2⟩
      obtain ⟨x, HR⟩ := H.2.2.2.2.2.2.1
      have HR2 := HR.keep (h' := h2) (fun y hy => kC y (by omega) (by omega))
      obtain ⟨a, b, nb, fx, fb, g, fr', hab, hq, -, -, -, hsc, -⟩ := id HR2
      refine z_aload_n d_TK_variable_39 rfl rfl ?_
      refine z_getf (L_TK_41K HG) (by decide) (L_TK_41 HG) d_TK_variable_40 ho2 (by rfl) ?_
      refine z_aload_n d_TK_variable_43 rfl rfl ?_
      refine z_iload_n d_TK_variable_44 rfl rfl ?_
      refine z_callV1r (dY := d) d_TK_variable_45 rfl (by omega) (Y_TK_91 HG) ho2 (cl_TK HG) (Nat.le_of_ble_eq_true rfl) (c_TK_entryAt HG ho2 hF2 l2 hj) ?_
      generalize k_cu o (K.2.1.length - 1 - j) = w at *
      refine z_iconst (v := nI 0) d_TK_variable_48 (by decide) ?_
      refine z_iload_n d_TK_variable_49 rfl rfl ?_
      refine z_iconst (v := nI 1) d_TK_variable_50 (by decide) ?_
      refine z_iadd d_TK_variable_51 ?_
      rw [nI_add]
      refine z_aload_n d_TK_variable_52 rfl rfl ?_
      refine z_getf (L_TK_71K HG) (by decide) (L_TK_71 HG) d_TK_variable_53 ((kB u (by omega)).trans k2) (by rfl) ?_
      refine z_callV4e (dY := d + 1) d_TK_variable_56 rfl (by omega) (Y_TK_95 HG) hq (cl_Rw HG) (Nat.le_of_ble_eq_true rfl) (c2_lift HG ((k4.tr kft2).rm hrm) (k := j + 1) (a := 0) (by omega) hrl (show k_rr (o + 5) (u + 3) by unfold k_rr; omega) (show k_rr (o + 5) w by unfold k_rr; omega) (show k_ne w (u + 3) by unfold k_ne; omega) (by omega) hq hsc rc2 r2b (by omega)) (fun hc2 h3 hh3 => ?_) (fun hc2 h3 hh3 => ?_)
      · obtain ⟨n', g', hh3⟩ := hh3
        rw [List.drop_zero, Nat.zero_add] at hh3
        have kfr : k_fr (o + 5) (u + 3) h2 h3 := by
          subst hh3
          exact (k_fr.wset (Or.inr rfl)).tr k_fr.rset
        have r2c : rowAt G h3 (u + 3) (p_lift (j + 1) [0] c).length (k_app f2 0 (p_lift (j + 1) [0] c)) := by
          subst hh3
          exact rset_at ..
        have hs3 : k_sc G (o + 5) h3 := by
          subst hh3
          exact hsc.w9.rset (by unfold k_rr; omega)
        have r1c : rowAt G h3 (u + 1) 1 (upd f1 0 (nI (100 + j))) := kfr.row (by unfold k_rr; omega) (by unfold k_ne; omega) r1b
        have kD : ∀ y, y < o + 12 ∨ o + 15 < y → y ≠ u + 3 → y ≠ u + 4 → h3.2.2 y = h2.2.2 y := fun y y1 y2 y3 => kfr.2.2 y (by omega) y2 (by omega)
        have HR3 := HR2.kfr (show k_out (o + 5) (u + 3) by unfold k_out; omega) kfr hs3
        have kE : ∀ y, y ≠ o → (y < u ∨ u + 4 < y) → y < o + 12 ∨ o + 15 < y → h3.2.2 y = h.2.2 y := fun y y1 y2 y3 => (kD y y3 (by omega) (by omega)).trans (kC y y1 y2)
        obtain ⟨b1, -, b3, b4, b5, b6, -, b8⟩ := H
        refine z_return d_TK_variable_59 rfl ⟨rfl, ⟨b1.keep (fun y hy => kE y (by omega) (by omega) (by omega)), (kD o (by omega) (by omega) (by omega)).trans ho2, b3.push (by omega) (fun y y1 y2 => kE y (by omega) (by omega) (by omega)) ?_, b4.keep (fun y hy => kE y (by omega) (by omega) (by omega)), b5.keep (kE _ (by omega) (by omega) (by omega)) (fun y hy => kE y (by omega) (by omega) (by omega)), b6.keep (fun y hy => kE y (by omega) (by omega) (by omega)), ⟨x, HR3⟩, b8.keep (fun y hy => kE y (by omega) (by omega) (by omega))⟩, k4.tr (kft2.tr ⟨kfr.1, kfr.2.1, fun y hy => kD y (by omega) (by omega) (by omega)⟩)⟩
        rw [hue]
        exact ⟨⟨_, (kD u (by omega) (by omega) (by omega)).trans ((kB u (by omega)).trans k2), fun J e => by cases e; rfl⟩, rowL.mk r1c (rl_one (by omega)), rowL.mk r2c (p_wf_rl pl2 l2 (by omega))⟩
      · rw [List.drop_zero] at hc2
        omega
    · simp only []
      rw [if_pos (Classical.not_not.mp hc)]
      exact ⟨rfl, h, hh, H, k_ft.rf⟩
/-- the counts alone have changed -/
theorem KAt.cnt {h' : z_H} {js : List pJ} {cs : List (List Nat)} (H : KAt G h o K) (hj : jsAt G h o js) (hc : csAt G h o cs) (k : ∀ y, y ≠ o → h'.2.2 y = h.2.2 y) (ho : h'.2.2 o = some (k_tk o js.length cs.length K.2.2.1.length)) : KAt G h' o (js, cs, K.2.2) := by
  obtain ⟨h1, -, h3, h4, h5, h6, ⟨x, h7⟩, h8⟩ := H
  exact ⟨h1.keep (fun y hy => k y (by omega)), ho, hj.keep (fun y hy => k y (by omega)), hc.keep (fun y hy => k y (by omega)), h5.keep (k _ (by omega)) (fun y hy => k y (by omega)), h6.keep (fun y hy => k y (by omega)), ⟨x, h7.keep (fun y hy => k y (by omega))⟩, h8.keep (fun y hy => k y (by omega))⟩
def k_drop (K : pK) : String ⊕ (Option Value × pK) := match K.1 with
  | [] => .inr (some (.int (nI 0)), K)
  | _ :: js => .inr (some (.int (nI 1)), (js, K.2))
theorem c_TK_drop (HG : z_ok G) (H : KAt G h o K) : z_C G m_TK_drop d [.ref o] h (tk_post G o K h (k_drop K)) := by
  obtain ⟨l1, l2, l3⟩ := H.len
  refine z_C.of (Nat.le_of_ble_eq_true rfl) ?_
  refine z_aload_n d_TK_drop_0 rfl rfl ?_
  refine z_getf (L_TK_15K HG) (by decide) (L_TK_15 HG) d_TK_drop_1 H.2.1 (by rfl) ?_
  obtain ⟨js, K2⟩ := K
  cases js with
  | nil =>
    refine z_if_ne (tgt := 9) d_TK_drop_4 rfl (fun c1 => absurd nI_0 c1) (fun c1 => ?_)
    refine z_iconst (v := nI 0) d_TK_drop_7 (by decide) ?_
    exact z_ireturn d_TK_drop_8 rfl rfl ⟨rfl, H, k_ft.rf⟩
  | cons J js =>
    rw [List.length_cons] at l1
    refine z_if_ne (tgt := 9) d_TK_drop_4 rfl (fun c1 => ?_) (fun c1 => absurd c1 (nI_ne0 (by simp) (by simp; omega)))
    refine z_aload_n d_TK_drop_9 rfl rfl ?_
    refine z_dup d_TK_drop_10 rfl ?_
    refine z_getf (L_TK_15K HG) (by decide) (L_TK_15 HG) d_TK_drop_11 H.2.1 (by rfl) ?_
    refine z_iconst (v := nI 1) d_TK_drop_14 (by decide) ?_
    refine z_isub d_TK_drop_15 ?_
    rw [pk_sub (by simp)]
    refine z_putf (L_TK_15K HG) (by decide) (L_TK_15 HG) rfl d_TK_drop_16 H.2.1 rfl rfl (Nat.le_of_ble_eq_true rfl) ?_
    refine z_iconst (v := nI 1) d_TK_drop_19 (by decide) ?_
    exact z_ireturn d_TK_drop_20 rfl rfl ⟨rfl, H.cnt H.2.2.1.pop H.2.2.2.1 (fun y hy => z_set_ne h _ hy) (z_set_at ..), k_ft.set _ (by omega)⟩
def k_leave (K : pK) : String ⊕ (Option Value × pK) := match K.2.1 with
  | [] => .inr (some (.int (nI 0)), K)
  | _ :: cs => if p_cnt K.1 K.2.1.length = 0 then .inr (some (.int (nI 1)), (K.1, cs, K.2.2)) else .inr (some (.int (nI 0)), K)
theorem c_TK_leave (HG : z_ok G) (H : KAt G h o K) (P : pok K) : z_C G m_TK_leave (d + 1) [.ref o] h (tk_post G o K h (k_leave K)) := by
  obtain ⟨l1, l2, l3⟩ := H.len
  refine z_C.of (Nat.le_of_ble_eq_true rfl) ?_
  refine z_aload_n d_TK_leave_0 rfl rfl ?_
  refine z_getf (L_TK_25K HG) (by decide) (L_TK_25 HG) d_TK_leave_1 H.2.1 (by rfl) ?_
  obtain ⟨js, cs, K2⟩ := K
  cases cs with
  | nil =>
    refine z_if_eq (tgt := 14) d_TK_leave_4 rfl (fun c1 => ?_) (fun c1 => absurd nI_0 c1)
    refine z_iconst (v := nI 0) d_TK_leave_14 (by decide) ?_
    exact z_ireturn d_TK_leave_15 rfl rfl ⟨rfl, H, k_ft.rf⟩
  | cons c cs =>
    have l2' : cs.length + 1 ≤ 4 := l2
    have hcl : p_cnt js (c :: cs).length ≤ 6 := Nat.le_trans List.countP_le_length l1
    refine z_if_eq (tgt := 14) d_TK_leave_4 rfl (fun c1 => absurd c1 (nI_ne0 (by simp) (by simp; omega))) (fun c1 => ?_)
    refine z_aload_n d_TK_leave_7 rfl rfl ?_
    refine z_callV0r (dY := d) d_TK_leave_8 rfl (by omega) (Y_TK_169 HG) H.2.1 (cl_TK HG) (Nat.le_of_ble_eq_true rfl) (c_TK_presentCount HG H.2.1 H.1 H.2.2.1 (pok.e4 H P) l2) ?_
    show z_V G m_TK_leave (d + 1) 11 _ _ h (tk_post G o (js, c :: cs, K2) h (if p_cnt js (c :: cs).length = 0 then .inr (some (.int (nI 1)), (js, cs, K2)) else .inr (some (.int (nI 0)), (js, c :: cs, K2))))
    show z_V G m_TK_leave (d + 1) 11 _ (.int (nI (p_cnt js (c :: cs).length)) :: _) h _
    generalize p_cnt js (c :: cs).length = m at *
    refine z_if_le (tgt := 16) d_TK_leave_11 rfl (fun c2 => ?_) (fun c2 => ?_)
    · rw [← nI_0, nI_leI (by omega) (by omega)] at c2
      rw [if_pos (by omega)]
      refine z_aload_n d_TK_leave_16 rfl rfl ?_
      refine z_dup d_TK_leave_17 rfl ?_
      refine z_getf (L_TK_25K HG) (by decide) (L_TK_25 HG) d_TK_leave_18 H.2.1 (by rfl) ?_
      refine z_iconst (v := nI 1) d_TK_leave_21 (by decide) ?_
      refine z_isub d_TK_leave_22 ?_
      rw [pk_sub (by simp)]
      refine z_putf (L_TK_25K HG) (by decide) (L_TK_25 HG) rfl d_TK_leave_23 H.2.1 rfl rfl (Nat.le_of_ble_eq_true rfl) ?_
      refine z_iconst (v := nI 1) d_TK_leave_26 (by decide) ?_
      exact z_ireturn d_TK_leave_27 rfl rfl ⟨rfl, H.cnt H.2.2.1 H.2.2.2.1.pop (fun y hy => z_set_ne h _ hy) (z_set_at ..), k_ft.set _ (by omega)⟩
    · rw [← nI_0, nI_leI (by omega) (by omega)] at c2
      rw [if_neg (by omega)]
      refine z_iconst (v := nI 0) d_TK_leave_14 (by decide) ?_
      exact z_ireturn d_TK_leave_15 rfl rfl ⟨rfl, H, k_ft.rf⟩
end KV
end
section
/-! counts, judgement, made, entry, type, side -/
def p_at (l : List Nat) (i : Int32) : Int32 := match k_ix i l.length with
  | none => -1
  | some j => nI (l.getD j 0)
theorem k_at_rl {f : Nat → Int32} {l : List Nat} (h : rl f l) (i : Int32) : k_at l.length f i = p_at l i := by
  have h40 := h.len
  unfold p_at k_ix k_at
  by_cases h1 : i < 0
  · rw [if_pos h1, if_pos h1]
  · by_cases h2 : nI l.length ≤ i
    · rw [if_neg h1, if_neg h1, if_pos h2, if_pos h2]
    · rw [if_neg h1, if_neg h1, if_neg h2, if_neg h2]
      rcases pk_ix i (n := l.length) (by omega) with h | h' | ⟨j, hj, rfl⟩
      · exact absurd h h1
      · exact absurd h' h2
      · simp only []
        rw [nI_clamp (by omega), h.eq hj]
section KL
variable {G : z_G} {h : z_H} {d o : Nat} {K : pK}
theorem c_TK_counts (HG : z_ok G) (H : KAt G h o K) : z_C G m_TK_counts d [.ref o] h (z_rq (some (.int (nI (K.1.length + 8 * K.2.1.length + 64 * K.2.2.1.length + 1024 * K.2.2.2.length)))) h) := by
  obtain ⟨x, a, b, nb, fx, fb, g, fr', hab, hq, -⟩ := H.2.2.2.2.2.2.1
  refine z_C.of (Nat.le_of_ble_eq_true rfl) ?_
  refine z_aload_n d_TK_counts_0 rfl rfl ?_
  refine z_getf (L_TK_15K HG) (by decide) (L_TK_15 HG) d_TK_counts_1 H.2.1 (by rfl) ?_
  refine z_bipush (v := nI 8) d_TK_counts_4 (by decide +kernel) ?_
  refine z_aload_n d_TK_counts_6 rfl rfl ?_
  refine z_getf (L_TK_25K HG) (by decide) (L_TK_25 HG) d_TK_counts_7 H.2.1 (by rfl) ?_
  refine z_imul d_TK_counts_10 ?_
  rw [pk_mul]
  refine z_iadd d_TK_counts_11 ?_
  rw [nI_add]
  refine z_bipush (v := nI 64) d_TK_counts_12 (by decide +kernel) ?_
  refine z_aload_n d_TK_counts_14 rfl rfl ?_
  refine z_getf (L_TK_35K HG) (by decide) (L_TK_35 HG) d_TK_counts_15 H.2.1 (by rfl) ?_
  refine z_imul d_TK_counts_18 ?_
  rw [pk_mul]
  refine z_iadd d_TK_counts_19 ?_
  rw [nI_add]
  refine z_sipush (v := nI 1024) d_TK_counts_20 (by decide +kernel) ?_
  refine z_aload_n d_TK_counts_23 rfl rfl ?_
  refine z_getf (L_TK_41K HG) (by decide) (L_TK_41 HG) d_TK_counts_24 H.2.1 (by rfl) ?_
  refine z_getf (L_TK_149K HG) (by decide) (L_TK_149 HG) d_TK_counts_27 hq (by rfl) ?_
  refine z_imul d_TK_counts_30 ?_
  rw [pk_mul]
  refine z_iadd d_TK_counts_31 ?_
  rw [nI_add]
  exact z_ireturn d_TK_counts_32 rfl rfl ⟨rfl, rfl⟩
def k_judg (K : pK) (k t i : Int32) : Int32 := match k_ix k K.1.length with
  | none => -1
  | some j => if t = 0 then p_at ((K.1[j]?.getD (0, [], [])).2.1) i else p_at ((K.1[j]?.getD (0, [], [])).2.2) i
theorem c_TK_judgement (HG : z_ok G) (H : KAt G h o K) (k t i : Int32) : z_C G m_TK_judgement (d + 1) [.ref o, .int k, .int t, .int i] h (z_rq (some (.int (k_judg K k t i))) h) := by
  obtain ⟨l1, l2, l3⟩ := H.len
  unfold k_judg
  refine z_C.of (Nat.le_of_ble_eq_true rfl) ?_
  refine z_aload_n d_TK_judgement_0 rfl rfl ?_
  refine z_iload_n d_TK_judgement_1 rfl rfl ?_
  refine z_callV1r (dY := d) d_TK_judgement_2 rfl (by omega) (Y_TK_173 HG) H.2.1 (cl_TK HG) (Nat.le_of_ble_eq_true rfl) (c_TK_isJudgement HG H.2.1 k) ?_
  rcases k_ix_cases k (n := K.1.length) (by omega) with ⟨e1, e2⟩ | ⟨j, hj, rfl, e1, e2⟩
  · rw [e1, e2]
    refine z_if_ne (tgt := 10) d_TK_judgement_5 rfl (fun c1 => absurd nI_0 c1) (fun c1 => ?_)
    refine z_iconst (v := -1) d_TK_judgement_8 (by decide) ?_
    exact z_ireturn d_TK_judgement_9 rfl rfl ⟨rfl, rfl⟩
  · rw [e1, e2]
    refine z_if_ne (tgt := 10) d_TK_judgement_5 rfl (fun c1 => ?_) (fun c1 => absurd c1 (by decide))
    refine z_aload_n d_TK_judgement_10 rfl rfl ?_
    refine z_iload_n d_TK_judgement_11 rfl rfl ?_
    refine z_callV1r (dY := d) d_TK_judgement_12 rfl (by omega) (Y_TK_176 HG) H.2.1 (cl_TK HG) (Nat.le_of_ble_eq_true rfl) (c_TK_judgementAt HG H.2.1 H.1 l1 hj) ?_
    have hJ := List.getElem?_eq_getElem hj
    generalize K.1[j] = J at hJ
    have hu := H.2.2.1.get hJ
    obtain ⟨ft, rt, hlt⟩ := rowL.get hu.2.1
    obtain ⟨fy, ry, hly⟩ := rowL.get hu.2.2
    have hu := hu.ob
    generalize k_ju o (K.1.length - 1 - j) = u at *
    simp only [hJ, Option.getD_some]
    refine z_astore d_TK_judgement_15 (by decide) ?_
    refine z_iload_n d_TK_judgement_17 rfl rfl ?_
    refine z_if_eq (tgt := 33) d_TK_judgement_18 rfl (fun c2 => ?_) (fun c2 => ?_)
    · rw [if_pos c2]
      refine z_aload d_TK_judgement_33 rfl ?_
      refine z_getf (L_TK_64K HG) (by decide) (L_TK_64 HG) d_TK_judgement_35 hu (by rfl) ?_
      refine z_iload_n d_TK_judgement_38 rfl rfl ?_
      refine z_callV1r (dY := d) d_TK_judgement_39 rfl (by omega) (Y_TK_107 HG) rt.1 (cl_Row HG) (Nat.le_of_ble_eq_true rfl) (c_Row_at HG rt hlt.len i) ?_
      rw [k_at_rl hlt]
      exact z_ireturn d_TK_judgement_42 rfl rfl ⟨rfl, rfl⟩
    · rw [if_neg c2]
      refine z_aload d_TK_judgement_21 rfl ?_
      refine z_getf (L_TK_71K HG) (by decide) (L_TK_71 HG) d_TK_judgement_23 hu (by rfl) ?_
      refine z_iload_n d_TK_judgement_26 rfl rfl ?_
      refine z_callV1r (dY := d) d_TK_judgement_27 rfl (by omega) (Y_TK_107 HG) ry.1 (cl_Row HG) (Nat.le_of_ble_eq_true rfl) (c_Row_at HG ry hly.len i) ?_
      rw [k_at_rl hly]
      refine z_goto (tgt := 42) d_TK_judgement_30 rfl ?_
      exact z_ireturn d_TK_judgement_42 rfl rfl ⟨rfl, rfl⟩
def k_made (K : pK) (k : Int32) : Int32 := match k_ix k K.1.length with
  | none => -1
  | some j => nI (K.1[j]?.getD (0, [], [])).1
theorem c_TK_made (HG : z_ok G) (H : KAt G h o K) (k : Int32) : z_C G m_TK_made (d + 1) [.ref o, .int k] h (z_rq (some (.int (k_made K k))) h) := by
  obtain ⟨l1, l2, l3⟩ := H.len
  unfold k_made
  refine z_C.of (Nat.le_of_ble_eq_true rfl) ?_
  refine z_aload_n d_TK_made_0 rfl rfl ?_
  refine z_iload_n d_TK_made_1 rfl rfl ?_
  refine z_callV1r (dY := d) d_TK_made_2 rfl (by omega) (Y_TK_173 HG) H.2.1 (cl_TK HG) (Nat.le_of_ble_eq_true rfl) (c_TK_isJudgement HG H.2.1 k) ?_
  rcases k_ix_cases k (n := K.1.length) (by omega) with ⟨e1, e2⟩ | ⟨j, hj, rfl, e1, e2⟩
  · rw [e1, e2]
    refine z_if_eq (tgt := 19) d_TK_made_5 rfl (fun c1 => ?_) (fun c1 => absurd nI_0 c1)
    refine z_iconst (v := -1) d_TK_made_19 (by decide) ?_
    exact z_ireturn d_TK_made_20 rfl rfl ⟨rfl, rfl⟩
  · rw [e1, e2]
    refine z_if_eq (tgt := 19) d_TK_made_5 rfl (fun c1 => absurd c1 (by decide)) (fun c1 => ?_)
    refine z_aload_n d_TK_made_8 rfl rfl ?_
    refine z_iload_n d_TK_made_9 rfl rfl ?_
    refine z_callV1r (dY := d) d_TK_made_10 rfl (by omega) (Y_TK_176 HG) H.2.1 (cl_TK HG) (Nat.le_of_ble_eq_true rfl) (c_TK_judgementAt HG H.2.1 H.1 l1 hj) ?_
    have hJ := List.getElem?_eq_getElem hj
    generalize K.1[j] = J at hJ
    have hu := (H.2.2.1.get hJ).ob
    simp only [hJ, Option.getD_some]
    refine z_getf (L_TK_166K HG) (by decide) (L_TK_166 HG) d_TK_made_13 hu (by rfl) ?_
    refine z_goto (tgt := 20) d_TK_made_16 rfl ?_
    exact z_ireturn d_TK_made_20 rfl rfl ⟨rfl, rfl⟩
def k_entry (K : pK) (k i : Int32) : Int32 := match k_ix k K.2.1.length with
  | none => -1
  | some j => p_at (K.2.1[j]?.getD []) i
theorem c_TK_entry (HG : z_ok G) (H : KAt G h o K) (k i : Int32) : z_C G m_TK_entry (d + 1) [.ref o, .int k, .int i] h (z_rq (some (.int (k_entry K k i))) h) := by
  obtain ⟨l1, l2, l3⟩ := H.len
  unfold k_entry
  refine z_C.of (Nat.le_of_ble_eq_true rfl) ?_
  refine z_aload_n d_TK_entry_0 rfl rfl ?_
  refine z_iload_n d_TK_entry_1 rfl rfl ?_
  refine z_callV1r (dY := d) d_TK_entry_2 rfl (by omega) (Y_TK_85 HG) H.2.1 (cl_TK HG) (Nat.le_of_ble_eq_true rfl) (c_TK_isEntry HG H.2.1 k) ?_
  rcases k_ix_cases k (n := K.2.1.length) (by omega) with ⟨e1, e2⟩ | ⟨j, hj, rfl, e1, e2⟩
  · rw [e1, e2]
    refine z_if_eq (tgt := 20) d_TK_entry_5 rfl (fun c1 => ?_) (fun c1 => absurd nI_0 c1)
    refine z_iconst (v := -1) d_TK_entry_20 (by decide) ?_
    exact z_ireturn d_TK_entry_21 rfl rfl ⟨rfl, rfl⟩
  · rw [e1, e2]
    refine z_if_eq (tgt := 20) d_TK_entry_5 rfl (fun c1 => absurd c1 (by decide)) (fun c1 => ?_)
    refine z_aload_n d_TK_entry_8 rfl rfl ?_
    refine z_iload_n d_TK_entry_9 rfl rfl ?_
    refine z_callV1r (dY := d) d_TK_entry_10 rfl (by omega) (Y_TK_91 HG) H.2.1 (cl_TK HG) (Nat.le_of_ble_eq_true rfl) (c_TK_entryAt HG H.2.1 H.1 l2 hj) ?_
    have hJ := List.getElem?_eq_getElem hj
    generalize K.2.1[j] = c at hJ
    obtain ⟨f, r, hl⟩ := (H.2.2.2.1.get hJ).get
    simp only [hJ, Option.getD_some]
    refine z_iload_n d_TK_entry_13 rfl rfl ?_
    refine z_callV1r (dY := d) d_TK_entry_14 rfl (by omega) (Y_TK_107 HG) r.1 (cl_Row HG) (Nat.le_of_ble_eq_true rfl) (c_Row_at HG r hl.len i) ?_
    rw [k_at_rl hl]
    refine z_goto (tgt := 21) d_TK_entry_17 rfl ?_
    exact z_ireturn d_TK_entry_21 rfl rfl ⟨rfl, rfl⟩
def k_type (K : pK) (k i : Int32) : Int32 := match k_ix k K.2.2.1.length with
  | none => -1
  | some j => if i = -1 then (if (K.2.2.1[j]?.getD ([], false)).2 = true then nI 1 else nI 0) else p_at (K.2.2.1[j]?.getD ([], false)).1 i
theorem c_TK_type (HG : z_ok G) (H : KAt G h o K) (k i : Int32) : z_C G m_TK_type (d + 1) [.ref o, .int k, .int i] h (z_rq (some (.int (k_type K k i))) h) := by
  obtain ⟨l1, l2, l3⟩ := H.len
  unfold k_type
  refine z_C.of (Nat.le_of_ble_eq_true rfl) ?_
  refine z_aload_n d_TK_type_0 rfl rfl ?_
  refine z_iload_n d_TK_type_1 rfl rfl ?_
  refine z_callV1r (dY := d) d_TK_type_2 rfl (by omega) (Y_TK_74 HG) H.2.1 (cl_TK HG) (Nat.le_of_ble_eq_true rfl) (c_TK_isConstant HG H.2.1 k) ?_
  rcases k_ix_cases k (n := K.2.2.1.length) (by omega) with ⟨e1, e2⟩ | ⟨j, hj, rfl, e1, e2⟩
  · rw [e1, e2]
    refine z_if_ne (tgt := 10) d_TK_type_5 rfl (fun c1 => absurd nI_0 c1) (fun c1 => ?_)
    refine z_iconst (v := -1) d_TK_type_8 (by decide) ?_
    exact z_ireturn d_TK_type_9 rfl rfl ⟨rfl, rfl⟩
  · rw [e1, e2]
    refine z_if_ne (tgt := 10) d_TK_type_5 rfl (fun c1 => ?_) (fun c1 => absurd c1 (by decide))
    have hJ := List.getElem?_eq_getElem hj
    generalize K.2.2.1[j] = c at hJ
    obtain ⟨f, r, hl⟩ := (H.2.2.2.2.1.get hJ).get
    obtain ⟨fd, hd1, hd2⟩ := H.2.2.2.2.1.2
    obtain ⟨-, -, ff, ha3, hf3⟩ := H.1
    simp only [hJ, Option.getD_some]
    refine z_iload_n d_TK_type_10 rfl rfl ?_
    refine z_iconst (v := -1) d_TK_type_11 (by decide) ?_
    refine z_icmp_ne (tgt := 30) d_TK_type_12 rfl (fun c2 => ?_) (fun c2 => ?_)
    · rw [if_neg c2]
      refine z_aload_n d_TK_type_30 rfl rfl ?_
      refine z_getf (L_TK_28K HG) (by decide) (L_TK_28 HG) d_TK_type_31 H.2.1 (by rfl) ?_
      refine z_iload_n d_TK_type_34 rfl rfl ?_
      refine z_aald d_TK_type_35 (ty3 HG) ha3 (pk_in j 8 (by omega)) (by rw [nI_clamp (by omega)]; exact hf3 j (by omega)) ?_
      refine z_iload_n d_TK_type_36 rfl rfl ?_
      refine z_callV1r (dY := d) d_TK_type_37 rfl (by omega) (Y_TK_107 HG) r.1 (cl_Row HG) (Nat.le_of_ble_eq_true rfl) (c_Row_at HG r hl.len i) ?_
      rw [k_at_rl hl]
      exact z_ireturn d_TK_type_40 rfl rfl ⟨rfl, rfl⟩
    · rw [if_pos c2]
      refine z_aload_n d_TK_type_15 rfl rfl ?_
      refine z_getf (L_TK_31K HG) (by decide) (L_TK_31 HG) d_TK_type_16 H.2.1 (by rfl) ?_
      refine z_iload_n d_TK_type_19 rfl rfl ?_
      refine z_zald d_TK_type_20 (ty2 HG) hd1 (pk_in j 8 (by omega)) ?_
      rw [nI_clamp (by omega), hd2 j c hJ]
      by_cases hb : c.2 = true
      · rw [if_pos hb]
        refine z_if_eq (tgt := 28) d_TK_type_21 rfl (fun c3 => absurd c3 (by decide)) (fun c3 => ?_)
        refine z_iconst (v := nI 1) d_TK_type_24 (by decide) ?_
        refine z_goto (tgt := 29) d_TK_type_25 rfl ?_
        exact z_ireturn d_TK_type_29 rfl rfl ⟨rfl, rfl⟩
      · rw [if_neg hb]
        refine z_if_eq (tgt := 28) d_TK_type_21 rfl (fun c3 => ?_) (fun c3 => absurd nI_0 c3)
        refine z_iconst (v := nI 0) d_TK_type_28 (by decide) ?_
        exact z_ireturn d_TK_type_29 rfl rfl ⟨rfl, rfl⟩
def k_side (K : pK) (k t i : Int32) : Int32 := match k_ix k K.2.2.2.length with
  | none => -1
  | some j => if i = -1 then nI (K.2.2.2[j]?.getD ([], [], 0)).2.2 else if t = 0 then p_at (K.2.2.2[j]?.getD ([], [], 0)).1 i else p_at (K.2.2.2[j]?.getD ([], [], 0)).2.1 i
theorem c_TK_side (HG : z_ok G) (H : KAt G h o K) (k t i : Int32) : z_C G m_TK_side (d + 1) [.ref o, .int k, .int t, .int i] h (z_rq (some (.int (k_side K k t i))) h) := by
  obtain ⟨x, a, b, nb, fx, fb, g, fr', hab, hq, h1, hfr, -, -, -, -, -, hR⟩ := H.2.2.2.2.2.2.1
  have h8 := hR.1
  unfold k_side
  refine z_C.of (Nat.le_of_ble_eq_true rfl) ?_
  refine z_iload_n d_TK_side_0 rfl rfl ?_
  rcases pk_ix k (n := K.2.2.2.length) (by omega) with hk | hk | ⟨j, hj, rfl⟩
  · have e1 : k_ix k K.2.2.2.length = none := by
      unfold k_ix
      rw [if_pos hk]
    rw [e1]
    refine z_if_lt (tgt := 15) d_TK_side_1 rfl (fun c1 => ?_) (fun c1 => absurd hk c1)
    refine z_iconst (v := -1) d_TK_side_15 (by decide) ?_
    exact z_ireturn d_TK_side_16 rfl rfl ⟨rfl, rfl⟩
  · have e1 : k_ix k K.2.2.2.length = none := by
      unfold k_ix
      by_cases hk0 : k < 0
      · rw [if_pos hk0]
      · rw [if_neg hk0, if_pos hk]
    rw [e1]
    refine z_if_lt (tgt := 15) d_TK_side_1 rfl (fun c1 => ?_) (fun c1 => ?_)
    · refine z_iconst (v := -1) d_TK_side_15 (by decide) ?_
      exact z_ireturn d_TK_side_16 rfl rfl ⟨rfl, rfl⟩
    · refine z_iload_n d_TK_side_4 rfl rfl ?_
      refine z_aload_n d_TK_side_5 rfl rfl ?_
      refine z_getf (L_TK_41K HG) (by decide) (L_TK_41 HG) d_TK_side_6 H.2.1 (by rfl) ?_
      refine z_getf (L_TK_149K HG) (by decide) (L_TK_149 HG) d_TK_side_9 hq (by rfl) ?_
      refine z_icmp_lt (tgt := 17) d_TK_side_12 rfl (fun c2 => ?_) (fun c2 => ?_)
      · rw [Int32.lt_iff_toInt_lt] at c2
        rw [Int32.le_iff_toInt_le] at hk
        omega
      · refine z_iconst (v := -1) d_TK_side_15 (by decide) ?_
        exact z_ireturn d_TK_side_16 rfl rfl ⟨rfl, rfl⟩
  · have e1 : k_ix (nI j) K.2.2.2.length = some j := by
      unfold k_ix
      rw [if_neg (nI_pos (by omega)), if_neg (nI_ge hj (by omega)), nI_clamp (by omega)]
    rw [e1]
    have hJ := List.getElem?_eq_getElem hj
    generalize K.2.2.2[j] = R at hJ
    obtain ⟨hnv, hu, ⟨fl, rl1, hl1⟩, fr, rr1, hr1⟩ := hR.2 j R hJ
    simp only [hJ, Option.getD_some]
    refine z_if_lt (tgt := 15) d_TK_side_1 rfl (fun c1 => absurd c1 (nI_pos (by omega))) (fun c1 => ?_)
    refine z_iload_n d_TK_side_4 rfl rfl ?_
    refine z_aload_n d_TK_side_5 rfl rfl ?_
    refine z_getf (L_TK_41K HG) (by decide) (L_TK_41 HG) d_TK_side_6 H.2.1 (by rfl) ?_
    refine z_getf (L_TK_149K HG) (by decide) (L_TK_149 HG) d_TK_side_9 hq (by rfl) ?_
    refine z_icmp_lt (tgt := 17) d_TK_side_12 rfl (fun c2 => ?_) (fun c2 => absurd (nI_lt hj (by omega)) c2)
    refine z_aload_n d_TK_side_17 rfl rfl ?_
    refine z_getf (L_TK_41K HG) (by decide) (L_TK_41 HG) d_TK_side_18 H.2.1 (by rfl) ?_
    refine z_getf (L_TK_179K HG) (by decide) (L_TK_179 HG) d_TK_side_21 hq (by rfl) ?_
    refine z_iload_n d_TK_side_24 rfl rfl ?_
    refine z_aald d_TK_side_25 (ty5 HG) h1 (pk_in j 8 (by omega)) (by rw [nI_clamp (by omega)]; exact hfr j (by omega)) ?_
    refine z_astore d_TK_side_26 (by decide) ?_
    refine z_iload_n d_TK_side_28 rfl rfl ?_
    refine z_iconst (v := -1) d_TK_side_29 (by decide) ?_
    refine z_icmp_ne (tgt := 39) d_TK_side_30 rfl (fun c3 => ?_) (fun c3 => ?_)
    · rw [if_neg c3]
      refine z_iload_n d_TK_side_39 rfl rfl ?_
      refine z_if_eq (tgt := 55) d_TK_side_40 rfl (fun c4 => ?_) (fun c4 => ?_)
      · rw [if_pos c4]
        refine z_aload d_TK_side_55 rfl ?_
        refine z_getf (L_TK_191K HG) (by decide) (L_TK_191 HG) d_TK_side_57 hu (by rfl) ?_
        refine z_iload_n d_TK_side_60 rfl rfl ?_
        refine z_callV1r (dY := d) d_TK_side_61 rfl (by omega) (Y_TK_107 HG) rl1.1 (cl_Row HG) (Nat.le_of_ble_eq_true rfl) (c_Row_at HG rl1 hl1.len i) ?_
        rw [k_at_rl hl1]
        exact z_ireturn d_TK_side_64 rfl rfl ⟨rfl, rfl⟩
      · rw [if_neg c4]
        refine z_aload d_TK_side_43 rfl ?_
        refine z_getf (L_TK_188K HG) (by decide) (L_TK_188 HG) d_TK_side_45 hu (by rfl) ?_
        refine z_iload_n d_TK_side_48 rfl rfl ?_
        refine z_callV1r (dY := d) d_TK_side_49 rfl (by omega) (Y_TK_107 HG) rr1.1 (cl_Row HG) (Nat.le_of_ble_eq_true rfl) (c_Row_at HG rr1 hr1.len i) ?_
        rw [k_at_rl hr1]
        refine z_goto (tgt := 64) d_TK_side_52 rfl ?_
        exact z_ireturn d_TK_side_64 rfl rfl ⟨rfl, rfl⟩
    · rw [if_pos c3]
      refine z_aload d_TK_side_33 rfl ?_
      refine z_getf (L_TK_183K HG) (by decide) (L_TK_183 HG) d_TK_side_35 hu (by rfl) ?_
      exact z_ireturn d_TK_side_38 rfl rfl ⟨rfl, rfl⟩
end KL
end
section
/-! assume, declare, bind, lambda, product, normal, same -/
theorem rl_copy {f g : Nat → Int32} {l : List Nat} (h : rl f l) : rl (k_app g 0 l) l := ⟨h.1, fun i hi => ⟨by unfold k_app; rw [if_pos (by omega), Nat.sub_zero], (h.2 i hi).2⟩⟩
section KC
variable {G : z_G} {h : z_H} {d o : Nat} {K : pK}
theorem c2_join (HG : z_ok G) {r s s2 n v : Nat} {f fs fs2 : Nat → Int32} {ls ls2 : List Nat} (hrm : z_rm G h) (hr : rowAt G h r n f) (hs : rowAt G h s ls.length fs) (hls : rl fs ls) (hs2 : rowAt G h s2 ls2.length fs2) (hls2 : rl fs2 ls2) (e : k_ne s r) (e2 : k_ne s2 r) :
    z_C G m_Row_join (d + 2) [.ref r, .int (nI v), .ref s, .ref s2] h (z_eq2 (1 + ls.length + ls2.length ≤ 40) none (fun h' => h' = rset G h r (1 + ls.length + ls2.length) (k_app f 0 (v :: (ls ++ ls2)))) (fun h' => ∃ f', h' = z_exc (rset G h r 40 f'))) :=
  z_C.eq2 (fun hc => (c_Row_join HG hr hs hls hs2 hls2 e.1 e.2.1 e.2.2 e2.1 e2.2.1 e2.2.2 hc).pq) (fun hc => c_Row_joinX HG hrm hr hs hls hs2 hls2 e.1 e.2.1 e.2.2 e2.1 e2.2.1 e2.2.2 (by omega))
theorem KAt.gen {h' : z_H} {J : pJ} {js : List pJ} {cs : List (List Nat)} (H : KAt G h o K) (hj : jsAt G h o js) (hl : js.length < 6) (hc : csAt G h o cs) (k : ∀ y, y ≠ o → (y < k_ju o js.length ∨ k_ju o js.length + 4 < y) → h'.2.2 y = h.2.2 y) (ho : h'.2.2 o = some (k_tk o (js.length + 1) cs.length K.2.2.1.length)) (HJ : jdAt G h' (k_ju o js.length) (some J)) : KAt G h' o (J :: js, cs, K.2.2) := by
  obtain ⟨h1, -, h3, h4, h5, h6, ⟨x, h7⟩, h8⟩ := H
  have hu : o + 64 ≤ k_ju o js.length ∧ k_ju o js.length + 4 ≤ o + 93 := by unfold k_ju; omega
  exact ⟨h1.keep (fun y hy => k y (by omega) (by omega)), ho, hj.push hl (fun y hy hy2 => k y (by omega) hy2) HJ, hc.keep (fun y hy => k y (by omega) (by omega)), h5.keep (k _ (by omega) (by omega)) (fun y hy => k y (by omega) (by omega)), h6.keep (fun y hy => k y (by omega) (by omega)), ⟨x, h7.keep (fun y hy => k y (by omega) (by omega))⟩, h8.keep (fun y hy => k y (by omega) (by omega))⟩
theorem KAt.fq {h1 : z_H} {x : List Nat} (H : KAt G h o K) (k : k_fq (o + 5) h h1) (HR : RwN G h1 (o + 5) K.2.2.2 x) : KAt G h1 o K := by
  obtain ⟨a1, a2, a3, a4, a5, a6, -, a8⟩ := H
  exact ⟨a1.keep (fun y hy => k.2.2 y (by omega)), (k.2.2 o (by omega)).trans a2, a3.keep (fun y hy => k.2.2 y (by omega)), a4.keep (fun y hy => k.2.2 y (by omega)), a5.keep (k.2.2 _ (by omega)) (fun y hy => k.2.2 y (by omega)), a6.keep (fun y hy => k.2.2 y (by omega)), ⟨x, HR⟩, a8.fq k⟩
theorem KAt.sc {r n : Nat} {f : Nat → Int32} (H : KAt G h o K) (hr : scR r) : KAt G (rset G h (o + r) n f) o K := by
  obtain ⟨a1, a2, a3, a4, a5, a6, ⟨x, a7⟩, a8⟩ := H
  have hr' := hr
  unfold scR at hr'
  exact ⟨a1.keep (fun y hy => rset_out (by omega)), (rset_out (by omega)).trans a2, a3.keep (fun y hy => rset_out (by omega)), a4.keep (fun y hy => rset_out (by omega)), a5.keep (rset_out (by omega)) (fun y hy => rset_out (by omega)), a6.rset hr, ⟨x, a7.rset (by unfold k_out; omega)⟩, a8.keep (fun y hy => rset_out (by omega))⟩
def k_assume (K : pK) : String ⊕ (Option Value × pK) := match K.1 with
  | [] => .inl z_ISE
  | J :: js => if J.1 = K.2.1.length then (if K.2.1.length = 4 then .inl z_UOE else if J.2.2 = [0] then .inr (none, (js, J.2.1 :: K.2.1, K.2.2)) else .inl z_IAE) else .inl z_ISE
theorem p_pres0 {js : List pJ} {J : pJ} {ne : Nat} : p_pres (J :: js) ne 0 ↔ J.1 = ne := by
  constructor
  · rintro ⟨J', h1, h2⟩
    cases h1
    exact h2
  · intro h
    exact ⟨J, rfl, h⟩
theorem c_TK_assume (HG : z_ok G) (hrm : z_rm G h) (H : KAt G h o K) (P : pok K) : z_C G m_TK_assume (d + 3) [.ref o] h (tk_post G o K h (k_assume K)) := by
  obtain ⟨l1, l2, l3⟩ := H.len
  refine z_C.of (Nat.le_of_ble_eq_true rfl) ?_
  refine z_aload_n d_TK_assume_0 rfl rfl ?_
  refine z_iconst (v := nI 0) d_TK_assume_1 (by decide) ?_
  refine z_callVg (as := [.int (nI 0)]) (dY := d + 2) d_TK_assume_2 rfl (by omega) (Y_TK_99 HG) rfl H.2.1 (cl_TK HG) (Nat.le_of_ble_eq_true rfl) (c_TK_present HG hrm H.2.1 H.1 H.2.2.1 (pok.e4 H P) l2 (k := 0) (by omega)) (fun hc h' hh => ?_) (fun hc h' hh => ?_)
  · subst hh
    obtain ⟨js, cs, K2⟩ := K
    cases js with
    | nil =>
      obtain ⟨J, e, -⟩ := hc
      cases e
    | cons J js =>
      rw [p_pres0] at hc
      have hc : J.1 = cs.length := hc
      have l1' : js.length + 1 ≤ 6 := l1
      have l2' : cs.length ≤ 4 := l2
      have eK : k_assume (J :: js, cs, K2) = if J.1 = cs.length then (if cs.length = 4 then .inl z_UOE else if J.2.2 = [0] then .inr (none, (js, J.2.1 :: cs, K2)) else .inl z_IAE) else .inl z_ISE := rfl
      rw [eK, if_pos hc]
      have hJ := H.2.2.1.get (k := 0) (J := J) rfl
      have ho := H.2.1
      show z_V G m_TK_assume (d + 3) 5 _ (.ref (k_ju o (js.length + 1 - 1 - 0)) :: []) h' _
      change jdAt G h' (k_ju o (js.length + 1 - 1 - 0)) (some J) at hJ
      change h'.2.2 o = some (k_tk o (js.length + 1) cs.length K2.1.length) at ho
      have hu : o + 64 ≤ k_ju o (js.length + 1 - 1 - 0) ∧ k_ju o (js.length + 1 - 1 - 0) + 4 ≤ o + 93 := by unfold k_ju; omega
      generalize k_ju o (js.length + 1 - 1 - 0) = u at *
      obtain ⟨ft, rt, hlt⟩ := rowL.get hJ.2.1
      obtain ⟨fy, ry, hly⟩ := rowL.get hJ.2.2
      refine z_astore_n d_TK_assume_5 rfl (by decide) ?_
      refine z_aload_n d_TK_assume_6 rfl rfl ?_
      refine z_getf (L_TK_25K HG) (by decide) (L_TK_25 HG) d_TK_assume_7 ho (by rfl) ?_
      refine z_iconst (v := nI 4) d_TK_assume_10 (by decide) ?_
      refine z_icmp_ne (tgt := 22) d_TK_assume_11 rfl (fun c1 => ?_) (fun c1 => ?_)
      · rw [nI_eq (by omega) (by omega)] at c1
        rw [if_neg c1]
        refine z_aload_n d_TK_assume_22 rfl rfl ?_
        refine z_getf (L_TK_71K HG) (by decide) (L_TK_71 HG) d_TK_assume_23 hJ.ob (by rfl) ?_
        refine z_iconst (v := nI 0) d_TK_assume_26 (by decide) ?_
        refine z_callV1r (dY := d) d_TK_assume_27 rfl (by omega) (Y_TK_132 HG) ry.1 (cl_Row HG) (Nat.le_of_ble_eq_true rfl) (c_Row_is HG ry hly.len (nI 0)) ?_
        simp only [l_is hly (show 0 < 1000 by omega)]
        by_cases hk : J.2.2 = [0]
        · rw [if_pos hk, if_pos hk]
          refine z_if_ne (tgt := 41) d_TK_assume_30 rfl (fun c2 => ?_) (fun c2 => absurd c2 (by decide))
          obtain ⟨-, ⟨f, h2, hf⟩, -⟩ := H.1
          obtain ⟨n0, f0, rc, -⟩ := H.2.2.2.1.2 cs.length (by omega)
          have hw : o + 94 ≤ k_cu o cs.length ∧ k_cu o cs.length + 1 ≤ o + 101 := by unfold k_cu; omega
          have hfc := hf cs.length (by omega)
          have hcp := fun (h1 : z_H) (c : List Nat) => csAt.push (h' := h1) (c := c) H.2.2.2.1 (by omega : cs.length < 4)
          generalize k_cu o cs.length = w at *
          refine z_aload_n d_TK_assume_41 rfl rfl ?_
          refine z_getf (L_TK_21K HG) (by decide) (L_TK_21 HG) d_TK_assume_42 ho (by rfl) ?_
          refine z_aload_n d_TK_assume_45 rfl rfl ?_
          refine z_getf (L_TK_25K HG) (by decide) (L_TK_25 HG) d_TK_assume_46 ho (by rfl) ?_
          refine z_aald (x := w) d_TK_assume_49 (ty3 HG) h2 (pk_in cs.length 4 (by omega)) (by rw [nI_clamp (by omega)]; exact hfc) ?_
          refine z_aload_n d_TK_assume_50 rfl rfl ?_
          refine z_getf (L_TK_64K HG) (by decide) (L_TK_64 HG) d_TK_assume_51 hJ.ob (by rfl) ?_
          refine z_callV1v (dY := d) d_TK_assume_54 rfl (by omega) (Y_TK_81 HG) rc.1 (cl_Row HG) (Nat.le_of_ble_eq_true rfl) (c_Row_copy HG rc rt hlt (by omega) (by omega) (by omega)) ?_
          have rcc := rset_at G h' w J.2.1.length (k_app f0 0 J.2.1)
          have kA : ∀ y, y < w ∨ w + 1 < y → (rset G h' w J.2.1.length (k_app f0 0 J.2.1)).2.2 y = h'.2.2 y := fun y hy => rset_out hy
          have kft : k_ft o h' (rset G h' w J.2.1.length (k_app f0 0 J.2.1)) := k_ft.rset (by omega)
          generalize rset G h' w J.2.1.length (k_app f0 0 J.2.1) = h1 at rcc kA kft ⊢
          have ho1 := (kA o (by omega)).trans ho
          refine z_aload_n d_TK_assume_57 rfl rfl ?_
          refine z_dup d_TK_assume_58 rfl ?_
          refine z_getf (L_TK_25K HG) (by decide) (L_TK_25 HG) d_TK_assume_59 ho1 (by rfl) ?_
          refine z_iconst (v := nI 1) d_TK_assume_62 (by decide) ?_
          refine z_iadd d_TK_assume_63 ?_
          rw [nI_add]
          refine z_putf (L_TK_25K HG) (by decide) (L_TK_25 HG) rfl d_TK_assume_64 ho1 rfl rfl (Nat.le_of_ble_eq_true rfl) ?_
          have ho2 := z_set_at h1 o (k_tk o (js.length + 1) (cs.length + 1) K2.1.length)
          show z_V G m_TK_assume (d + 3) 67 _ _ (z_set h1 o (k_tk o (js.length + 1) (cs.length + 1) K2.1.length)) _
          refine z_aload_n d_TK_assume_67 rfl rfl ?_
          refine z_dup d_TK_assume_68 rfl ?_
          refine z_getf (L_TK_15K HG) (by decide) (L_TK_15 HG) d_TK_assume_69 ho2 (by rfl) ?_
          refine z_iconst (v := nI 1) d_TK_assume_72 (by decide) ?_
          refine z_isub d_TK_assume_73 ?_
          rw [pk_sub (by omega)]
          refine z_putf (L_TK_15K HG) (by decide) (L_TK_15 HG) rfl d_TK_assume_74 ho2 rfl rfl (Nat.le_of_ble_eq_true rfl) ?_
          show z_V G m_TK_assume (d + 3) 77 _ _ (z_set (z_set h1 o (k_tk o (js.length + 1) (cs.length + 1) K2.1.length)) o (k_tk o js.length (cs.length + 1) K2.1.length)) _
          rw [z_set_set]
          obtain ⟨b1, -, b3, b4, b5, b6, ⟨x, b7⟩, b8⟩ := H
          have kB : ∀ y, y ≠ o → y < w ∨ w + 1 < y → (z_set h1 o (k_tk o js.length (cs.length + 1) K2.1.length)).2.2 y = h'.2.2 y := fun y y1 y2 => (z_set_ne _ _ y1).trans (kA y y2)
          exact z_return d_TK_assume_77 rfl ⟨rfl, ⟨b1.keep (fun y hy => kB y (by omega) (by omega)), z_set_at .., b3.pop.keep (fun y hy => kB y (by omega) (by omega)), hcp _ _ (fun y y1 y2 => kB y (by omega) (by omega)) (rowL.mk (z_set_row _ rcc (by omega) (by omega)) (rl_copy hlt)), b5.keep (kB _ (by omega) (by omega)) (fun y hy => kB y (by omega) (by omega)), b6.keep (fun y hy => kB y (by omega) (by omega)), ⟨x, b7.keep (fun y hy => kB y (by omega) (by omega))⟩, b8.keep (fun y hy => kB y (by omega) (by omega))⟩, kft.tr (k_ft.set _ (by omega))⟩
        · rw [if_neg hk, if_neg hk]
          refine z_if_ne (tgt := 41) d_TK_assume_30 rfl (fun c2 => absurd nI_0 c2) (fun c2 => ?_)
          exact z_throw d_TK_assume_33 d_TK_assume_36 d_TK_assume_37 d_TK_assume_40 rfl (by decide +kernel) (t_TK_111 HG) hrm.1 hrm.2 (by decide) ⟨rfl, h', rfl, H, k_ft.rf⟩
      · rw [nI_eq (by omega) (by omega)] at c1
        rw [if_pos c1]
        exact z_throw d_TK_assume_14 d_TK_assume_17 d_TK_assume_18 d_TK_assume_21 rfl (by decide +kernel) (t_TK_129 HG) hrm.1 hrm.2 (by decide) ⟨rfl, h', rfl, H, k_ft.rf⟩
  · have eK : k_assume K = .inl z_ISE := by
      obtain ⟨js, cs, K2⟩ := K
      cases js with
      | nil => rfl
      | cons J js =>
        rw [p_pres0] at hc
        show (if J.1 = cs.length then _ else _) = _
        rw [if_neg hc]
    rw [eK]
    exact ⟨rfl, h, hh, H, k_ft.rf⟩
end KC
end
section
/-! bind, lambda, product -/
section KB
variable {G : z_G} {h : z_H} {d o : Nat} {J : pJ} {js : List pJ} {c : List Nat} {cs : List (List Nat)} {K2 : List (List Nat × Bool) × List pR}
theorem c_TK_bind (HG : z_ok G) {t y : List Nat} {ft fy : Nat → Int32} (H : KAt G h o (J :: js, c :: cs, K2)) (ht : rowAt G h (o + 60) t.length ft) (hlt : rl ft t) (hy : rowAt G h (o + 62) y.length fy) (hly : rl fy y) :
    z_C G m_TK_bind (d + 1) [.ref o, .ref (k_ju o js.length)] h (z_pq none (fun h' => KAt G h' o ((cs.length, t, y) :: js, cs, K2) ∧ k_ft o h h')) := by
  obtain ⟨l1, l2, l3⟩ := H.len
  have l1' : js.length + 1 ≤ 6 := l1
  have l2' : cs.length + 1 ≤ 4 := l2
  have hJ : jdAt G h (k_ju o js.length) (some J) := H.2.2.1.get (k := 0) (J := J) rfl
  have ho : h.2.2 o = some (k_tk o (js.length + 1) (cs.length + 1) K2.1.length) := H.2.1
  have hu : o + 64 ≤ k_ju o js.length ∧ k_ju o js.length + 4 ≤ o + 93 := by unfold k_ju; omega
  have hgen := fun (h' : z_H) (J' : pJ) => KAt.gen (h' := h') (J := J') H H.2.2.1.pop (by omega) H.2.2.2.1.pop
  generalize k_ju o js.length = u at *
  obtain ⟨n1, f1, r1, -⟩ := hJ.2.1
  obtain ⟨n2, f2, r2, -⟩ := hJ.2.2
  refine z_C.of (Nat.le_of_ble_eq_true rfl) ?_
  refine z_aload_n d_TK_bind_0 rfl rfl ?_
  refine z_dup d_TK_bind_1 rfl ?_
  refine z_getf (L_TK_25K HG) (by decide) (L_TK_25 HG) d_TK_bind_2 ho (by rfl) ?_
  refine z_iconst (v := nI 1) d_TK_bind_5 (by decide) ?_
  refine z_isub d_TK_bind_6 ?_
  rw [pk_sub (by omega)]
  refine z_putf (L_TK_25K HG) (by decide) (L_TK_25 HG) rfl d_TK_bind_7 ho rfl rfl (Nat.le_of_ble_eq_true rfl) ?_
  show z_V G m_TK_bind (d + 1) 10 _ _ (z_set h o (k_tk o (js.length + 1) cs.length K2.1.length)) _
  have ho1 := z_set_at h o (k_tk o (js.length + 1) cs.length K2.1.length)
  have kA : ∀ y, y ≠ o → (z_set h o (k_tk o (js.length + 1) cs.length K2.1.length)).2.2 y = h.2.2 y := fun y hy => z_set_ne _ _ hy
  have kf1 : k_ft o h (z_set h o (k_tk o (js.length + 1) cs.length K2.1.length)) := k_ft.set _ (by omega)
  generalize z_set h o (k_tk o (js.length + 1) cs.length K2.1.length) = h1 at ho1 kA kf1 ⊢
  refine z_aload_n d_TK_bind_10 rfl rfl ?_
  refine z_aload_n d_TK_bind_11 rfl rfl ?_
  refine z_getf (L_TK_25K HG) (by decide) (L_TK_25 HG) d_TK_bind_12 ho1 (by rfl) ?_
  refine z_putf (L_TK_166K HG) (by decide) (L_TK_166 HG) rfl d_TK_bind_15 ((kA u (by omega)).trans hJ.ob) rfl rfl (Nat.le_of_ble_eq_true rfl) ?_
  show z_V G m_TK_bind (d + 1) 18 _ _ (z_set h1 u (k_jd u cs.length)) _
  have hu2 := z_set_at h1 u (k_jd u cs.length)
  have ho2 : (z_set h1 u (k_jd u cs.length)).2.2 o = _ := (z_set_ne _ _ (by omega)).trans ho1
  have kB : ∀ y, y ≠ o → y ≠ u → (z_set h1 u (k_jd u cs.length)).2.2 y = h.2.2 y := fun y y1 y2 => (z_set_ne _ _ y2).trans (kA y y1)
  have kf2 : k_ft o h (z_set h1 u (k_jd u cs.length)) := kf1.tr (k_ft.set _ (by omega))
  generalize z_set h1 u (k_jd u cs.length) = h2 at hu2 ho2 kB kf2 ⊢
  have r1' : rowAt G h2 (u + 1) n1 f1 := ⟨(kB _ (by omega) (by omega)).trans r1.1, (kB _ (by omega) (by omega)).trans r1.2⟩
  have ht' : rowAt G h2 (o + 60) t.length ft := ⟨(kB _ (by omega) (by omega)).trans ht.1, (kB _ (by omega) (by omega)).trans ht.2⟩
  refine z_aload_n d_TK_bind_18 rfl rfl ?_
  refine z_getf (L_TK_64K HG) (by decide) (L_TK_64 HG) d_TK_bind_19 hu2 (by rfl) ?_
  refine z_aload_n d_TK_bind_22 rfl rfl ?_
  refine z_getf (L_TK_53K HG) (by decide) (L_TK_53 HG) d_TK_bind_23 ho2 (by rfl) ?_
  refine z_callV1v (dY := d) d_TK_bind_26 rfl (by omega) (Y_TK_81 HG) r1'.1 (cl_Row HG) (Nat.le_of_ble_eq_true rfl) (c_Row_copy HG r1' ht' hlt (by omega) (by omega) (by omega)) ?_
  have r1c := rset_at G h2 (u + 1) t.length (k_app f1 0 t)
  have kC : ∀ y, y < u + 1 ∨ u + 2 < y → (rset G h2 (u + 1) t.length (k_app f1 0 t)).2.2 y = h2.2.2 y := fun y hy => rset_out (by omega)
  have kf3 : k_ft o h (rset G h2 (u + 1) t.length (k_app f1 0 t)) := kf2.tr (k_ft.rset (by omega))
  generalize rset G h2 (u + 1) t.length (k_app f1 0 t) = h3 at r1c kC kf3 ⊢
  have r2' : rowAt G h3 (u + 3) n2 f2 := ⟨(kC _ (by omega)).trans ((kB _ (by omega) (by omega)).trans r2.1), (kC _ (by omega)).trans ((kB _ (by omega) (by omega)).trans r2.2)⟩
  have hy' : rowAt G h3 (o + 62) y.length fy := ⟨(kC _ (by omega)).trans ((kB _ (by omega) (by omega)).trans hy.1), (kC _ (by omega)).trans ((kB _ (by omega) (by omega)).trans hy.2)⟩
  refine z_aload_n d_TK_bind_29 rfl rfl ?_
  refine z_getf (L_TK_71K HG) (by decide) (L_TK_71 HG) d_TK_bind_30 ((kC u (by omega)).trans hu2) (by rfl) ?_
  refine z_aload_n d_TK_bind_33 rfl rfl ?_
  refine z_getf (L_TK_56K HG) (by decide) (L_TK_56 HG) d_TK_bind_34 ((kC o (by omega)).trans ho2) (by rfl) ?_
  refine z_callV1v (dY := d) d_TK_bind_37 rfl (by omega) (Y_TK_81 HG) r2'.1 (cl_Row HG) (Nat.le_of_ble_eq_true rfl) (c_Row_copy HG r2' hy' hly (by omega) (by omega) (by omega)) ?_
  refine z_return d_TK_bind_40 rfl ⟨rfl, hgen _ _ (fun y y1 y2 => (rset_out (by omega)).trans ((kC y (by omega)).trans (kB y y1 (by omega)))) ((rset_out (by omega)).trans ((kC o (by omega)).trans ho2)) ⟨⟨_, (rset_out (by omega)).trans ((kC u (by omega)).trans hu2), fun J e => by cases e; rfl⟩, rowL.mk (rset_row _ _ r1c (by omega) (by omega) (by omega)) (rl_copy hlt), rowL.mk (rset_at ..) (rl_copy hly)⟩, kf3.tr (k_ft.rset (by omega))⟩
end KB
theorem p_only_cons {js : List pJ} {ne : Nat} (h : p_only js ne) : ∃ J js', js = J :: js' ∧ J.1 = ne := by
  obtain ⟨⟨J, h1, h2⟩, -⟩ := h
  cases js with
  | nil => cases h1
  | cons J' js =>
    cases h1
    exact ⟨J, js, rfl, h2⟩
theorem rl_join {f fs fs2 : Nat → Int32} {v : Nat} {ls ls2 : List Nat} (hv : v < 1000) (h1 : rl fs ls) (h2 : rl fs2 ls2) (hl : 1 + ls.length + ls2.length ≤ 40) : rl (k_app f 0 (v :: (ls ++ ls2))) (v :: (ls ++ ls2)) := by
  have h0 : rl f [] := ⟨by simp, fun i hi => absurd hi (by simp)⟩
  refine rl_app (l1 := []) h0 (by simp only [List.length_nil, List.length_cons, List.length_append]; omega) (fun w hw => ?_)
  rcases List.mem_cons.mp hw with rfl | hw
  · exact hv
  · rcases List.mem_append.mp hw with hw | hw
    · obtain ⟨i, hi, rfl⟩ := List.getElem_of_mem hw
      have := h1.lt hi
      rw [List.getD_eq_getElem?_getD, List.getElem?_eq_getElem hi] at this
      exact this
    · obtain ⟨i, hi, rfl⟩ := List.getElem_of_mem hw
      have := h2.lt hi
      rw [List.getD_eq_getElem?_getD, List.getElem?_eq_getElem hi] at this
      exact this
section KLP
variable {G : z_G} {h : z_H} {d o : Nat} {K : pK}
def k_lambda (K : pK) : String ⊕ (Option Value × pK) := match K with
  | (J :: js, c :: cs, K2) => if J.1 = cs.length + 1 ∧ p_cnt (J :: js) (cs.length + 1) ≤ 1 then (if J.2.2 = [1] then .inl z_IAE else if 1 + c.length + J.2.1.length ≤ 40 ∧ 1 + c.length + J.2.2.length ≤ 40 then .inr (none, ((cs.length, 3 :: (c ++ J.2.1), 4 :: (c ++ J.2.2)) :: js, cs, K2)) else .inl z_AE) else .inl z_ISE
  | _ => .inl z_ISE
theorem k_lambda_no {K : pK} (h : ¬ p_only K.1 K.2.1.length) : k_lambda K = .inl z_ISE := by
  obtain ⟨js, cs, K2⟩ := K
  cases js with
  | nil => rfl
  | cons J js =>
    cases cs with
    | nil => rfl
    | cons c cs =>
      have h' : ¬ (J.1 = cs.length + 1 ∧ p_cnt (J :: js) (cs.length + 1) ≤ 1) := fun hh => h ⟨p_pres0.mpr hh.1, Nat.succ_ne_zero _, hh.2⟩
      unfold k_lambda
      simp only []
      rw [if_neg h']
theorem c_TK_lambda (HG : z_ok G) (hrm : z_rm G h) (H : KAt G h o K) (P : pok K) : z_C G m_TK_lambda (d + 4) [.ref o] h (tk_post G o K h (k_lambda K)) := by
  obtain ⟨l1, l2, l3⟩ := H.len
  refine z_C.of (Nat.le_of_ble_eq_true rfl) ?_
  refine z_aload_n d_TK_lambda_0 rfl rfl ?_
  refine z_callVg (as := []) (dY := d + 3) d_TK_lambda_1 rfl (by omega) (Y_TK_135 HG) rfl H.2.1 (cl_TK HG) (Nat.le_of_ble_eq_true rfl) (c_TK_only HG hrm H.2.1 H.1 H.2.2.1 (pok.e4 H P) l2) (fun hc h' hh => ?_) (fun hc h' hh => ?_)
  · subst hh
    obtain ⟨js, cs, K2⟩ := K
    obtain ⟨J, js', e1, e2⟩ := p_only_cons hc
    change js = J :: js' at e1
    subst e1
    cases cs with
    | nil => exact absurd rfl hc.2.1
    | cons c cs =>
      have hc' : J.1 = cs.length + 1 ∧ p_cnt (J :: js') (cs.length + 1) ≤ 1 := ⟨p_pres0.mp hc.1, hc.2.2⟩
      have eK : k_lambda (J :: js', c :: cs, K2) = if J.2.2 = [1] then .inl z_IAE else if 1 + c.length + J.2.1.length ≤ 40 ∧ 1 + c.length + J.2.2.length ≤ 40 then .inr (none, ((cs.length, 3 :: (c ++ J.2.1), 4 :: (c ++ J.2.2)) :: js', cs, K2)) else .inl z_AE := by
        unfold k_lambda
        simp only []
        rw [if_pos hc']
      rw [eK]
      have l1' : js'.length + 1 ≤ 6 := l1
      have l2' : cs.length + 1 ≤ 4 := l2
      have hJ : jdAt G h' (k_ju o js'.length) (some J) := H.2.2.1.get (k := 0) (J := J) rfl
      have ho : h'.2.2 o = some (k_tk o (js'.length + 1) (cs.length + 1) K2.1.length) := H.2.1
      have hC : rowL G h' (k_cu o cs.length) (some c) := H.2.2.2.1.get (k := 0) (c := c) rfl
      have hu : o + 64 ≤ k_ju o js'.length ∧ k_ju o js'.length + 4 ≤ o + 93 := by unfold k_ju; omega
      have hw : o + 94 ≤ k_cu o cs.length ∧ k_cu o cs.length + 1 ≤ o + 101 := by unfold k_cu; omega
      show z_V G m_TK_lambda (d + 4) 4 _ (.ref (k_ju o js'.length) :: []) h' _
      obtain ⟨ft, rt, hlt⟩ := rowL.get hJ.2.1
      obtain ⟨fy, ry, hly⟩ := rowL.get hJ.2.2
      obtain ⟨fc, rc, hlc⟩ := rowL.get hC
      obtain ⟨n60, f60, r60, -⟩ := H.2.2.2.2.2.1 60 (by unfold scR; omega)
      obtain ⟨n62, f62, r62, -⟩ := H.2.2.2.2.2.1 62 (by unfold scR; omega)
      refine z_astore_n d_TK_lambda_4 rfl (by decide) ?_
      refine z_aload_n d_TK_lambda_5 rfl rfl ?_
      refine z_getf (L_TK_71K HG) (by decide) (L_TK_71 HG) d_TK_lambda_6 hJ.ob (by rfl) ?_
      refine z_iconst (v := nI 1) d_TK_lambda_9 (by decide) ?_
      refine z_callV1r (dY := d) d_TK_lambda_10 rfl (by omega) (Y_TK_132 HG) ry.1 (cl_Row HG) (Nat.le_of_ble_eq_true rfl) (c_Row_is HG ry hly.len (nI 1)) ?_
      simp only [l_is hly (show 1 < 1000 by omega)]
      by_cases hk : J.2.2 = [1]
      · rw [if_pos hk, if_pos hk]
        refine z_if_eq (tgt := 24) d_TK_lambda_13 rfl (fun c2 => absurd c2 (by decide)) (fun c2 => ?_)
        exact z_throw d_TK_lambda_16 d_TK_lambda_19 d_TK_lambda_20 d_TK_lambda_23 rfl (by decide +kernel) (t_TK_111 HG) hrm.1 hrm.2 (by decide) ⟨rfl, h', rfl, H, k_ft.rf⟩
      · rw [if_neg hk, if_neg hk]
        refine z_if_eq (tgt := 24) d_TK_lambda_13 rfl (fun c2 => ?_) (fun c2 => absurd nI_0 c2)
        refine z_aload_n d_TK_lambda_24 rfl rfl ?_
        refine z_getf (L_TK_53K HG) (by decide) (L_TK_53 HG) d_TK_lambda_25 ho (by rfl) ?_
        refine z_iconst (v := nI 3) d_TK_lambda_28 (by decide) ?_
        refine z_aload_n d_TK_lambda_29 rfl rfl ?_
        refine z_iconst (v := nI 0) d_TK_lambda_30 (by decide) ?_
        refine z_callV1r (dY := d) d_TK_lambda_31 rfl (by omega) (Y_TK_91 HG) ho (cl_TK HG) (Nat.le_of_ble_eq_true rfl) (c_TK_entryAt HG ho H.1 l2' (k := 0) (by omega)) ?_
        show z_V G m_TK_lambda (d + 4) 34 _ (.ref (k_cu o cs.length) :: _) h' _
        refine z_aload_n d_TK_lambda_34 rfl rfl ?_
        refine z_getf (L_TK_64K HG) (by decide) (L_TK_64 HG) d_TK_lambda_35 hJ.ob (by rfl) ?_
        refine z_callV3e (dY := d + 2) d_TK_lambda_38 rfl (by omega) (Y_TK_121 HG) r60.1 (cl_Row HG) (Nat.le_of_ble_eq_true rfl) (c2_join HG (v := 3) hrm r60 rc hlc rt hlt (by unfold k_ne; omega) (by unfold k_ne; omega)) (fun hc1 h1 hh1 => ?_) (fun hc1 h1 hh1 => ?_)
        · have H1 : KAt G h1 o (J :: js', c :: cs, K2) := by
            subst hh1
            exact H.sc (by unfold scR; omega)
          have r60' : rowAt G h1 (o + 60) (3 :: (c ++ J.2.1)).length (k_app f60 0 (3 :: (c ++ J.2.1))) := by
            subst hh1
            rw [show (3 :: (c ++ J.2.1)).length = 1 + c.length + J.2.1.length by simp; omega]
            exact rset_at ..
          have kf1 : k_ft o h' h1 := by
            subst hh1
            exact k_ft.rset (by omega)
          have kA : ∀ y, y < o + 60 ∨ o + 61 < y → h1.2.2 y = h'.2.2 y := by
            subst hh1
            exact fun y hy => rset_out (by omega)
          clear hh1
          have ho1 := (kA o (by omega)).trans ho
          have hu1 := (kA (k_ju o js'.length) (by omega)).trans hJ.ob
          have rc1 : rowAt G h1 (k_cu o cs.length) c.length fc := ⟨(kA _ (by omega)).trans rc.1, (kA _ (by omega)).trans rc.2⟩
          have ry1 : rowAt G h1 (k_ju o js'.length + 3) J.2.2.length fy := ⟨(kA _ (by omega)).trans ry.1, (kA _ (by omega)).trans ry.2⟩
          have r62' : rowAt G h1 (o + 62) n62 f62 := ⟨(kA _ (by omega)).trans r62.1, (kA _ (by omega)).trans r62.2⟩
          refine z_aload_n d_TK_lambda_41 rfl rfl ?_
          refine z_getf (L_TK_56K HG) (by decide) (L_TK_56 HG) d_TK_lambda_42 ho1 (by rfl) ?_
          refine z_iconst (v := nI 4) d_TK_lambda_45 (by decide) ?_
          refine z_aload_n d_TK_lambda_46 rfl rfl ?_
          refine z_iconst (v := nI 0) d_TK_lambda_47 (by decide) ?_
          refine z_callV1r (dY := d) d_TK_lambda_48 rfl (by omega) (Y_TK_91 HG) ho1 (cl_TK HG) (Nat.le_of_ble_eq_true rfl) (c_TK_entryAt HG ho1 H1.1 l2' (k := 0) (by omega)) ?_
          show z_V G m_TK_lambda (d + 4) 51 _ (.ref (k_cu o cs.length) :: _) h1 _
          refine z_aload_n d_TK_lambda_51 rfl rfl ?_
          refine z_getf (L_TK_71K HG) (by decide) (L_TK_71 HG) d_TK_lambda_52 hu1 (by rfl) ?_
          refine z_callV3e (dY := d + 2) d_TK_lambda_55 rfl (by omega) (Y_TK_121 HG) r62'.1 (cl_Row HG) (Nat.le_of_ble_eq_true rfl) (c2_join HG (v := 4) (kf1.rm hrm) r62' rc1 hlc ry1 hly (by unfold k_ne; omega) (by unfold k_ne; omega)) (fun hc2 h2 hh2 => ?_) (fun hc2 h2 hh2 => ?_)
          · rw [if_pos ⟨hc1, hc2⟩]
            have H2 : KAt G h2 o (J :: js', c :: cs, K2) := by
              subst hh2
              exact H1.sc (by unfold scR; omega)
            have r62'' : rowAt G h2 (o + 62) (4 :: (c ++ J.2.2)).length (k_app f62 0 (4 :: (c ++ J.2.2))) := by
              subst hh2
              rw [show (4 :: (c ++ J.2.2)).length = 1 + c.length + J.2.2.length by simp; omega]
              exact rset_at ..
            have r60'' : rowAt G h2 (o + 60) (3 :: (c ++ J.2.1)).length (k_app f60 0 (3 :: (c ++ J.2.1))) := by
              subst hh2
              exact rset_row _ _ r60' (by omega) (by omega) (by omega)
            have kf2 : k_ft o h' h2 := by
              subst hh2
              exact kf1.tr (k_ft.rset (by omega))
            clear hh2
            refine z_aload_n d_TK_lambda_58 rfl rfl ?_
            refine z_aload_n d_TK_lambda_59 rfl rfl ?_
            refine z_callV1p (dY := d + 1) d_TK_lambda_60 rfl (by omega) (Y_TK_138 HG) H2.2.1 (cl_TK HG) (Nat.le_of_ble_eq_true rfl) (c_TK_bind HG H2 r60'' (rl_join (by omega) hlc hlt hc1) r62'' (rl_join (by omega) hlc hly hc2)) (fun h3 hh3 => ?_)
            exact z_return d_TK_lambda_63 rfl ⟨rfl, hh3.1, kf2.tr hh3.2⟩
          · rw [if_neg (fun hh => hc2 hh.2)]
            obtain ⟨f', hh2⟩ := hh2
            exact ⟨rfl, _, hh2, H1.sc (by unfold scR; omega), kf1.tr (k_ft.rset (by omega))⟩
        · rw [if_neg (fun hh => hc1 hh.1)]
          obtain ⟨f', hh1⟩ := hh1
          exact ⟨rfl, _, hh1, H.sc (by unfold scR; omega), k_ft.rset (by omega)⟩
  · rw [k_lambda_no hc]
    exact ⟨rfl, h, hh, H, k_ft.rf⟩
def k_product (K : pK) : String ⊕ (Option Value × pK) := match K with
  | (J :: js, c :: cs, K2) => if J.1 = cs.length + 1 ∧ p_cnt (J :: js) (cs.length + 1) ≤ 1 then (if J.2.2 = [0] ∨ J.2.2 = [1] then (if 1 + c.length + J.2.1.length ≤ 40 then .inr (none, ((cs.length, 4 :: (c ++ J.2.1), J.2.2) :: js, cs, K2)) else .inl z_AE) else .inl z_IAE) else .inl z_ISE
  | _ => .inl z_ISE
theorem k_product_no {K : pK} (h : ¬ p_only K.1 K.2.1.length) : k_product K = .inl z_ISE := by
  obtain ⟨js, cs, K2⟩ := K
  cases js with
  | nil => rfl
  | cons J js =>
    cases cs with
    | nil => rfl
    | cons c cs =>
      have h' : ¬ (J.1 = cs.length + 1 ∧ p_cnt (J :: js) (cs.length + 1) ≤ 1) := fun hh => h ⟨p_pres0.mpr hh.1, Nat.succ_ne_zero _, hh.2⟩
      unfold k_product
      simp only []
      rw [if_neg h']
theorem c_TK_product (HG : z_ok G) (hrm : z_rm G h) (H : KAt G h o K) (P : pok K) : z_C G m_TK_product (d + 4) [.ref o] h (tk_post G o K h (k_product K)) := by
  obtain ⟨l1, l2, l3⟩ := H.len
  refine z_C.of (Nat.le_of_ble_eq_true rfl) ?_
  refine z_aload_n d_TK_product_0 rfl rfl ?_
  refine z_callVg (as := []) (dY := d + 3) d_TK_product_1 rfl (by omega) (Y_TK_135 HG) rfl H.2.1 (cl_TK HG) (Nat.le_of_ble_eq_true rfl) (c_TK_only HG hrm H.2.1 H.1 H.2.2.1 (pok.e4 H P) l2) (fun hc h' hh => ?_) (fun hc h' hh => ?_)
  · subst hh
    obtain ⟨js, cs, K2⟩ := K
    obtain ⟨J, js', e1, e2⟩ := p_only_cons hc
    change js = J :: js' at e1
    subst e1
    cases cs with
    | nil => exact absurd rfl hc.2.1
    | cons c cs =>
      have hc' : J.1 = cs.length + 1 ∧ p_cnt (J :: js') (cs.length + 1) ≤ 1 := ⟨p_pres0.mp hc.1, hc.2.2⟩
      have eK : k_product (J :: js', c :: cs, K2) = if J.2.2 = [0] ∨ J.2.2 = [1] then (if 1 + c.length + J.2.1.length ≤ 40 then .inr (none, ((cs.length, 4 :: (c ++ J.2.1), J.2.2) :: js', cs, K2)) else .inl z_AE) else .inl z_IAE := by
        unfold k_product
        simp only []
        rw [if_pos hc']
      rw [eK]
      have l1' : js'.length + 1 ≤ 6 := l1
      have l2' : cs.length + 1 ≤ 4 := l2
      have hJ : jdAt G h' (k_ju o js'.length) (some J) := H.2.2.1.get (k := 0) (J := J) rfl
      have ho : h'.2.2 o = some (k_tk o (js'.length + 1) (cs.length + 1) K2.1.length) := H.2.1
      have hC : rowL G h' (k_cu o cs.length) (some c) := H.2.2.2.1.get (k := 0) (c := c) rfl
      have hu : o + 64 ≤ k_ju o js'.length ∧ k_ju o js'.length + 4 ≤ o + 93 := by unfold k_ju; omega
      have hw : o + 94 ≤ k_cu o cs.length ∧ k_cu o cs.length + 1 ≤ o + 101 := by unfold k_cu; omega
      show z_V G m_TK_product (d + 4) 4 _ (.ref (k_ju o js'.length) :: []) h' _
      obtain ⟨ft, rt, hlt⟩ := rowL.get hJ.2.1
      obtain ⟨fy, ry, hly⟩ := rowL.get hJ.2.2
      obtain ⟨fc, rc, hlc⟩ := rowL.get hC
      obtain ⟨n60, f60, r60, -⟩ := H.2.2.2.2.2.1 60 (by unfold scR; omega)
      obtain ⟨n62, f62, r62, -⟩ := H.2.2.2.2.2.1 62 (by unfold scR; omega)
      refine z_astore_n d_TK_product_4 rfl (by decide) ?_
      refine z_aload_n d_TK_product_5 rfl rfl ?_
      refine z_callS1r (dY := d + 1) d_TK_product_6 rfl (by omega) (Y_TK_142 HG) (Nat.le_of_ble_eq_true rfl) (c_TK_hasSort HG hJ) ?_
      by_cases hk : J.2.2 = [0] ∨ J.2.2 = [1]
      · rw [if_pos hk, if_pos hk]
        refine z_if_ne (tgt := 20) d_TK_product_9 rfl (fun c2 => ?_) (fun c2 => absurd c2 (by decide))
        refine z_aload_n d_TK_product_20 rfl rfl ?_
        refine z_getf (L_TK_53K HG) (by decide) (L_TK_53 HG) d_TK_product_21 ho (by rfl) ?_
        refine z_iconst (v := nI 4) d_TK_product_24 (by decide) ?_
        refine z_aload_n d_TK_product_25 rfl rfl ?_
        refine z_iconst (v := nI 0) d_TK_product_26 (by decide) ?_
        refine z_callV1r (dY := d) d_TK_product_27 rfl (by omega) (Y_TK_91 HG) ho (cl_TK HG) (Nat.le_of_ble_eq_true rfl) (c_TK_entryAt HG ho H.1 l2' (k := 0) (by omega)) ?_
        show z_V G m_TK_product (d + 4) 30 _ (.ref (k_cu o cs.length) :: _) h' _
        refine z_aload_n d_TK_product_30 rfl rfl ?_
        refine z_getf (L_TK_64K HG) (by decide) (L_TK_64 HG) d_TK_product_31 hJ.ob (by rfl) ?_
        refine z_callV3e (dY := d + 2) d_TK_product_34 rfl (by omega) (Y_TK_121 HG) r60.1 (cl_Row HG) (Nat.le_of_ble_eq_true rfl) (c2_join HG (v := 4) hrm r60 rc hlc rt hlt (by unfold k_ne; omega) (by unfold k_ne; omega)) (fun hc1 h1 hh1 => ?_) (fun hc1 h1 hh1 => ?_)
        · rw [if_pos hc1]
          have H1 : KAt G h1 o (J :: js', c :: cs, K2) := by
            subst hh1
            exact H.sc (by unfold scR; omega)
          have r60' : rowAt G h1 (o + 60) (4 :: (c ++ J.2.1)).length (k_app f60 0 (4 :: (c ++ J.2.1))) := by
            subst hh1
            rw [show (4 :: (c ++ J.2.1)).length = 1 + c.length + J.2.1.length by simp; omega]
            exact rset_at ..
          have kf1 : k_ft o h' h1 := by
            subst hh1
            exact k_ft.rset (by omega)
          have kA : ∀ y, y < o + 60 ∨ o + 61 < y → h1.2.2 y = h'.2.2 y := by
            subst hh1
            exact fun y hy => rset_out (by omega)
          clear hh1
          have ho1 := (kA o (by omega)).trans ho
          have hu1 := (kA (k_ju o js'.length) (by omega)).trans hJ.ob
          have ry1 : rowAt G h1 (k_ju o js'.length + 3) J.2.2.length fy := ⟨(kA _ (by omega)).trans ry.1, (kA _ (by omega)).trans ry.2⟩
          have r62' : rowAt G h1 (o + 62) n62 f62 := ⟨(kA _ (by omega)).trans r62.1, (kA _ (by omega)).trans r62.2⟩
          refine z_aload_n d_TK_product_37 rfl rfl ?_
          refine z_getf (L_TK_56K HG) (by decide) (L_TK_56 HG) d_TK_product_38 ho1 (by rfl) ?_
          refine z_aload_n d_TK_product_41 rfl rfl ?_
          refine z_getf (L_TK_71K HG) (by decide) (L_TK_71 HG) d_TK_product_42 hu1 (by rfl) ?_
          refine z_callV1v (dY := d) d_TK_product_45 rfl (by omega) (Y_TK_81 HG) r62'.1 (cl_Row HG) (Nat.le_of_ble_eq_true rfl) (c_Row_copy HG r62' ry1 hly (by omega) (by omega) (by omega)) ?_
          have H2 : KAt G (rset G h1 (o + 62) J.2.2.length (k_app f62 0 J.2.2)) o (J :: js', c :: cs, K2) := H1.sc (by unfold scR; omega)
          have r62'' := rset_at G h1 (o + 62) J.2.2.length (k_app f62 0 J.2.2)
          have r60'' := rset_row (r := o + 62) J.2.2.length (k_app f62 0 J.2.2) r60' (by omega) (by omega) (by omega)
          have kf2 : k_ft o h' (rset G h1 (o + 62) J.2.2.length (k_app f62 0 J.2.2)) := kf1.tr (k_ft.rset (by omega))
          refine z_aload_n d_TK_product_48 rfl rfl ?_
          refine z_aload_n d_TK_product_49 rfl rfl ?_
          refine z_callV1p (dY := d + 1) d_TK_product_50 rfl (by omega) (Y_TK_138 HG) H2.2.1 (cl_TK HG) (Nat.le_of_ble_eq_true rfl) (c_TK_bind HG H2 r60'' (rl_join (by omega) hlc hlt hc1) r62'' (rl_copy hly)) (fun h3 hh3 => ?_)
          exact z_return d_TK_product_53 rfl ⟨rfl, hh3.1, kf2.tr hh3.2⟩
        · rw [if_neg hc1]
          obtain ⟨f', hh1⟩ := hh1
          exact ⟨rfl, _, hh1, H.sc (by unfold scR; omega), k_ft.rset (by omega)⟩
      · rw [if_neg hk, if_neg hk]
        refine z_if_ne (tgt := 20) d_TK_product_9 rfl (fun c2 => absurd nI_0 c2) (fun c2 => ?_)
        exact z_throw d_TK_product_12 d_TK_product_15 d_TK_product_16 d_TK_product_19 rfl (by decide +kernel) (t_TK_111 HG) hrm.1 hrm.2 (by decide) ⟨rfl, h', rfl, H, k_ft.rf⟩
  · rw [k_product_no hc]
    exact ⟨rfl, h, hh, H, k_ft.rf⟩
end KLP
end
section
/-! declare, normal, same -/
theorem ksAt.push {G : z_G} {h h' : z_H} {o : Nat} {c : List Nat × Bool} {ks : List (List Nat × Bool)} {fd : Nat → Int32} (H : ksAt G h o ks) (hl : ks.length < 8) (hd : h.2.2 (o + 4) = some (.inl (G.ca 2, 8, .inl fd))) (hd' : h'.2.2 (o + 4) = some (.inl (G.ca 2, 8, .inl (upd fd ks.length (if c.2 = true then nI 1 else nI 0))))) (k : ∀ y, o + 102 ≤ y ∧ y ≤ o + 117 → y < k_ku o ks.length ∨ k_ku o ks.length + 1 < y → h'.2.2 y = h.2.2 y) (HC : rowL G h' (k_ku o ks.length) (some c.1)) : ksAt G h' o (ks ++ [c]) := by
  obtain ⟨⟨h1, h2⟩, fd0, h3, h4⟩ := H
  rw [hd] at h3
  cases h3
  refine ⟨⟨by rw [List.length_append]; exact hl, fun j hj => ?_⟩, _, hd', fun j c' hj => ?_⟩
  · by_cases e : j = ks.length
    · subst e
      rw [List.getElem?_append_right (Nat.le_refl _), Nat.sub_self]
      exact HC
    · have h5 := (h2 j hj).keep (h' := h') (k _ (by unfold k_ku; omega) (by unfold k_ku; omega)) (k _ (by unfold k_ku; omega) (by unfold k_ku; omega))
      by_cases h6 : j < ks.length
      · rw [List.getElem?_append_left h6]
        exact h5
      · rw [List.getElem?_eq_none (by rw [List.length_append, List.length_singleton]; omega)]
        exact h5.any
  · by_cases e : j = ks.length
    · subst e
      rw [List.getElem?_append_right (Nat.le_refl _), Nat.sub_self] at hj
      cases hj
      exact pk_us
    · have hjl := l_gi' hj
      rw [List.length_append, List.length_singleton] at hjl
      rw [List.getElem?_append_left (by omega)] at hj
      rw [pk_un e]
      exact h4 j c' hj
section KD
variable {G : z_G} {h : z_H} {d o : Nat} {K : pK}
def k_declare (K : pK) (b : Bool) : String ⊕ (Option Value × pK) := match K with
  | (J :: js, [], ks, Rs) => if J.1 = 0 then (if ks.length = 8 then .inl z_UOE else if J.2.2 = [0] ∨ J.2.2 = [1] then .inr (some (.int (nI ks.length)), (js, [], ks ++ [(J.2.1, b)], Rs)) else .inl z_IAE) else .inl z_ISE
  | _ => .inl z_ISE
theorem vp_nar_b (b : Bool) : vp_nar .boolean (if b = true then nI 1 else nI 0) = if b = true then nI 1 else nI 0 := by
  cases b <;> decide +kernel
theorem c_TK_declare (HG : z_ok G) (hrm : z_rm G h) (H : KAt G h o K) (P : pok K) (b : Bool) : z_C G m_TK_declare (d + 3) [.ref o, .int (if b = true then nI 1 else nI 0)] h (tk_post G o K h (k_declare K b)) := by
  obtain ⟨l1, l2, l3⟩ := H.len
  have hP4 := pok.e4 H P
  refine z_C.of (Nat.le_of_ble_eq_true rfl) ?_
  refine z_aload_n d_TK_declare_0 rfl rfl ?_
  refine z_getf (L_TK_25K HG) (by decide) (L_TK_25 HG) d_TK_declare_1 H.2.1 (by rfl) ?_
  obtain ⟨js, cs, ks, Rs⟩ := K
  cases cs with
  | cons c cs =>
    have l2' : cs.length + 1 ≤ 4 := l2
    have eK : k_declare (js, c :: cs, ks, Rs) b = .inl z_ISE := by cases js <;> rfl
    rw [eK]
    refine z_if_le (tgt := 15) d_TK_declare_4 rfl (fun c1 => ?_) (fun c1 => ?_)
    · rw [← nI_0, nI_leI (by simp; omega) (by omega)] at c1
      simp at c1
    · exact z_throw d_TK_declare_7 d_TK_declare_10 d_TK_declare_11 d_TK_declare_14 rfl (by decide +kernel) (t_TK_146 HG) hrm.1 hrm.2 (by decide) ⟨rfl, h, rfl, H, k_ft.rf⟩
  | nil =>
    refine z_if_le (tgt := 15) d_TK_declare_4 rfl (fun c1 => ?_) (fun c1 => absurd (nI_le (Nat.le_refl 0) (by omega)) c1)
    refine z_aload_n d_TK_declare_15 rfl rfl ?_
    refine z_iconst (v := nI 0) d_TK_declare_16 (by decide) ?_
    refine z_callVg (as := [.int (nI 0)]) (dY := d + 2) d_TK_declare_17 rfl (by omega) (Y_TK_99 HG) rfl H.2.1 (cl_TK HG) (Nat.le_of_ble_eq_true rfl) (c_TK_present HG hrm H.2.1 H.1 H.2.2.1 hP4 l2 (k := 0) (by omega)) (fun hc h' hh => ?_) (fun hc h' hh => ?_)
    · subst hh
      cases js with
      | nil =>
        obtain ⟨J, e, -⟩ := hc
        cases e
      | cons J js =>
        rw [p_pres0] at hc
        have hc : J.1 = 0 := hc
        have l1' : js.length + 1 ≤ 6 := l1
        have l3' : ks.length ≤ 8 := l3
        have eK : k_declare (J :: js, [], ks, Rs) b = if J.1 = 0 then (if ks.length = 8 then .inl z_UOE else if J.2.2 = [0] ∨ J.2.2 = [1] then .inr (some (.int (nI ks.length)), (js, [], ks ++ [(J.2.1, b)], Rs)) else .inl z_IAE) else .inl z_ISE := rfl
        rw [eK, if_pos hc]
        have hJ : jdAt G h' (k_ju o js.length) (some J) := H.2.2.1.get (k := 0) (J := J) rfl
        have ho : h'.2.2 o = some (k_tk o (js.length + 1) 0 ks.length) := H.2.1
        have hu : o + 64 ≤ k_ju o js.length ∧ k_ju o js.length + 4 ≤ o + 93 := by unfold k_ju; omega
        show z_V G m_TK_declare (d + 3) 20 _ (.ref (k_ju o js.length) :: []) h' _
        generalize k_ju o js.length = u at *
        obtain ⟨ft, rt, hlt⟩ := rowL.get hJ.2.1
        refine z_astore_n d_TK_declare_20 rfl (by decide) ?_
        refine z_aload_n d_TK_declare_21 rfl rfl ?_
        refine z_getf (L_TK_35K HG) (by decide) (L_TK_35 HG) d_TK_declare_22 ho (by rfl) ?_
        refine z_bipush (v := nI 8) d_TK_declare_25 (by decide +kernel) ?_
        refine z_icmp_ne (tgt := 38) d_TK_declare_27 rfl (fun c2 => ?_) (fun c2 => ?_)
        · rw [nI_eq (by omega) (by omega)] at c2
          rw [if_neg c2]
          refine z_aload_n d_TK_declare_38 rfl rfl ?_
          refine z_callS1r (dY := d + 1) d_TK_declare_39 rfl (by omega) (Y_TK_142 HG) (Nat.le_of_ble_eq_true rfl) (c_TK_hasSort HG hJ) ?_
          by_cases hk : J.2.2 = [0] ∨ J.2.2 = [1]
          · rw [if_pos hk, if_pos hk]
            refine z_if_ne (tgt := 53) d_TK_declare_42 rfl (fun c3 => ?_) (fun c3 => absurd c3 (by decide))
            obtain ⟨-, -, f, h2, hf⟩ := H.1
            obtain ⟨n0, f0, rc, -⟩ := H.2.2.2.2.1.1.2 ks.length (by omega)
            obtain ⟨fd, hfd, -⟩ := H.2.2.2.2.1.2
            have hw : o + 102 ≤ k_ku o ks.length ∧ k_ku o ks.length + 1 ≤ o + 117 := by unfold k_ku; omega
            have hfc := hf ks.length (by omega)
            have hkp := fun (h1 : z_H) => ksAt.push (h' := h1) (c := (J.2.1, b)) H.2.2.2.2.1 (by show ks.length < 8; omega) hfd
            change ∀ h1 : z_H, _ → (∀ y, _ → y < k_ku o ks.length ∨ k_ku o ks.length + 1 < y → _) → rowL G h1 (k_ku o ks.length) _ → ksAt G h1 o (ks ++ [(J.2.1, b)]) at hkp
            change rowAt G h' (k_ku o ks.length) n0 f0 at rc
            generalize k_ku o ks.length = w at *
            refine z_aload_n d_TK_declare_53 rfl rfl ?_
            refine z_getf (L_TK_28K HG) (by decide) (L_TK_28 HG) d_TK_declare_54 ho (by rfl) ?_
            refine z_aload_n d_TK_declare_57 rfl rfl ?_
            refine z_getf (L_TK_35K HG) (by decide) (L_TK_35 HG) d_TK_declare_58 ho (by rfl) ?_
            refine z_aald (x := w) d_TK_declare_61 (ty3 HG) h2 (pk_in ks.length 8 (by omega)) (by rw [nI_clamp (by omega)]; exact hfc) ?_
            refine z_aload_n d_TK_declare_62 rfl rfl ?_
            refine z_getf (L_TK_64K HG) (by decide) (L_TK_64 HG) d_TK_declare_63 hJ.ob (by rfl) ?_
            refine z_callV1v (dY := d) d_TK_declare_66 rfl (by omega) (Y_TK_81 HG) rc.1 (cl_Row HG) (Nat.le_of_ble_eq_true rfl) (c_Row_copy HG rc rt hlt (by omega) (by omega) (by omega)) ?_
            have rcc := rset_at G h' w J.2.1.length (k_app f0 0 J.2.1)
            have kA : ∀ y, y < w ∨ w + 1 < y → (rset G h' w J.2.1.length (k_app f0 0 J.2.1)).2.2 y = h'.2.2 y := fun y hy => rset_out hy
            have kft : k_ft o h' (rset G h' w J.2.1.length (k_app f0 0 J.2.1)) := k_ft.rset (by omega)
            generalize rset G h' w J.2.1.length (k_app f0 0 J.2.1) = h1 at rcc kA kft ⊢
            have ho1 := (kA o (by omega)).trans ho
            refine z_aload_n d_TK_declare_69 rfl rfl ?_
            refine z_getf (L_TK_31K HG) (by decide) (L_TK_31 HG) d_TK_declare_70 ho1 (by rfl) ?_
            refine z_aload_n d_TK_declare_73 rfl rfl ?_
            refine z_getf (L_TK_35K HG) (by decide) (L_TK_35 HG) d_TK_declare_74 ho1 (by rfl) ?_
            refine z_iload_n d_TK_declare_77 rfl rfl ?_
            refine z_zast d_TK_declare_78 (ty2 HG) ((kA (o + 4) (by omega)).trans hfd) (pk_in ks.length 8 (by omega)) ?_
            rw [nI_clamp (by omega), vp_nar_b]
            generalize hv4 : (Sum.inl (G.ca 2, 8, Sum.inl (upd fd ks.length (if b = true then nI 1 else nI 0))) : va_E) = v4
            have hd4 := z_set_at h1 (o + 4) v4
            have kB : ∀ y, y ≠ o + 4 → (z_set h1 (o + 4) v4).2.2 y = h1.2.2 y := fun y hy => z_set_ne _ _ hy
            have kft2 : k_ft o h' (z_set h1 (o + 4) v4) := kft.tr (k_ft.set _ (by omega))
            have rcd := z_set_row (a := o + 4) v4 rcc (by omega) (by omega)
            generalize z_set h1 (o + 4) v4 = h3 at hd4 kB kft2 rcd ⊢
            have ho3 := (kB o (by omega)).trans ho1
            refine z_aload_n d_TK_declare_79 rfl rfl ?_
            refine z_dup d_TK_declare_80 rfl ?_
            refine z_getf (L_TK_35K HG) (by decide) (L_TK_35 HG) d_TK_declare_81 ho3 (by rfl) ?_
            refine z_iconst (v := nI 1) d_TK_declare_84 (by decide) ?_
            refine z_iadd d_TK_declare_85 ?_
            rw [nI_add]
            refine z_putf (L_TK_35K HG) (by decide) (L_TK_35 HG) rfl d_TK_declare_86 ho3 rfl rfl (Nat.le_of_ble_eq_true rfl) ?_
            have ho4 := z_set_at h3 o (k_tk o (js.length + 1) 0 (ks.length + 1))
            show z_V G m_TK_declare (d + 3) 89 _ _ (z_set h3 o (k_tk o (js.length + 1) 0 (ks.length + 1))) _
            refine z_aload_n d_TK_declare_89 rfl rfl ?_
            refine z_dup d_TK_declare_90 rfl ?_
            refine z_getf (L_TK_15K HG) (by decide) (L_TK_15 HG) d_TK_declare_91 ho4 (by rfl) ?_
            refine z_iconst (v := nI 1) d_TK_declare_94 (by decide) ?_
            refine z_isub d_TK_declare_95 ?_
            rw [pk_sub (by omega)]
            refine z_putf (L_TK_15K HG) (by decide) (L_TK_15 HG) rfl d_TK_declare_96 ho4 rfl rfl (Nat.le_of_ble_eq_true rfl) ?_
            show z_V G m_TK_declare (d + 3) 99 _ _ (z_set (z_set h3 o (k_tk o (js.length + 1) 0 (ks.length + 1))) o (k_tk o js.length 0 (ks.length + 1))) _
            rw [z_set_set]
            have ho5 := z_set_at h3 o (k_tk o js.length 0 (ks.length + 1))
            refine z_aload_n d_TK_declare_99 rfl rfl ?_
            refine z_getf (L_TK_35K HG) (by decide) (L_TK_35 HG) d_TK_declare_100 ho5 (by rfl) ?_
            refine z_iconst (v := nI 1) d_TK_declare_103 (by decide) ?_
            refine z_isub d_TK_declare_104 ?_
            rw [pk_sub (by omega)]
            obtain ⟨b1, -, b3, b4, b5, b6, ⟨x, b7⟩, b8⟩ := H
            have kC : ∀ y, y ≠ o → y ≠ o + 4 → y < w ∨ w + 1 < y → (z_set h3 o (k_tk o js.length 0 (ks.length + 1))).2.2 y = h'.2.2 y := fun y y1 y2 y3 => (z_set_ne _ _ y1).trans ((kB y y2).trans (kA y y3))
            refine z_ireturn d_TK_declare_105 rfl rfl ⟨rfl, ⟨b1.keep (fun y hy => kC y (by omega) (by omega) (by omega)), ?_, b3.pop.keep (fun y hy => kC y (by omega) (by omega) (by omega)), b4.keep (fun y hy => kC y (by omega) (by omega) (by omega)), hkp _ ?_ (fun y y1 y2 => kC y (by omega) (by omega) (by omega)) (rowL.mk (z_set_row _ rcd (by omega) (by omega)) (rl_copy hlt)), b6.keep (fun y hy => kC y (by omega) (by omega) (by omega)), ⟨x, b7.keep (fun y hy => kC y (by omega) (by omega) (by omega))⟩, b8.keep (fun y hy => kC y (by omega) (by omega) (by omega))⟩, kft2.tr (k_ft.set _ (by omega))⟩
            · rw [show (ks ++ [(J.2.1, b)]).length = ks.length + 1 by simp]
              exact ho5
            · refine (z_set_ne _ _ (by omega)).trans (hd4.trans ?_)
              rw [← hv4]
          · rw [if_neg hk, if_neg hk]
            refine z_if_ne (tgt := 53) d_TK_declare_42 rfl (fun c3 => absurd nI_0 c3) (fun c3 => ?_)
            exact z_throw d_TK_declare_45 d_TK_declare_48 d_TK_declare_49 d_TK_declare_52 rfl (by decide +kernel) (t_TK_111 HG) hrm.1 hrm.2 (by decide) ⟨rfl, h', rfl, H, k_ft.rf⟩
        · rw [nI_eq (by omega) (by omega)] at c2
          rw [if_pos c2]
          exact z_throw d_TK_declare_30 d_TK_declare_33 d_TK_declare_34 d_TK_declare_37 rfl (by decide +kernel) (t_TK_129 HG) hrm.1 hrm.2 (by decide) ⟨rfl, h', rfl, H, k_ft.rf⟩
    · have eK : k_declare (js, [], ks, Rs) b = .inl z_ISE := by
        cases js with
        | nil => rfl
        | cons J js =>
          rw [p_pres0] at hc
          have hc : ¬ J.1 = 0 := hc
          show (if J.1 = 0 then _ else _) = _
          rw [if_neg hc]
      rw [eK]
      exact ⟨rfl, h, hh, H, k_ft.rf⟩
end KD
end
section
/-! normal, same -/
section KN
variable {G : z_G} {h : z_H} {d o : Nat} {K : pK}
theorem c_nm (HG : z_ok G) {n s rr : Nat} {fs : Nat → Int32} {x : List Nat} {z : Nat × List Nat} (hrm : z_rm G h) (H : KAt G h o K) (P : pok K) (hn : n ≤ 4) (hr : scR rr) (hso : o + 63 < s) (hw : p_wf n [0] x) (hs : rowAt G h s x.length fs) (hls : rl fs x) (hz : p_norm K.2.2.2 51 x = some z) :
    z_C G m_Rw_normalize (d + 5) [.ref (o + 5), .ref s, .ref (o + rr)] h (z_pq (some (.int (nI z.1))) (fun h' => KAt G h' o K ∧ k_ft o h h' ∧ (∃ f, rowAt G h' (o + rr) z.2.length f ∧ rl f z.2) ∧ ∀ y, y < o + 5 ∨ o + 15 < y → y ≠ o + rr → y ≠ o + rr + 1 → h'.2.2 y = h.2.2 y)) := by
  obtain ⟨n0, f0, r0, -⟩ := H.2.2.2.2.2.1 rr hr
  obtain ⟨x0, HR⟩ := H.2.2.2.2.2.2.1
  have hr' := hr
  unfold scR at hr'
  refine (c_Rw_normalize HG hn P.2.2.2 (show k_out (o + 5) (o + rr) by unfold k_out; omega) (show k_out (o + 5) s by unfold k_out; omega) hrm HR hw hs hls r0).mono (fun r h' hh => ?_)
  rw [hz] at hh
  obtain ⟨e1, x', h1, e2, e3, e4⟩ := hh
  rw [Nat.zero_add] at e1
  obtain ⟨w1, w2, w3⟩ := p_norm_wf P.2.2.2 hw hls.len hz
  have HK := (H.fq e4 e3).sc (n := z.2.length) (f := k_app f0 0 z.2) hr
  subst e2
  exact ⟨e1, HK, e4.ft.tr (k_ft.rset (by omega)), ⟨_, rset_at .., p_wf_rl w1 hn w2⟩, fun y y1 y2 y3 => (rset_ne G h1 _ _ y2 y3).trans (e4.2.2 y (by omega))⟩
theorem c_nmX (HG : z_ok G) {n s rr : Nat} {fs : Nat → Int32} {x : List Nat} (hrm : z_rm G h) (H : KAt G h o K) (P : pok K) (hn : n ≤ 4) (hr : scR rr) (hso : o + 63 < s) (hw : p_wf n [0] x) (hs : rowAt G h s x.length fs) (hls : rl fs x) (hz : p_norm K.2.2.2 51 x = none) :
    z_C G m_Rw_normalize (d + 5) [.ref (o + 5), .ref s, .ref (o + rr)] h (z_xq z_AE (fun h' => ∃ h1, h' = z_exc h1 ∧ KAt G h1 o K ∧ k_ft o h h1)) := by
  obtain ⟨n0, f0, r0, -⟩ := H.2.2.2.2.2.1 rr hr
  obtain ⟨x0, HR⟩ := H.2.2.2.2.2.2.1
  have hr' := hr
  unfold scR at hr'
  refine (c_Rw_normalize HG hn P.2.2.2 (show k_out (o + 5) (o + rr) by unfold k_out; omega) (show k_out (o + 5) s by unfold k_out; omega) hrm HR hw hs hls r0).mono (fun r h' hh => ?_)
  rw [hz] at hh
  obtain ⟨e1, x', h1, e2, e3, e4⟩ := hh
  exact ⟨e1, h1, e2, H.fq e4 e3, e4.ft⟩
def k_normal (K : pK) : String ⊕ (Option Value × pK) := match K.1 with
  | [] => .inl z_ISE
  | J :: js => match p_norm K.2.2.2 51 J.2.1 with
    | none => .inl z_AE
    | some z => .inr (some (.int (nI z.1)), ((J.1, z.2, J.2.2) :: js, K.2))
theorem c_TK_normal (HG : z_ok G) (hrm : z_rm G h) (H : KAt G h o K) (P : pok K) : z_C G m_TK_normal (d + 6) [.ref o] h (tk_post G o K h (k_normal K)) := by
  obtain ⟨l1, l2, l3⟩ := H.len
  refine z_C.of (Nat.le_of_ble_eq_true rfl) ?_
  refine z_aload_n d_TK_normal_0 rfl rfl ?_
  refine z_iconst (v := nI 0) d_TK_normal_1 (by decide) ?_
  refine z_callVg (as := [.int (nI 0)]) (dY := d + 1) d_TK_normal_2 rfl (by omega) (Y_TK_163 HG) rfl H.2.1 (cl_TK HG) (Nat.le_of_ble_eq_true rfl) (c_TK_needed HG hrm H.2.1 H.1 l1 (k := 0) (by omega)) (fun hc h' hh => ?_) (fun hc h' hh => ?_)
  · subst hh
    obtain ⟨js, cs, ks, Rs⟩ := K
    cases js with
    | nil => exact absurd hc (by simp)
    | cons J js =>
      have l1' : js.length + 1 ≤ 6 := l1
      have l2' : cs.length ≤ 4 := l2
      have eK : k_normal (J :: js, cs, ks, Rs) = match p_norm Rs 51 J.2.1 with
        | none => .inl z_AE
        | some z => .inr (some (.int (nI z.1)), ((J.1, z.2, J.2.2) :: js, cs, ks, Rs)) := rfl
      rw [eK]
      have hJ : jdAt G h' (k_ju o js.length) (some J) := H.2.2.1.get (k := 0) (J := J) rfl
      have ho : h'.2.2 o = some (k_tk o (js.length + 1) cs.length ks.length) := H.2.1
      obtain ⟨pj1, pj2, pj3⟩ := P.1 J List.mem_cons_self
      change J.1 ≤ cs.length at pj1
      have hu : o + 64 ≤ k_ju o js.length ∧ k_ju o js.length + 4 ≤ o + 93 := by unfold k_ju; omega
      show z_V G m_TK_normal (d + 6) 5 _ (.ref (k_ju o js.length) :: []) h' _
      obtain ⟨ft, rt, hlt⟩ := rowL.get hJ.2.1
      obtain ⟨fy, ry, hly⟩ := rowL.get hJ.2.2
      obtain ⟨x0, HR⟩ := H.2.2.2.2.2.2.1
      obtain ⟨a, b, nb, fx, fb, g, fr', hab, hq, -⟩ := HR
      refine z_astore_n d_TK_normal_5 rfl (by decide) ?_
      refine z_aload_n d_TK_normal_6 rfl rfl ?_
      refine z_getf (L_TK_41K HG) (by decide) (L_TK_41 HG) d_TK_normal_7 ho (by rfl) ?_
      refine z_aload_n d_TK_normal_10 rfl rfl ?_
      refine z_getf (L_TK_64K HG) (by decide) (L_TK_64 HG) d_TK_normal_11 hJ.ob (by rfl) ?_
      refine z_aload_n d_TK_normal_14 rfl rfl ?_
      refine z_getf (L_TK_53K HG) (by decide) (L_TK_53 HG) d_TK_normal_15 ho (by rfl) ?_
      cases hz : p_norm Rs 51 J.2.1 with
      | none =>
        refine z_callV2x (dY := d + 5) d_TK_normal_18 rfl (by omega) (Y_TK_103 HG) hq (cl_Rw HG) (Nat.le_of_ble_eq_true rfl) (c_nmX HG hrm H P (show J.1 ≤ 4 by omega) (rr := 60) (by unfold scR; omega) (by omega) pj2 rt hlt hz) (fun h1 hh1 => ?_)
        exact ⟨rfl, hh1⟩
      | some z =>
        refine z_callV2q (dY := d + 5) d_TK_normal_18 rfl (by omega) (Y_TK_103 HG) hq (cl_Rw HG) (Nat.le_of_ble_eq_true rfl) (c_nm HG hrm H P (show J.1 ≤ 4 by omega) (rr := 60) (by unfold scR; omega) (by omega) pj2 rt hlt hz) (fun h1 hh1 => ?_)
        obtain ⟨H1, kf1, ⟨f60, r60, hl60⟩, kA⟩ := hh1
        have hJ1 : jdAt G h1 (k_ju o js.length) (some J) := H1.2.2.1.get (k := 0) (J := J) rfl
        have ho1 : h1.2.2 o = some (k_tk o (js.length + 1) cs.length ks.length) := H1.2.1
        obtain ⟨ft1, rt1, hlt1⟩ := rowL.get hJ1.2.1
        obtain ⟨fy1, ry1, hly1⟩ := rowL.get hJ1.2.2
        refine z_istore_n d_TK_normal_21 rfl (by decide) ?_
        refine z_aload_n d_TK_normal_22 rfl rfl ?_
        refine z_getf (L_TK_64K HG) (by decide) (L_TK_64 HG) d_TK_normal_23 hJ1.ob (by rfl) ?_
        refine z_aload_n d_TK_normal_26 rfl rfl ?_
        refine z_getf (L_TK_53K HG) (by decide) (L_TK_53 HG) d_TK_normal_27 ho1 (by rfl) ?_
        refine z_callV1v (dY := d) d_TK_normal_30 rfl (by omega) (Y_TK_81 HG) rt1.1 (cl_Row HG) (Nat.le_of_ble_eq_true rfl) (c_Row_copy HG rt1 r60 hl60 (by omega) (by omega) (by omega)) ?_
        refine z_iload_n d_TK_normal_33 rfl rfl ?_
        exact z_ireturn d_TK_normal_34 rfl rfl ⟨rfl, KAt.gen H1 H1.2.2.1.pop (by omega) H1.2.2.2.1 (fun y y1 y2 => rset_out (by omega)) ((rset_out (by omega)).trans ho1) ⟨⟨_, (rset_out (by omega)).trans hJ1.ob, fun J e => by cases e; rfl⟩, rowL.mk (rset_at ..) (rl_copy hl60), rowL.mk (rset_row _ _ ry1 (by omega) (by omega) (by omega)) hly1⟩, kf1.tr (k_ft.rset (by omega))⟩
  · have eK : k_normal K = .inl z_ISE := by
      obtain ⟨js, K2⟩ := K
      cases js with
      | nil => rfl
      | cons J js => exact absurd (Nat.succ_pos _) hc
    rw [eK]
    exact ⟨rfl, h, hh, H, k_ft.rf⟩
def k_same (K : pK) : String ⊕ (Option Value × pK) := match K.1 with
  | A :: B :: _ => if A.1 = B.1 then (match p_norm K.2.2.2 51 B.2.1 with
      | none => .inl z_AE
      | some zb => match p_norm K.2.2.2 51 A.2.1 with
        | none => .inl z_AE
        | some za => .inr (some (.int (if za.2 = zb.2 then nI 1 else nI 0)), K)) else .inl z_ISE
  | _ => .inl z_ISE
theorem c_TK_same (HG : z_ok G) (hrm : z_rm G h) (H : KAt G h o K) (P : pok K) : z_C G m_TK_same (d + 6) [.ref o] h (tk_post G o K h (k_same K)) := by
  obtain ⟨l1, l2, l3⟩ := H.len
  refine z_C.of (Nat.le_of_ble_eq_true rfl) ?_
  refine z_aload_n d_TK_same_0 rfl rfl ?_
  refine z_iconst (v := nI 0) d_TK_same_1 (by decide) ?_
  refine z_callVg (as := [.int (nI 0)]) (dY := d + 1) d_TK_same_2 rfl (by omega) (Y_TK_163 HG) rfl H.2.1 (cl_TK HG) (Nat.le_of_ble_eq_true rfl) (c_TK_needed HG hrm H.2.1 H.1 l1 (k := 0) (by omega)) (fun hc h' hh => ?_) (fun hc h' hh => ?_)
  · subst hh
    refine z_astore_n d_TK_same_5 rfl (by decide) ?_
    refine z_aload_n d_TK_same_6 rfl rfl ?_
    refine z_iconst (v := nI 1) d_TK_same_7 (by decide) ?_
    refine z_callVg (as := [.int (nI 1)]) (dY := d + 1) d_TK_same_8 rfl (by omega) (Y_TK_163 HG) rfl H.2.1 (cl_TK HG) (Nat.le_of_ble_eq_true rfl) (c_TK_needed HG hrm H.2.1 H.1 l1 (k := 1) (by omega)) (fun hc1 h1 hh1 => ?_) (fun hc1 h1 hh1 => ?_)
    · subst hh1
      obtain ⟨js, cs, ks, Rs⟩ := K
      cases js with
      | nil => exact absurd hc (by simp)
      | cons A js =>
        cases js with
        | nil => exact absurd hc1 (by simp)
        | cons B js =>
          have l1' : js.length + 1 + 1 ≤ 6 := l1
          have l2' : cs.length ≤ 4 := l2
          have eK : k_same (A :: B :: js, cs, ks, Rs) = if A.1 = B.1 then (match p_norm Rs 51 B.2.1 with
            | none => .inl z_AE
            | some zb => match p_norm Rs 51 A.2.1 with
              | none => .inl z_AE
              | some za => .inr (some (.int (if za.2 = zb.2 then nI 1 else nI 0)), (A :: B :: js, cs, ks, Rs))) else .inl z_ISE := rfl
          rw [eK]
          have hA : jdAt G h1 (k_ju o (js.length + 1)) (some A) := H.2.2.1.get (k := 0) (J := A) rfl
          have hB : jdAt G h1 (k_ju o js.length) (some B) := H.2.2.1.get (k := 1) (J := B) rfl
          have ho : h1.2.2 o = some (k_tk o (js.length + 1 + 1) cs.length ks.length) := H.2.1
          obtain ⟨pa1, pa2, pa3⟩ := P.1 A List.mem_cons_self
          obtain ⟨pb1, pb2, pb3⟩ := P.1 B (List.mem_cons_of_mem _ List.mem_cons_self)
          change A.1 ≤ cs.length at pa1
          change B.1 ≤ cs.length at pb1
          have hua : o + 64 ≤ k_ju o (js.length + 1) ∧ k_ju o (js.length + 1) + 4 ≤ o + 93 := by unfold k_ju; omega
          have hub : o + 64 ≤ k_ju o js.length ∧ k_ju o js.length + 4 ≤ o + 93 := by unfold k_ju; omega
          show z_V G m_TK_same (d + 6) 11 ((1, .ref (k_ju o (js.length + 1))) :: _) (.ref (k_ju o js.length) :: []) h1 _
          obtain ⟨fa, ra, hla⟩ := rowL.get hA.2.1
          obtain ⟨fb, rb, hlb⟩ := rowL.get hB.2.1
          obtain ⟨x0, HR⟩ := H.2.2.2.2.2.2.1
          obtain ⟨a, b, nb, fx, fb', g, fr', hab, hq, -⟩ := HR
          refine z_astore_n d_TK_same_11 rfl (by decide) ?_
          refine z_aload_n d_TK_same_12 rfl rfl ?_
          refine z_getf (L_TK_166K HG) (by decide) (L_TK_166 HG) d_TK_same_13 hA.ob (by rfl) ?_
          refine z_aload_n d_TK_same_16 rfl rfl ?_
          refine z_getf (L_TK_166K HG) (by decide) (L_TK_166 HG) d_TK_same_17 hB.ob (by rfl) ?_
          refine z_icmp_eq (tgt := 31) d_TK_same_20 rfl (fun c1 => ?_) (fun c1 => ?_)
          · rw [nI_eq (by omega) (by omega)] at c1
            rw [if_pos c1]
            refine z_aload_n d_TK_same_31 rfl rfl ?_
            refine z_getf (L_TK_41K HG) (by decide) (L_TK_41 HG) d_TK_same_32 ho (by rfl) ?_
            refine z_aload_n d_TK_same_35 rfl rfl ?_
            refine z_getf (L_TK_64K HG) (by decide) (L_TK_64 HG) d_TK_same_36 hB.ob (by rfl) ?_
            refine z_aload_n d_TK_same_39 rfl rfl ?_
            refine z_getf (L_TK_46K HG) (by decide) (L_TK_46 HG) d_TK_same_40 ho (by rfl) ?_
            cases hzb : p_norm Rs 51 B.2.1 with
            | none =>
              refine z_callV2x (dY := d + 5) d_TK_same_43 rfl (by omega) (Y_TK_103 HG) hq (cl_Rw HG) (Nat.le_of_ble_eq_true rfl) (c_nmX HG hrm H P (show B.1 ≤ 4 by omega) (rr := 56) (by unfold scR; omega) (by omega) pb2 rb hlb hzb) (fun h2 hh2 => ?_)
              exact ⟨rfl, hh2⟩
            | some zb =>
              refine z_callV2q (dY := d + 5) d_TK_same_43 rfl (by omega) (Y_TK_103 HG) hq (cl_Rw HG) (Nat.le_of_ble_eq_true rfl) (c_nm HG hrm H P (show B.1 ≤ 4 by omega) (rr := 56) (by unfold scR; omega) (by omega) pb2 rb hlb hzb) (fun h2 hh2 => ?_)
              obtain ⟨H2, kf2, ⟨f56, r56, hl56⟩, kA⟩ := hh2
              have hA2 : jdAt G h2 (k_ju o (js.length + 1)) (some A) := H2.2.2.1.get (k := 0) (J := A) rfl
              have ho2 : h2.2.2 o = some (k_tk o (js.length + 1 + 1) cs.length ks.length) := H2.2.1
              obtain ⟨fa2, ra2, hla2⟩ := rowL.get hA2.2.1
              obtain ⟨x02, HR2⟩ := H2.2.2.2.2.2.2.1
              obtain ⟨a2, b2, nb2, fx2, fb2, g2, fr2, hab2, hq2, -⟩ := HR2
              refine z_pop d_TK_same_46 rfl ?_
              refine z_aload_n d_TK_same_47 rfl rfl ?_
              refine z_getf (L_TK_41K HG) (by decide) (L_TK_41 HG) d_TK_same_48 ho2 (by rfl) ?_
              refine z_aload_n d_TK_same_51 rfl rfl ?_
              refine z_getf (L_TK_64K HG) (by decide) (L_TK_64 HG) d_TK_same_52 hA2.ob (by rfl) ?_
              refine z_aload_n d_TK_same_55 rfl rfl ?_
              refine z_getf (L_TK_50K HG) (by decide) (L_TK_50 HG) d_TK_same_56 ho2 (by rfl) ?_
              simp only []
              cases hza : p_norm Rs 51 A.2.1 with
              | none =>
                refine z_callV2x (dY := d + 5) d_TK_same_59 rfl (by omega) (Y_TK_103 HG) hq2 (cl_Rw HG) (Nat.le_of_ble_eq_true rfl) (c_nmX HG (kf2.rm hrm) H2 P (show A.1 ≤ 4 by omega) (rr := 58) (by unfold scR; omega) (by omega) pa2 ra2 hla2 hza) (fun h3 hh3 => ?_)
                obtain ⟨h4, e4, H4, kf4⟩ := hh3
                exact ⟨rfl, h4, e4, H4, kf2.tr kf4⟩
              | some za =>
                refine z_callV2q (dY := d + 5) d_TK_same_59 rfl (by omega) (Y_TK_103 HG) hq2 (cl_Rw HG) (Nat.le_of_ble_eq_true rfl) (c_nm HG (kf2.rm hrm) H2 P (show A.1 ≤ 4 by omega) (rr := 58) (by unfold scR; omega) (by omega) pa2 ra2 hla2 hza) (fun h3 hh3 => ?_)
                obtain ⟨H3, kf3, ⟨f58, r58, hl58⟩, kB⟩ := hh3
                have ho3 : h3.2.2 o = some (k_tk o (js.length + 1 + 1) cs.length ks.length) := H3.2.1
                have r56' : rowAt G h3 (o + 56) zb.2.length f56 := ⟨(kB _ (by omega) (by omega) (by omega)).trans r56.1, (kB _ (by omega) (by omega) (by omega)).trans r56.2⟩
                refine z_pop d_TK_same_62 rfl ?_
                refine z_aload_n d_TK_same_63 rfl rfl ?_
                refine z_getf (L_TK_50K HG) (by decide) (L_TK_50 HG) d_TK_same_64 ho3 (by rfl) ?_
                refine z_aload_n d_TK_same_67 rfl rfl ?_
                refine z_getf (L_TK_46K HG) (by decide) (L_TK_46 HG) d_TK_same_68 ho3 (by rfl) ?_
                refine z_callV1r (dY := d + 2) d_TK_same_71 rfl (by omega) (Y_TK_156 HG) r58.1 (cl_Row HG) (Nat.le_of_ble_eq_true rfl) (c_Row_equalsRow HG r58 hl58 r56' hl56) ?_
                refine z_ireturn d_TK_same_74 rfl ?_ ⟨rfl, H3, kf2.tr kf3⟩
                split <;> rfl
          · rw [nI_eq (by omega) (by omega)] at c1
            rw [if_neg c1]
            exact z_throw d_TK_same_23 d_TK_same_26 d_TK_same_27 d_TK_same_30 rfl (by decide +kernel) (t_TK_146 HG) hrm.1 hrm.2 (by decide) ⟨rfl, h1, rfl, H, k_ft.rf⟩
    · have eK : k_same K = .inl z_ISE := by
        obtain ⟨js, K2⟩ := K
        cases js with
        | nil => rfl
        | cons J js =>
          cases js with
          | nil => rfl
          | cons J2 js => exact absurd (show 1 < js.length + 1 + 1 by omega) hc1
      rw [eK]
      exact ⟨rfl, h', hh1, H, k_ft.rf⟩
  · have eK : k_same K = .inl z_ISE := by
      obtain ⟨js, K2⟩ := K
      cases js with
      | nil => rfl
      | cons J js => exact absurd (Nat.succ_pos _) hc
    rw [eK]
    exact ⟨rfl, h, hh, H, k_ft.rf⟩
end KN
end
section
/-! apply -/
theorem p_wf_body {n : Nat} {l a : List Nat} (h : p_wf n [0] l) (h4 : l.getD 0 0 = 4) (ha : p_wf n [0] a) : p_wf n [0] (p_put a [0] (l.drop (1 + p_end 1 (l.drop 1)))) := by
  cases l with
  | nil => cases h4
  | cons v l =>
    have hv : v = 4 := h4
    subst hv
    have h2 : p_wf n ([0] ++ [1]) l := h.2
    have h3 := (p_wf_split h2).2
    have e : (4 :: l).drop (1 + p_end 1 ((4 :: l).drop 1)) = l.drop (p_end ([0] : List Nat).length l) := by
      rw [Nat.add_comm]
      rfl
    rw [e]
    exact p_wf_put ha (p_wf_sh1.mp h3)
theorem p_wf_pos {n : Nat} {l : List Nat} (h : p_wf n [0] l) : 1 ≤ l.length := by
  cases l with
  | nil => exact absurd h (by simp [p_wf])
  | cons v l => simp
section KA
variable {G : z_G} {h : z_H} {d o : Nat} {K : pK}
theorem KAt.kfr {h' : z_H} {r : Nat} (H : KAt G h o K) (hr : scR r) (k : k_fr (o + 5) (o + r) h h') (hs : k_sc G (o + 5) h') (hx : ∃ n f, rowAt G h' (o + r) n f) : KAt G h' o K := by
  obtain ⟨a1, a2, a3, a4, a5, a6, ⟨x, a7⟩, a8⟩ := H
  have hr' := hr
  unfold scR at hr'
  have kk : ∀ y, y < o + 12 ∨ o + 15 < y → y ≠ o + r → y ≠ o + r + 1 → h'.2.2 y = h.2.2 y := fun y y1 y2 y3 => k.2.2 y (by omega) y2 y3
  refine ⟨a1.keep (fun y hy => kk y (by omega) (by omega) (by omega)), (kk o (by omega) (by omega) (by omega)).trans a2, a3.keep (fun y hy => kk y (by omega) (by omega) (by omega)), a4.keep (fun y hy => kk y (by omega) (by omega) (by omega)), a5.keep (kk _ (by omega) (by omega) (by omega)) (fun y hy => kk y (by omega) (by omega) (by omega)), ?_, ⟨x, a7.kfr (show k_out (o + 5) (o + r) by unfold k_out; omega) k hs⟩, a8.keep (fun y hy => kk y (by omega) (by omega) (by omega))⟩
  intro r2 hr2
  by_cases e : r2 = r
  · subst e
    obtain ⟨n, f, hx⟩ := hx
    exact ⟨n, f, hx, fun l e => by cases e⟩
  · have hr2' := hr2
    unfold scR at hr2'
    exact (a6 r2 hr2).keep (kk _ (by omega) (by omega) (by omega)) (kk _ (by omega) (by omega) (by omega))
theorem k_fr.ft {h' : z_H} {r : Nat} (hr : scR r) (k : k_fr (o + 5) (o + r) h h') : k_ft o h h' := by
  unfold scR at hr
  exact ⟨k.1, k.2.1, fun y hy => k.2.2 y (by omega) (by omega) (by omega)⟩
def k_apply (K : pK) : String ⊕ (Option Value × pK) := match K.1 with
  | A :: F :: js => if A.1 = K.2.1.length ∧ F.1 = K.2.1.length then (match p_norm K.2.2.2 51 F.2.2 with
      | none => .inl z_AE
      | some zf => if zf.2.getD 0 0 = 4 then (match p_norm K.2.2.2 51 A.2.2 with
          | none => .inl z_AE
          | some za => if za.2 = (zf.2.drop 1).take (p_end 1 (zf.2.drop 1)) then
              (if 1 + F.2.1.length + A.2.1.length ≤ 40 ∧ (p_put A.2.1 [0] (zf.2.drop (1 + p_end 1 (zf.2.drop 1)))).length ≤ 40 then .inr (none, ((K.2.1.length, 2 :: (F.2.1 ++ A.2.1), p_put A.2.1 [0] (zf.2.drop (1 + p_end 1 (zf.2.drop 1)))) :: js, K.2)) else .inl z_AE)
              else .inl z_IAE) else .inl z_IAE) else .inl z_ISE
  | _ => .inl z_ISE
theorem c_TK_apply (HG : z_ok G) (hrm : z_rm G h) (H : KAt G h o K) (P : pok K) : z_C G m_TK_apply (d + 6) [.ref o] h (tk_post G o K h (k_apply K)) := by
  obtain ⟨l1, l2, l3⟩ := H.len
  have hP4 := pok.e4 H P
  refine z_C.of (Nat.le_of_ble_eq_true rfl) ?_
  refine z_aload_n d_TK_apply_0 rfl rfl ?_
  refine z_iconst (v := nI 0) d_TK_apply_1 (by decide) ?_
  refine z_callVg (as := [.int (nI 0)]) (dY := d + 2) d_TK_apply_2 rfl (by omega) (Y_TK_99 HG) rfl H.2.1 (cl_TK HG) (Nat.le_of_ble_eq_true rfl) (c_TK_present HG hrm H.2.1 H.1 H.2.2.1 hP4 l2 (k := 0) (by omega)) (fun hc h' hh => ?_) (fun hc h' hh => ?_)
  · subst hh
    refine z_astore_n d_TK_apply_5 rfl (by decide) ?_
    refine z_aload_n d_TK_apply_6 rfl rfl ?_
    refine z_iconst (v := nI 1) d_TK_apply_7 (by decide) ?_
    refine z_callVg (as := [.int (nI 1)]) (dY := d + 2) d_TK_apply_8 rfl (by omega) (Y_TK_99 HG) rfl H.2.1 (cl_TK HG) (Nat.le_of_ble_eq_true rfl) (c_TK_present HG hrm H.2.1 H.1 H.2.2.1 hP4 l2 (k := 1) (by omega)) (fun hc1 h1 hh1 => ?_) (fun hc1 h1 hh1 => ?_)
    · subst hh1
      obtain ⟨js, cs, ks, Rs⟩ := K
      cases js with
      | nil =>
        obtain ⟨J, e, -⟩ := hc
        cases e
      | cons A js =>
        cases js with
        | nil =>
          obtain ⟨J, e, -⟩ := hc1
          cases e
        | cons F js =>
          have hcA : A.1 = cs.length := p_pres0.mp hc
          have hcF : F.1 = cs.length := by
            obtain ⟨J, e1, e2⟩ := hc1
            cases e1
            exact e2
          have l1' : js.length + 1 + 1 ≤ 6 := l1
          have l2' : cs.length ≤ 4 := l2
          have eK : k_apply (A :: F :: js, cs, ks, Rs) = if A.1 = cs.length ∧ F.1 = cs.length then (match p_norm Rs 51 F.2.2 with
            | none => .inl z_AE
            | some zf => if zf.2.getD 0 0 = 4 then (match p_norm Rs 51 A.2.2 with
              | none => .inl z_AE
              | some za => if za.2 = (zf.2.drop 1).take (p_end 1 (zf.2.drop 1)) then
                  (if 1 + F.2.1.length + A.2.1.length ≤ 40 ∧ (p_put A.2.1 [0] (zf.2.drop (1 + p_end 1 (zf.2.drop 1)))).length ≤ 40 then .inr (none, ((cs.length, 2 :: (F.2.1 ++ A.2.1), p_put A.2.1 [0] (zf.2.drop (1 + p_end 1 (zf.2.drop 1)))) :: js, cs, ks, Rs)) else .inl z_AE)
                  else .inl z_IAE) else .inl z_IAE) else .inl z_ISE := rfl
          rw [eK, if_pos ⟨hcA, hcF⟩]
          have hA : jdAt G h1 (k_ju o (js.length + 1)) (some A) := H.2.2.1.get (k := 0) (J := A) rfl
          have hF : jdAt G h1 (k_ju o js.length) (some F) := H.2.2.1.get (k := 1) (J := F) rfl
          have ho : h1.2.2 o = some (k_tk o (js.length + 1 + 1) cs.length ks.length) := H.2.1
          obtain ⟨pa1, pa2, pa3⟩ := P.1 A List.mem_cons_self
          obtain ⟨pb1, pb2, pb3⟩ := P.1 F (List.mem_cons_of_mem _ List.mem_cons_self)
          rw [hcA] at pa2 pa3
          rw [hcF] at pb2 pb3
          have hua : o + 64 ≤ k_ju o (js.length + 1) ∧ k_ju o (js.length + 1) + 4 ≤ o + 93 := by unfold k_ju; omega
          have hub : o + 64 ≤ k_ju o js.length ∧ k_ju o js.length + 4 ≤ o + 93 := by unfold k_ju; omega
          have huab : k_ju o js.length + 5 = k_ju o (js.length + 1) := by unfold k_ju; omega
          show z_V G m_TK_apply (d + 6) 11 ((1, .ref (k_ju o (js.length + 1))) :: _) (.ref (k_ju o js.length) :: []) h1 _
          obtain ⟨ff, rf, hlf⟩ := rowL.get hF.2.2
          obtain ⟨x0, HR⟩ := H.2.2.2.2.2.2.1
          obtain ⟨a, b, nb, fx, fb', g, fr', hab, hq, -⟩ := HR
          refine z_astore_n d_TK_apply_11 rfl (by decide) ?_
          refine z_aload_n d_TK_apply_12 rfl rfl ?_
          refine z_getf (L_TK_41K HG) (by decide) (L_TK_41 HG) d_TK_apply_13 ho (by rfl) ?_
          refine z_aload_n d_TK_apply_16 rfl rfl ?_
          refine z_getf (L_TK_71K HG) (by decide) (L_TK_71 HG) d_TK_apply_17 hF.ob (by rfl) ?_
          refine z_aload_n d_TK_apply_20 rfl rfl ?_
          refine z_getf (L_TK_46K HG) (by decide) (L_TK_46 HG) d_TK_apply_21 ho (by rfl) ?_
          cases hzf : p_norm Rs 51 F.2.2 with
          | none =>
            refine z_callV2x (dY := d + 5) d_TK_apply_24 rfl (by omega) (Y_TK_103 HG) hq (cl_Rw HG) (Nat.le_of_ble_eq_true rfl) (c_nmX HG hrm H P l2' (rr := 56) (by unfold scR; omega) (by omega) pb3 rf hlf hzf) (fun h2 hh2 => ?_)
            exact ⟨rfl, hh2⟩
          | some zf =>
            refine z_callV2q (dY := d + 5) d_TK_apply_24 rfl (by omega) (Y_TK_103 HG) hq (cl_Rw HG) (Nat.le_of_ble_eq_true rfl) (c_nm HG hrm H P l2' (rr := 56) (by unfold scR; omega) (by omega) pb3 rf hlf hzf) (fun h2 hh2 => ?_)
            obtain ⟨H2, kf2, ⟨f56, r56, hl56⟩, -⟩ := hh2
            obtain ⟨wf1, wf2, -⟩ := p_norm_wf P.2.2.2 pb3 hlf.len hzf
            have wpos := p_wf_pos wf1
            have hA2 : jdAt G h2 (k_ju o (js.length + 1)) (some A) := H2.2.2.1.get (k := 0) (J := A) rfl
            have ho2 : h2.2.2 o = some (k_tk o (js.length + 1 + 1) cs.length ks.length) := H2.2.1
            obtain ⟨fa2, ra2, hla2⟩ := rowL.get hA2.2.2
            obtain ⟨x02, HR2⟩ := H2.2.2.2.2.2.2.1
            obtain ⟨a2, b2, nb2, fx2, fb2, g2, fr2, hab2, hq2, -⟩ := HR2
            refine z_pop d_TK_apply_27 rfl ?_
            refine z_aload_n d_TK_apply_28 rfl rfl ?_
            refine z_getf (L_TK_46K HG) (by decide) (L_TK_46 HG) d_TK_apply_29 ho2 (by rfl) ?_
            refine z_iconst (v := nI 0) d_TK_apply_32 (by decide) ?_
            refine z_callV1r (dY := d) d_TK_apply_33 rfl (by omega) (Y_TK_107 HG) r56.1 (cl_Row HG) (Nat.le_of_ble_eq_true rfl) (c_Row_at HG r56 hl56.len (nI 0)) ?_
            rw [k_at_in f56 (by omega) hl56.len, hl56.eq (by omega)]
            have hv0 := hl56.lt (i := 0) (by omega)
            refine z_iconst (v := nI 4) d_TK_apply_36 (by decide) ?_
            simp only []
            refine z_icmp_eq (tgt := 48) d_TK_apply_37 rfl (fun c1 => ?_) (fun c1 => ?_)
            · rw [nI_eq (by omega) (by omega)] at c1
              rw [if_pos c1]
              refine z_aload_n d_TK_apply_48 rfl rfl ?_
              refine z_getf (L_TK_41K HG) (by decide) (L_TK_41 HG) d_TK_apply_49 ho2 (by rfl) ?_
              refine z_aload_n d_TK_apply_52 rfl rfl ?_
              refine z_getf (L_TK_71K HG) (by decide) (L_TK_71 HG) d_TK_apply_53 hA2.ob (by rfl) ?_
              refine z_aload_n d_TK_apply_56 rfl rfl ?_
              refine z_getf (L_TK_50K HG) (by decide) (L_TK_50 HG) d_TK_apply_57 ho2 (by rfl) ?_
              cases hza : p_norm Rs 51 A.2.2 with
              | none =>
                refine z_callV2x (dY := d + 5) d_TK_apply_60 rfl (by omega) (Y_TK_103 HG) hq2 (cl_Rw HG) (Nat.le_of_ble_eq_true rfl) (c_nmX HG (kf2.rm hrm) H2 P l2' (rr := 58) (by unfold scR; omega) (by omega) pa3 ra2 hla2 hza) (fun h3 hh3 => ?_)
                obtain ⟨h4, e4, H4, kf4⟩ := hh3
                exact ⟨rfl, h4, e4, H4, kf2.tr kf4⟩
              | some za =>
                refine z_callV2q (dY := d + 5) d_TK_apply_60 rfl (by omega) (Y_TK_103 HG) hq2 (cl_Rw HG) (Nat.le_of_ble_eq_true rfl) (c_nm HG (kf2.rm hrm) H2 P l2' (rr := 58) (by unfold scR; omega) (by omega) pa3 ra2 hla2 hza) (fun h3 hh3 => ?_)
                obtain ⟨H3, kf3, ⟨f58, r58, hl58⟩, kB⟩ := hh3
                have kf3 := kf2.tr kf3
                have ho3 : h3.2.2 o = some (k_tk o (js.length + 1 + 1) cs.length ks.length) := H3.2.1
                have r56' : rowAt G h3 (o + 56) zf.2.length f56 := ⟨(kB _ (by omega) (by omega) (by omega)).trans r56.1, (kB _ (by omega) (by omega) (by omega)).trans r56.2⟩
                have hbe : 1 + p_end 1 (zf.2.drop 1) ≤ zf.2.length := p_end_drop wpos
                refine z_pop d_TK_apply_63 rfl ?_
                refine z_aload_n d_TK_apply_64 rfl rfl ?_
                refine z_getf (L_TK_46K HG) (by decide) (L_TK_46 HG) d_TK_apply_65 ho3 (by rfl) ?_
                refine z_iconst (v := nI 1) d_TK_apply_68 (by decide) ?_
                refine z_callV1r (dY := d + 1) d_TK_apply_69 rfl (by omega) (Y_TK_114 HG) r56'.1 (cl_Row HG) (Nat.le_of_ble_eq_true rfl) (c_Row_endOf HG r56' hl56 (a := 1) wpos) ?_
                have wB := p_wf_body wf1 c1 pa2
                have eB : 1 + p_end 1 (zf.2.drop 1) - 1 = p_end 1 (zf.2.drop 1) := by omega
                have hge1 : 1 ≤ 1 + p_end 1 (zf.2.drop 1) := by omega
                generalize hbs : 1 + p_end 1 (zf.2.drop 1) = bs at hbe wB eB hge1 ⊢
                rw [← eB]
                refine z_istore_n d_TK_apply_72 rfl (by decide) ?_
                refine z_aload_n d_TK_apply_73 rfl rfl ?_
                refine z_getf (L_TK_50K HG) (by decide) (L_TK_50 HG) d_TK_apply_74 ho3 (by rfl) ?_
                refine z_aload_n d_TK_apply_77 rfl rfl ?_
                refine z_getf (L_TK_46K HG) (by decide) (L_TK_46 HG) d_TK_apply_78 ho3 (by rfl) ?_
                refine z_iconst (v := nI 1) d_TK_apply_81 (by decide) ?_
                refine z_iload_n d_TK_apply_82 rfl rfl ?_
                refine z_callV3r (dY := d + 1) d_TK_apply_83 rfl (by omega) (Y_TK_117 HG) r58.1 (cl_Row HG) (Nat.le_of_ble_eq_true rfl) (c_Row_isPart HG r58 hl58 r56' hl56 (a := 1) (b := bs) hge1 hbe) ?_
                simp only []
                by_cases hp : za.2 = (zf.2.drop 1).take (bs - 1)
                · rw [if_pos hp, if_pos hp]
                  refine z_if_ne (tgt := 97) d_TK_apply_86 rfl (fun c2 => ?_) (fun c2 => absurd c2 (by decide))
                  have hA3 : jdAt G h3 (k_ju o (js.length + 1)) (some A) := H3.2.2.1.get (k := 0) (J := A) rfl
                  have hF3 : jdAt G h3 (k_ju o js.length) (some F) := H3.2.2.1.get (k := 1) (J := F) rfl
                  obtain ⟨fta, rta, hlta⟩ := rowL.get hA3.2.1
                  obtain ⟨ftf, rtf, hltf⟩ := rowL.get hF3.2.1
                  obtain ⟨n60, f60, r60, -⟩ := H3.2.2.2.2.2.1 60 (by unfold scR; omega)
                  refine z_aload_n d_TK_apply_97 rfl rfl ?_
                  refine z_getf (L_TK_53K HG) (by decide) (L_TK_53 HG) d_TK_apply_98 ho3 (by rfl) ?_
                  refine z_iconst (v := nI 2) d_TK_apply_101 (by decide) ?_
                  refine z_aload_n d_TK_apply_102 rfl rfl ?_
                  refine z_getf (L_TK_64K HG) (by decide) (L_TK_64 HG) d_TK_apply_103 hF3.ob (by rfl) ?_
                  refine z_aload_n d_TK_apply_106 rfl rfl ?_
                  refine z_getf (L_TK_64K HG) (by decide) (L_TK_64 HG) d_TK_apply_107 hA3.ob (by rfl) ?_
                  refine z_callV3e (dY := d + 2) d_TK_apply_110 rfl (by omega) (Y_TK_121 HG) r60.1 (cl_Row HG) (Nat.le_of_ble_eq_true rfl) (c2_join HG (v := 2) (kf3.rm hrm) r60 rtf hltf rta hlta (by unfold k_ne; omega) (by unfold k_ne; omega)) (fun hc4 h4 hh4 => ?_) (fun hc4 h4 hh4 => ?_)
                  · have H4 : KAt G h4 o (A :: F :: js, cs, ks, Rs) := by
                      subst hh4
                      exact H3.sc (by unfold scR; omega)
                    have r60' : rowAt G h4 (o + 60) (2 :: (F.2.1 ++ A.2.1)).length (k_app f60 0 (2 :: (F.2.1 ++ A.2.1))) := by
                      subst hh4
                      rw [show (2 :: (F.2.1 ++ A.2.1)).length = 1 + F.2.1.length + A.2.1.length by simp; omega]
                      exact rset_at ..
                    have kf4 : k_ft o h1 h4 := by
                      subst hh4
                      exact kf3.tr (k_ft.rset (by omega))
                    have r56'' : rowAt G h4 (o + 56) zf.2.length f56 := by
                      subst hh4
                      exact rset_row _ _ r56' (by omega) (by omega) (by omega)
                    clear hh4
                    have ho4 : h4.2.2 o = some (k_tk o (js.length + 1 + 1) cs.length ks.length) := H4.2.1
                    obtain ⟨n62, f62, r62, -⟩ := H4.2.2.2.2.2.1 62 (by unfold scR; omega)
                    refine z_aload_n d_TK_apply_113 rfl rfl ?_
                    refine z_getf (L_TK_56K HG) (by decide) (L_TK_56 HG) d_TK_apply_114 ho4 (by rfl) ?_
                    refine z_callV0v (dY := d) d_TK_apply_117 rfl (by omega) (Y_TK_88 HG) r62.1 (cl_Row HG) (Nat.le_of_ble_eq_true rfl) (c_Row_clear HG r62) ?_
                    have H5 : KAt G (rset G h4 (o + 62) 0 f62) o (A :: F :: js, cs, ks, Rs) := H4.sc (by unfold scR; omega)
                    have r62' := rset_at G h4 (o + 62) 0 f62
                    have r60'' := rset_row (r := o + 62) 0 f62 r60' (by omega) (by omega) (by omega)
                    have r56c := rset_row (r := o + 62) 0 f62 r56'' (by omega) (by omega) (by omega)
                    have kf5 : k_ft o h1 (rset G h4 (o + 62) 0 f62) := kf4.tr (k_ft.rset (by omega))
                    generalize rset G h4 (o + 62) 0 f62 = h5 at H5 r62' r60'' r56c kf5 ⊢
                    have ho5 : h5.2.2 o = some (k_tk o (js.length + 1 + 1) cs.length ks.length) := H5.2.1
                    have hA5 : jdAt G h5 (k_ju o (js.length + 1)) (some A) := H5.2.2.1.get (k := 0) (J := A) rfl
                    obtain ⟨fta5, rta5, hlta5⟩ := rowL.get hA5.2.1
                    obtain ⟨x05, HR5⟩ := H5.2.2.2.2.2.2.1
                    obtain ⟨a5, b5, nb5, fx5, fb5, g5, fr5, hab5, hq5, -, -, -, hsc5, -⟩ := HR5
                    refine z_aload_n d_TK_apply_120 rfl rfl ?_
                    refine z_getf (L_TK_41K HG) (by decide) (L_TK_41 HG) d_TK_apply_121 ho5 (by rfl) ?_
                    refine z_aload_n d_TK_apply_124 rfl rfl ?_
                    refine z_getf (L_TK_64K HG) (by decide) (L_TK_64 HG) d_TK_apply_125 hA5.ob (by rfl) ?_
                    refine z_iconst (v := nI 0) d_TK_apply_128 (by decide) ?_
                    refine z_aload_n d_TK_apply_129 rfl rfl ?_
                    refine z_getf (L_TK_46K HG) (by decide) (L_TK_46 HG) d_TK_apply_130 ho5 (by rfl) ?_
                    refine z_iload_n d_TK_apply_133 rfl rfl ?_
                    refine z_aload_n d_TK_apply_134 rfl rfl ?_
                    refine z_getf (L_TK_56K HG) (by decide) (L_TK_56 HG) d_TK_apply_135 ho5 (by rfl) ?_
                    refine z_callV5e (dY := d + 2) d_TK_apply_138 rfl (by omega) (Y_TK_125 HG) hq5 (cl_Rw HG) (Nat.le_of_ble_eq_true rfl) (c2_put HG (kf5.rm hrm) hlta5 hl56 (a := 0) (b := bs) (show k_rr (o + 5) (o + 62) by unfold k_rr; omega) (show k_rr (o + 5) (k_ju o (js.length + 1) + 1) by unfold k_rr; omega) (show k_rr (o + 5) (o + 56) by unfold k_rr; omega) (by unfold k_ne; omega) (by unfold k_ne; omega) (by omega) hbe hq5 hsc5 rta5 r56c r62' (by omega)) (fun hc6 h6 hh6 => ?_) (fun hc6 h6 hh6 => ?_)
                    · rw [List.drop_zero, Nat.zero_add] at hc6 hh6
                      obtain ⟨kfr6, hsc6, r62c⟩ := hh6
                      rw [if_pos ⟨hc4, hc6⟩]
                      have H6 := H5.kfr (by unfold scR; omega) kfr6 hsc6 ⟨_, _, r62c⟩
                      have kf6 := kf5.tr (k_fr.ft (by unfold scR; omega) kfr6)
                      have r60c : rowAt G h6 (o + 60) (2 :: (F.2.1 ++ A.2.1)).length (k_app f60 0 (2 :: (F.2.1 ++ A.2.1))) := kfr6.row (by unfold k_rr; omega) (by unfold k_ne; omega) r60''
                      have hl60 := rl_join (f := f60) (v := 2) (by omega) hltf hlta hc4
                      have hl62 : rl (k_app f62 0 (p_put A.2.1 [0] (zf.2.drop bs))) (p_put A.2.1 [0] (zf.2.drop bs)) := p_wf_rl wB l2' hc6
                      generalize p_put A.2.1 [0] (zf.2.drop bs) = y at *
                      generalize 2 :: (F.2.1 ++ A.2.1) = t at *
                      have ho6 : h6.2.2 o = some (k_tk o (js.length + 1 + 1) cs.length ks.length) := H6.2.1
                      have hF6 : jdAt G h6 (k_ju o js.length) (some F) := H6.2.2.1.get (k := 1) (J := F) rfl
                      have hgen := fun (h' : z_H) (J' : pJ) => KAt.gen (h' := h') (J := J') H6 H6.2.2.1.pop.pop (by omega) H6.2.2.2.1
                      generalize k_ju o js.length = u at *
                      obtain ⟨ft6, rt6, -⟩ := rowL.get hF6.2.1
                      obtain ⟨fy6, ry6, -⟩ := rowL.get hF6.2.2
                      refine z_aload_n d_TK_apply_141 rfl rfl ?_
                      refine z_getf (L_TK_64K HG) (by decide) (L_TK_64 HG) d_TK_apply_142 hF6.ob (by rfl) ?_
                      refine z_aload_n d_TK_apply_145 rfl rfl ?_
                      refine z_getf (L_TK_53K HG) (by decide) (L_TK_53 HG) d_TK_apply_146 ho6 (by rfl) ?_
                      refine z_callV1v (dY := d) d_TK_apply_149 rfl (by omega) (Y_TK_81 HG) rt6.1 (cl_Row HG) (Nat.le_of_ble_eq_true rfl) (c_Row_copy HG rt6 r60c hl60 (by omega) (by omega) (by omega)) ?_
                      have r1c := rset_at G h6 (u + 1) t.length (k_app ft6 0 t)
                      have kC : ∀ y, y < u + 1 ∨ u + 2 < y → (rset G h6 (u + 1) t.length (k_app ft6 0 t)).2.2 y = h6.2.2 y := fun y hy => rset_out (by omega)
                      have kf7 : k_ft o h1 (rset G h6 (u + 1) t.length (k_app ft6 0 t)) := kf6.tr (k_ft.rset (by omega))
                      generalize rset G h6 (u + 1) t.length (k_app ft6 0 t) = h7 at r1c kC kf7 ⊢
                      have ry7 : rowAt G h7 (u + 3) F.2.2.length fy6 := ⟨(kC _ (by omega)).trans ry6.1, (kC _ (by omega)).trans ry6.2⟩
                      have r62d : rowAt G h7 (o + 62) y.length (k_app f62 0 y) := ⟨(kC _ (by omega)).trans r62c.1, (kC _ (by omega)).trans r62c.2⟩
                      refine z_aload_n d_TK_apply_152 rfl rfl ?_
                      refine z_getf (L_TK_71K HG) (by decide) (L_TK_71 HG) d_TK_apply_153 ((kC u (by omega)).trans hF6.ob) (by rfl) ?_
                      refine z_aload_n d_TK_apply_156 rfl rfl ?_
                      refine z_getf (L_TK_56K HG) (by decide) (L_TK_56 HG) d_TK_apply_157 ((kC o (by omega)).trans ho6) (by rfl) ?_
                      refine z_callV1v (dY := d) d_TK_apply_160 rfl (by omega) (Y_TK_81 HG) ry7.1 (cl_Row HG) (Nat.le_of_ble_eq_true rfl) (c_Row_copy HG ry7 r62d hl62 (by omega) (by omega) (by omega)) ?_
                      have r2c := rset_at G h7 (u + 3) y.length (k_app fy6 0 y)
                      have r1d := rset_row (r := u + 3) y.length (k_app fy6 0 y) r1c (by omega) (by omega) (by omega)
                      have kD : ∀ z, z < u + 1 ∨ u + 4 < z → (rset G h7 (u + 3) y.length (k_app fy6 0 y)).2.2 z = h6.2.2 z := fun z hz => (rset_out (by omega)).trans (kC z (by omega))
                      have kf8 : k_ft o h1 (rset G h7 (u + 3) y.length (k_app fy6 0 y)) := kf7.tr (k_ft.rset (by omega))
                      generalize rset G h7 (u + 3) y.length (k_app fy6 0 y) = h8 at r2c r1d kD kf8 ⊢
                      have ho8 := (kD o (by omega)).trans ho6
                      refine z_aload_n d_TK_apply_163 rfl rfl ?_
                      refine z_dup d_TK_apply_164 rfl ?_
                      refine z_getf (L_TK_15K HG) (by decide) (L_TK_15 HG) d_TK_apply_165 ho8 (by rfl) ?_
                      refine z_iconst (v := nI 1) d_TK_apply_168 (by decide) ?_
                      refine z_isub d_TK_apply_169 ?_
                      rw [pk_sub (by omega)]
                      refine z_putf (L_TK_15K HG) (by decide) (L_TK_15 HG) rfl d_TK_apply_170 ho8 rfl rfl (Nat.le_of_ble_eq_true rfl) ?_
                      refine z_return d_TK_apply_173 rfl ⟨rfl, hgen _ _ (fun z z1 z2 => (z_set_ne _ _ z1).trans (kD z (by omega))) (z_set_at ..) ⟨⟨cs.length, (z_set_ne _ _ (by omega)).trans ((kD u (by omega)).trans ?_), fun J e => by cases e; rfl⟩, rowL.mk (z_set_row _ r1d (by omega) (by omega)) (rl_copy hl60), rowL.mk (z_set_row _ r2c (by omega) (by omega)) (rl_copy hl62)⟩, kf8.tr (k_ft.set _ (by omega))⟩
                      rw [← hcF]
                      exact hF6.ob
                    · rw [List.drop_zero, Nat.zero_add] at hc6
                      rw [if_neg (fun hh => hc6 hh.2)]
                      obtain ⟨h7, e7, kfr7, hsc7, f7, r7⟩ := hh6
                      exact ⟨rfl, h7, e7, H5.kfr (by unfold scR; omega) kfr7 hsc7 ⟨_, _, r7⟩, kf5.tr (k_fr.ft (by unfold scR; omega) kfr7)⟩
                  · rw [if_neg (fun hh => hc4 hh.1)]
                    obtain ⟨f', hh4⟩ := hh4
                    exact ⟨rfl, _, hh4, H3.sc (by unfold scR; omega), kf3.tr (k_ft.rset (by omega))⟩
                · rw [if_neg hp, if_neg hp]
                  refine z_if_ne (tgt := 97) d_TK_apply_86 rfl (fun c2 => absurd nI_0 c2) (fun c2 => ?_)
                  exact z_throw d_TK_apply_89 d_TK_apply_92 d_TK_apply_93 d_TK_apply_96 rfl (by decide +kernel) (t_TK_111 HG) (kf3.rm hrm).1 (kf3.rm hrm).2 (by decide) ⟨rfl, h3, rfl, H3, kf3⟩
            · rw [nI_eq (by omega) (by omega)] at c1
              rw [if_neg c1]
              exact z_throw d_TK_apply_40 d_TK_apply_43 d_TK_apply_44 d_TK_apply_47 rfl (by decide +kernel) (t_TK_111 HG) (kf2.rm hrm).1 (kf2.rm hrm).2 (by decide) ⟨rfl, h2, rfl, H2, kf2⟩
    · have eK : k_apply K = .inl z_ISE := by
        obtain ⟨js, K2⟩ := K
        cases js with
        | nil => rfl
        | cons A js =>
          cases js with
          | nil => rfl
          | cons F js =>
            show (if A.1 = _ ∧ F.1 = _ then _ else _) = _
            rw [if_neg (fun hh => hc1 ⟨F, rfl, hh.2⟩)]
      rw [eK]
      exact ⟨rfl, h', hh1, H, k_ft.rf⟩
  · have eK : k_apply K = .inl z_ISE := by
      obtain ⟨js, K2⟩ := K
      cases js with
      | nil => rfl
      | cons A js =>
        cases js with
        | nil => rfl
        | cons F js =>
          show (if A.1 = _ ∧ F.1 = _ then _ else _) = _
          rw [if_neg (fun hh => hc ⟨A, rfl, hh.1⟩)]
    rw [eK]
    exact ⟨rfl, h, hh, H, k_ft.rf⟩
end KA
end
