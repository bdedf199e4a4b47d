section
/-! A walk's picture: the heap's size, the slots made so far, the known cells. A method's row: name, code, locals, answer, handlers. An outcome: an answer, or an exception's class. -/
abbrev z_H : Type := Nat × Nat × (Nat → Option va_E)
abbrev z_M : Type := MethodName × ByteArray × Nat × Option FieldType × List (Nat × Nat × Nat × Nat)
abbrev z_R : Type := Option Value ⊕ String
abbrev z_G : Type := Launch × Nat × va_G × List (ClassId × FieldType) × List Cond × List vw_C × Nat × Nat × (Nat × Nat × (Nat → Int32))
abbrev z_G.l (G : z_G) : Launch := G.1
abbrev z_G.b0 (G : z_G) : Nat := G.2.1
abbrev z_G.D (G : z_G) : va_G := G.2.2.1
abbrev z_G.tys (G : z_G) : List (ClassId × FieldType) := G.2.2.2.1
abbrev z_G.Ts (G : z_G) : List Cond := G.2.2.2.2.1
abbrev z_G.cl (G : z_G) : List vw_C := G.2.2.2.2.2.1
abbrev z_G.cc (G : z_G) : Nat := G.2.2.2.2.2.2.1
abbrev z_G.ss (G : z_G) : Nat := G.2.2.2.2.2.2.2.1
abbrev z_G.x (G : z_G) : Nat × Nat × (Nat → Int32) := G.2.2.2.2.2.2.2.2
/-- the words that hold on in every state with warmer tables -/
def z_mv : Cond → Bool
  | .fieldLinkNest .. => true
  | .methodLinkNest .. => true
  | .castable .. => true
  | .not (.castable ..) => true
  | .declares .. => true
  | .arrayOver (.object _) => true
  | w => goodWord w
theorem z_notCast {C T : String} {a a' : Array Value} {s U : State} (hW : s.WarmedH U.vm) (hb : (Cond.not (.castable C T)).before a s = true) : (Cond.not (.castable C T)).before a' U = true := by
  obtain ⟨c, t, h1, h2, h3⟩ := va_Nc.moved hW.alike (va_Nc.of hb)
  simp [Cond.before, Cond.holds, Cond.value, h1, h2, h3]
theorem z_move {w : Cond} (h : z_mv w = true) {a a' : Array Value} {s U : State} (hW : s.WarmedH U.vm) (hb : w.before a s = true) : w.before a' U = true := by
  unfold z_mv at h
  split at h
  · exact va_Nw.use rfl (va_Nw.warmF hW (va_Nw.of rfl hb))
  · exact va_Nw.use rfl (va_Nw.warmM hW (va_Nw.of rfl hb))
  · exact va_Nw.use rfl (va_Nw.warmC hW (va_Nw.of rfl hb))
  · exact z_notCast hW hb
  · exact va_Nw.use rfl (va_Nw.warmD hW (va_Nw.of rfl hb))
  · exact va_AO.use (va_AO.moved hW.alike (va_AO.of hb))
  · exact word_at hW (good_of_word h) hb
/-- a static of references lies below b, and stays there -/
def z_Zs (C n d : String) (b : Nat) (U : State) (H : Heap) : Prop := ∃ (c : ClassId) (k : Class) (i : Nat) (f : Field) (a : Nat) (cell : Cell) (v : Value), U.vm.findClass C = some c ∧ U.fieldFound? C n d = some (c, k, i, f) ∧ f.isStatic = true ∧ k.statics = some a ∧ H[a]? = some cell ∧ cell.vm.isStatics = true ∧ cell.cls = c ∧
  f.slot < cell.slots.size ∧ k.staticTypes[f.slot]? = some f.type ∧ cell.slots[f.slot]? = some v ∧ v.isRef = true ∧ a < b
theorem z_Zs.moved {C n d : String} {b : Nat} {u U : State} {H : Heap} (hvm : u.vm.Alike U.vm) (h : z_Zs C n d b u H) : z_Zs C n d b U H := by
  obtain ⟨c, k, i, f, a, cell, v, h0, h1, h2, h3, h4, h5, h6, h7, h8, h9⟩ := h
  obtain ⟨k', hi', he⟩ := State.fieldFound?_setVm (s := u) hvm h1
  exact ⟨c, k', i, f, a, cell, v, by rw [hvm.findClass]; exact h0, hi', h2, by rw [he]; exact h3, h4, h5, h6, h7, by rw [he]; exact h8, h9⟩
theorem z_Zs.kept {C n d : String} {b : Nat} {U : State} {H H1 : Heap} (h : z_Zs C n d b U H) (hq : ∀ a : Nat, a < b → H1[a]? = H[a]?) : z_Zs C n d b U H1 := by
  obtain ⟨c, k, i, f, a, cell, v, h0, h1, h2, h3, h4, h5, h6, h7, h8, h9, h10, h11⟩ := h
  exact ⟨c, k, i, f, a, cell, v, h0, h1, h2, h3, by rw [hq a h11]; exact h4, h5, h6, h7, h8, h9, h10, h11⟩
theorem z_Zs.lays {C n d : String} {b : Nat} {U : State} (h : z_Zs C n d b U U.heap) (a : Array Value) : (Cond.laysStatic C n d).before a U = true := by
  obtain ⟨c, k, i, f, q, cell, v, h0, h1, h2, h3, h4, h5, h6, h7, h8, -⟩ := h
  simp [Cond.before, Cond.holds, Cond.value, h0, h1, h2, h3, h4, h5, h6, h7, h8]
theorem z_Zs.isRef {C n d : String} {b : Nat} {U : State} (h : z_Zs C n d b U U.heap) (a : Array Value) : (Cond.isRef (.static C n d)).before a U = true := by
  obtain ⟨c, k, i, f, q, cell, v, h0, h1, h2, h3, h4, h5, h6, h7, h8, h9, h10, -⟩ := h
  cases v with
  | null => simp [Cond.before, Cond.holds, Cond.value, Term.eval, State.fieldNamed?, h1, h2, h3, h4, h5, h9]
  | ref t => simp [Cond.before, Cond.holds, Cond.value, Term.eval, State.fieldNamed?, h1, h2, h3, h4, h5, h9]
  | _ => cases h10
theorem z_Zs.of {args : Array Value} {s : State} {C n d : String} (hl : (Cond.laysStatic C n d).before args s = true) (h : (Cond.isRef (.static C n d)).before args s = true) : z_Zs C n d s.heap.size s s.heap := by
  obtain ⟨c, k, i, f, a, cell, h0, h1, h2, h3, h4, h5, h6, h7, h8⟩ := Cond.laysStatic_spec hl
  cases hv : (Term.static C n d).eval args s none [] s with
  | none => simp [Cond.before, Cond.holds, Cond.value, hv] at h
  | some w =>
    obtain ⟨hst', a', cell', ha', hcell', -, hslot⟩ := Term.static_spec h1 hv
    cases h3.symm.trans ha'
    cases h4.symm.trans hcell'
    refine ⟨c, k, i, f, a, cell, w, h0, h1, h2, h3, h4, h5, h6, h7, h8, hslot, ?_, (Array.getElem?_eq_some_iff.mp h4).1⟩
    simp only [Cond.before, Cond.holds, Cond.value, hv] at h
    cases w <;> first | rfl | (simp at h)
/-- what a method's own walk may lean on -/
def z_Cx (G : z_G) (mt : z_M) (p : Program) (s : State) (m : MethodId) (args : Array Value) (meth : Method) (c : Code) : Prop :=
  (p.tables.exec = Jvm.exec ∧ c.code = mt.2.1 ∧ c.maxLocals = mt.2.2.1 ∧ meth.sig.returnType = mt.2.2.2.1) ∧
  (s.vm.findClass mt.1.cls = some m.cls ∧ meth.locks = false ∧ meth.name = mt.1.name ∧ c.exceptionTable.toList.map (fun h => (h.startPc, h.endPc, h.handlerPc, h.catchType)) = mt.2.2.2.2) ∧
  (va_K G.D G.cl G.tys s ∧ (∀ w ∈ G.Ts, w.before args s = true) ∧ (∀ w ∈ G.Ts, z_mv w = true) ∧ ∀ e : Env, G.l.admits e → e.platform.stackTraces = false)
/-- the heap is as the picture has it; the two statics of Throwable, and the script, lie below -/
def z_Rel (G : z_G) (h : z_H) (s : State) (H : Heap) : Prop :=
  H.size = h.1 ∧ (∃ ws : va_W, va_P G.D G.cl ws H ∧ va_D (fun q => G.b0 ≤ q) ws ∧ ∀ (a : Nat) (e : va_E), h.2.2 a = some e → ∃ k : Nat, ws[k]? = some (a, e)) ∧
  z_Zs "java/lang/Throwable" "UNASSIGNED_STACK" "[Ljava/lang/StackTraceElement;" G.b0 s H ∧ z_Zs "java/lang/Throwable" "SUPPRESSED_SENTINEL" "Ljava/util/List;" G.b0 s H ∧ va_X G.x.1 G.x.2.1 G.x.2.2 s H ∧ G.x.1 < G.b0
/-- since the method began, nothing below has changed -/
def z_Sx (G : z_G) (s : State) (H : Heap) (locs : List Loc) : Prop := va_S (fun q => G.b0 ≤ q) s.heap H locs ∧ G.b0 ≤ s.heap.size
def z_Out (r : z_R) (o : Outcome) (s : State) (H : Heap) : Prop := match r with
  | .inl v => o = .returned v
  | .inr X => ∃ (a : Nat) (ce : Cell), o = .threw a ∧ H[a]? = some ce ∧ ce.vm = .none ∧ s.vm.findClass X = some ce.cls
def z_End (G : z_G) (s : State) (below : List Frame) (ss0 : Nat) (Q : z_R → z_H → Prop) : State → Prop := fun t =>
  ∃ (o : Outcome) (r : z_R) (h' : z_H), Q r h' ∧ t.status = .running ∧ Ended t below o ∧ s.WarmedH t.vm ∧
    (∃ L : List Loc, s.sameButNew ({ t with vm := s.vm } : State) L (h'.1 - s.heap.size) (h'.2.1 - ss0) ∧ ∀ x ∈ L, G.b0 ≤ x.base) ∧
    z_Rel G h' s t.heap ∧ (∀ q : Nat, q < G.b0 → t.heap[q]? = s.heap[q]?) ∧ (s.heap.size ≤ h'.1 ∧ ss0 ≤ h'.2.1 ∧ h'.1 ≤ G.b0 + G.cc ∧ h'.2.1 ≤ G.ss) ∧ z_Out r o s t.heap
def z_St (G : z_G) (mt : z_M) (d : Nat) (p : Program) (s : State) (m : MethodId) (args : Array Value) (meth : Method) (c : Code) (R : Room) (ss0 : Nat) (H : Heap) (locs : List Loc) (h : z_H) : Prop :=
  z_Cx G mt p s m args meth c ∧ (d + 6 ≤ R.frames ∧ 35 * d + 150 ≤ R.locals ∧ G.b0 + G.cc ≤ s.heap.size + R.cells ∧ G.ss ≤ ss0 + R.slots) ∧
  (z_Rel G h s H ∧ z_Sx G s H locs ∧ s.heap.size ≤ h.1 ∧ ss0 ≤ h.2.1 ∧ h.1 ≤ G.b0 + G.cc ∧ h.2.1 ≤ G.ss)
/-- from this place of this method, with this picture, the walk comes to an end that Q allows -/
def z_V (G : z_G) (mt : z_M) (d pc : Nat) (lo : List (Nat × Value)) (st : List Value) (h : z_H) (Q : z_R → z_H → Prop) : Prop :=
  ∀ (p : Program) (e : Env) (s : State) (m : MethodId) (args : Array Value) (below : List Frame) (meth : Method) (c : Code) (R : Room) (ss0 : Nat) (H : Heap) (locs : List Loc) (ls : Array Slot),
    z_St G mt d p s m args meth c R ss0 H locs h → lv_has ls mt.2.2.1 lo →
    W p G.l e R s m args below meth c H locs (h.1 - s.heap.size) (h.2.1 - ss0) (z_End G s below ss0 Q) (F0 m pc ls st)
/-- a method's contract at these arguments and this picture -/
def z_C (G : z_G) (mt : z_M) (d : Nat) (as : List Value) (h : z_H) (Q : z_R → z_H → Prop) : Prop :=
  ∀ (p : Program) (e : Env) (s : State) (m : MethodId) (below : List Frame) (meth : Method) (c : Code) (R : Room),
    z_St G mt d p s m as.toArray meth c R h.2.1 s.heap [] h →
    W p G.l e R s m as.toArray below meth c s.heap [] 0 0 (z_End G s below h.2.1 Q) (entryFrame m as.toArray mt.2.2.1)
theorem z_C.of {G : z_G} {mt : z_M} {d : Nat} {as : List Value} {h : z_H} {Q : z_R → z_H → Prop} (hl : (lg_sl as).length ≤ mt.2.2.1) (k : z_V G mt d 0 (lv_args 0 as) [] h Q) : z_C G mt d as h Q := by
  intro p e s m below meth c R S
  have hz : s.heap.size = h.1 := S.2.2.1.1
  have h1 := k p e s m as.toArray below meth c R h.2.1 s.heap [] _ S (lv_entry as hl)
  rw [hz, Nat.sub_self, Nat.sub_self] at h1
  rw [lg_entry_eq]
  exact h1
theorem z_C.mono {G : z_G} {mt : z_M} {d : Nat} {as : List Value} {h : z_H} {Q Q' : z_R → z_H → Prop} (k : z_C G mt d as h Q) (hq : ∀ r h', Q r h' → Q' r h') : z_C G mt d as h Q' := by
  intro p e s m below meth c R S T hT X
  obtain ⟨t, a, o, r, h', b1, b2⟩ := k p e s m below meth c R S T hT X
  exact ⟨t, a, o, r, h', hq r h' b1, b2⟩
theorem z_C.deep {G : z_G} {mt : z_M} {d d' : Nat} {as : List Value} {h : z_H} {Q : z_R → z_H → Prop} (k : z_C G mt d as h Q) (hd : d ≤ d') : z_C G mt d' as h Q := by
  intro p e s m below meth c R S
  obtain ⟨S1, ⟨S2, S3, S4⟩, S5⟩ := S
  exact k p e s m below meth c R ⟨S1, ⟨by omega, by omega, S4⟩, S5⟩
/-! locals -/
def z_get : List (Nat × Value) → Nat → Option Value
  | [], _ => none
  | (j, w) :: t, i => if j = i then some w else z_get t i
theorem z_get_mem : ∀ {lo : List (Nat × Value)} {i : Nat} {v : Value}, z_get lo i = some v → (i, v) ∈ lo
  | [], i, v, h => by cases h
  | (j, w) :: t, i, v, h => by
    unfold z_get at h
    split at h
    · rename_i hj
      cases h
      rw [hj]
      exact List.mem_cons_self
    · exact List.mem_cons_of_mem _ (z_get_mem h)
def z_in : List (Nat × Value) → List (Nat × Value) → Prop
  | [], _ => True
  | q :: t, lo => z_get lo q.1 = some q.2 ∧ z_in t lo
theorem z_in_all : ∀ {lo' lo : List (Nat × Value)}, z_in lo' lo → ∀ q ∈ lo', q ∈ lo
  | [], _, _, q, hq => by cases hq
  | x :: t, lo, h, q, hq => by
    rcases List.mem_cons.mp hq with rfl | hq
    · exact z_get_mem h.1
    · exact z_in_all h.2 q hq
abbrev z_sto (lo : List (Nat × Value)) (i : Nat) (v : Value) : List (Nat × Value) := (i, v) :: lo.filter (fun q => !(q.1 == i) && !(q.1 + 1 == i && q.2.category == 2))
section ZR
variable {G : z_G} {mt : z_M} {d pc : Nat} {lo : List (Nat × Value)} {st : List Value} {h : z_H} {Q : z_R → z_H → Prop}
theorem z_fg (lo' : List (Nat × Value)) (hs : z_in lo' lo) (k : z_V G mt d pc lo' st h Q) : z_V G mt d pc lo st h Q :=
  fun p e s m args below meth c R ss0 H locs ls S hl => k p e s m args below meth c R ss0 H locs ls S ⟨hl.1, hl.2.1, fun q hq => hl.2.2 q (z_in_all hs q hq)⟩
theorem z_V.mono {Q' : z_R → z_H → Prop} (k : z_V G mt d pc lo st h Q) (hq : ∀ r h', Q r h' → Q' r h') : z_V G mt d pc lo st h Q' := by
  intro p e s m args below meth c R ss0 H locs ls S hl T hT X
  obtain ⟨t, a, o, r, h', b1, b2⟩ := k p e s m args below meth c R ss0 H locs ls S hl T hT X
  exact ⟨t, a, o, r, h', hq r h' b1, b2⟩
theorem z_iconst {n : Int} {v : Int32} (hd : decode mt.2.1 pc = .ok (.iconst n, 1)) (hv : Int32.ofInt n = v) (k : z_V G mt d (pc + 1) lo (.int v :: st) h Q) : z_V G mt d pc lo st h Q :=
  fun p e s m args below meth c R ss0 H locs ls S hl => lv_iconst S.1.1.1 S.1.1.2.1 hd hv (k p e s m args below meth c R ss0 H locs ls S hl)
theorem z_bipush {n : Int} {v : Int32} (hd : decode mt.2.1 pc = .ok (.bipush n, 2)) (hv : (Int8.ofInt n).toInt32 = v) (k : z_V G mt d (pc + 2) lo (.int v :: st) h Q) : z_V G mt d pc lo st h Q :=
  fun p e s m args below meth c R ss0 H locs ls S hl => lv_bipush S.1.1.1 S.1.1.2.1 hd hv (k p e s m args below meth c R ss0 H locs ls S hl)
theorem z_sipush {n : Int} {v : Int32} (hd : decode mt.2.1 pc = .ok (.sipush n, 3)) (hv : (Int16.ofInt n).toInt32 = v) (k : z_V G mt d (pc + 3) lo (.int v :: st) h Q) : z_V G mt d pc lo st h Q :=
  fun p e s m args below meth c R ss0 H locs ls S hl => lv_sipush S.1.1.1 S.1.1.2.1 hd hv (k p e s m args below meth c R ss0 H locs ls S hl)
theorem z_lconst {n : Fin 2} {v : Int64} (hd : decode mt.2.1 pc = .ok (.lconst n, 1)) (hv : Int64.ofNat (n : Nat) = v) (k : z_V G mt d (pc + 1) lo (.long v :: st) h Q) : z_V G mt d pc lo st h Q :=
  fun p e s m args below meth c R ss0 H locs ls S hl => lv_lconst S.1.1.1 S.1.1.2.1 hd hv (k p e s m args below meth c R ss0 H locs ls S hl)
theorem z_iload_n {j : Fin 4} {i : Nat} {x : Int32} (hd : decode mt.2.1 pc = .ok (.iload_n j, 1)) (hi : (j : Nat) = i) (hv : z_get lo i = some (.int x)) (k : z_V G mt d (pc + 1) lo (.int x :: st) h Q) : z_V G mt d pc lo st h Q :=
  fun p e s m args below meth c R ss0 H locs ls S hl => lv_iload_n S.1.1.1 S.1.1.2.1 hd hi (hl.2.2 _ (z_get_mem hv)) (k p e s m args below meth c R ss0 H locs ls S hl)
theorem z_iload {i : Nat} {x : Int32} (hd : decode mt.2.1 pc = .ok (.iload i, 2)) (hv : z_get lo i = some (.int x)) (k : z_V G mt d (pc + 2) lo (.int x :: st) h Q) : z_V G mt d pc lo st h Q :=
  fun p e s m args below meth c R ss0 H locs ls S hl => lv_iload S.1.1.1 S.1.1.2.1 hd (hl.2.2 _ (z_get_mem hv)) (k p e s m args below meth c R ss0 H locs ls S hl)
theorem z_aload_n {j : Fin 4} {i : Nat} {x : Nat} (hd : decode mt.2.1 pc = .ok (.aload_n j, 1)) (hi : (j : Nat) = i) (hv : z_get lo i = some (.ref x)) (k : z_V G mt d (pc + 1) lo (.ref x :: st) h Q) : z_V G mt d pc lo st h Q :=
  fun p e s m args below meth c R ss0 H locs ls S hl => lv_aload_n S.1.1.1 S.1.1.2.1 hd hi (hl.2.2 _ (z_get_mem hv)) (k p e s m args below meth c R ss0 H locs ls S hl)
theorem z_aload {i : Nat} {x : Nat} (hd : decode mt.2.1 pc = .ok (.aload i, 2)) (hv : z_get lo i = some (.ref x)) (k : z_V G mt d (pc + 2) lo (.ref x :: st) h Q) : z_V G mt d pc lo st h Q :=
  fun p e s m args below meth c R ss0 H locs ls S hl => lv_aload S.1.1.1 S.1.1.2.1 hd (hl.2.2 _ (z_get_mem hv)) (k p e s m args below meth c R ss0 H locs ls S hl)
theorem z_istore_n {j : Fin 4} {i : Nat} {x : Int32} (hd : decode mt.2.1 pc = .ok (.istore_n j, 1)) (hi : (j : Nat) = i) (hn : i < mt.2.2.1) (k : z_V G mt d (pc + 1) (z_sto lo i (.int x)) st h Q) : z_V G mt d pc lo (.int x :: st) h Q :=
  fun p e s m args below meth c R ss0 H locs ls S hl => lv_istore_n S.1.1.1 S.1.1.2.1 hd hi hl hn rfl (fun ls' hl' => k p e s m args below meth c R ss0 H locs ls' S hl')
theorem z_istore {i : Nat} {x : Int32} (hd : decode mt.2.1 pc = .ok (.istore i, 2)) (hn : i < mt.2.2.1) (k : z_V G mt d (pc + 2) (z_sto lo i (.int x)) st h Q) : z_V G mt d pc lo (.int x :: st) h Q :=
  fun p e s m args below meth c R ss0 H locs ls S hl => lv_istore S.1.1.1 S.1.1.2.1 hd hl hn rfl (fun ls' hl' => k p e s m args below meth c R ss0 H locs ls' S hl')
theorem z_astore_n {j : Fin 4} {i : Nat} {x : Nat} (hd : decode mt.2.1 pc = .ok (.astore_n j, 1)) (hi : (j : Nat) = i) (hn : i < mt.2.2.1) (k : z_V G mt d (pc + 1) (z_sto lo i (.ref x)) st h Q) : z_V G mt d pc lo (.ref x :: st) h Q :=
  fun p e s m args below meth c R ss0 H locs ls S hl => lv_astore_n S.1.1.1 S.1.1.2.1 hd hi hl hn rfl (fun ls' hl' => k p e s m args below meth c R ss0 H locs ls' S hl')
theorem z_astore {i : Nat} {x : Nat} (hd : decode mt.2.1 pc = .ok (.astore i, 2)) (hn : i < mt.2.2.1) (k : z_V G mt d (pc + 2) (z_sto lo i (.ref x)) st h Q) : z_V G mt d pc lo (.ref x :: st) h Q :=
  fun p e s m args below meth c R ss0 H locs ls S hl => lv_astore S.1.1.1 S.1.1.2.1 hd hl hn rfl (fun ls' hl' => k p e s m args below meth c R ss0 H locs ls' S hl')
theorem z_iinc {i : Nat} {n : Int} {x v : Int32} (hd : decode mt.2.1 pc = .ok (.iinc i n, 3)) (hg : z_get lo i = some (.int x)) (hv : x + Int32.ofInt n = v) (hn : i < mt.2.2.1) (k : z_V G mt d (pc + 3) (z_sto lo i (.int v)) st h Q) : z_V G mt d pc lo st h Q := by
  obtain ⟨j, hj⟩ := List.getElem?_of_mem (z_get_mem hg)
  exact fun p e s m args below meth c R ss0 H locs ls S hl => lv_iinc S.1.1.1 S.1.1.2.1 hd hl hj hv hn rfl (fun ls' hl' => k p e s m args below meth c R ss0 H locs ls' S hl')
theorem z_iadd {x y : Int32} (hd : decode mt.2.1 pc = .ok (.iadd, 1)) (k : z_V G mt d (pc + 1) lo (.int (x + y) :: st) h Q) : z_V G mt d pc lo (.int y :: .int x :: st) h Q :=
  fun p e s m args below meth c R ss0 H locs ls S hl => lv_iadd S.1.1.1 S.1.1.2.1 hd (k p e s m args below meth c R ss0 H locs ls S hl)
theorem z_isub {x y : Int32} (hd : decode mt.2.1 pc = .ok (.isub, 1)) (k : z_V G mt d (pc + 1) lo (.int (x - y) :: st) h Q) : z_V G mt d pc lo (.int y :: .int x :: st) h Q :=
  fun p e s m args below meth c R ss0 H locs ls S hl => lv_isub S.1.1.1 S.1.1.2.1 hd (k p e s m args below meth c R ss0 H locs ls S hl)
theorem z_imul {x y : Int32} (hd : decode mt.2.1 pc = .ok (.imul, 1)) (k : z_V G mt d (pc + 1) lo (.int (x * y) :: st) h Q) : z_V G mt d pc lo (.int y :: .int x :: st) h Q :=
  fun p e s m args below meth c R ss0 H locs ls S hl => lv_imul S.1.1.1 S.1.1.2.1 hd (k p e s m args below meth c R ss0 H locs ls S hl)
theorem z_iand {x y : Int32} (hd : decode mt.2.1 pc = .ok (.iand, 1)) (k : z_V G mt d (pc + 1) lo (.int (x &&& y) :: st) h Q) : z_V G mt d pc lo (.int y :: .int x :: st) h Q :=
  fun p e s m args below meth c R ss0 H locs ls S hl => lv_iand S.1.1.1 S.1.1.2.1 hd (k p e s m args below meth c R ss0 H locs ls S hl)
theorem z_ior {x y : Int32} (hd : decode mt.2.1 pc = .ok (.ior, 1)) (k : z_V G mt d (pc + 1) lo (.int (x ||| y) :: st) h Q) : z_V G mt d pc lo (.int y :: .int x :: st) h Q :=
  fun p e s m args below meth c R ss0 H locs ls S hl => lv_ior S.1.1.1 S.1.1.2.1 hd (k p e s m args below meth c R ss0 H locs ls S hl)
theorem z_dup {x : Value} (hd : decode mt.2.1 pc = .ok (.dup, 1)) (hc : x.category = 1) (k : z_V G mt d (pc + 1) lo (x :: x :: st) h Q) : z_V G mt d pc lo (x :: st) h Q :=
  fun p e s m args below meth c R ss0 H locs ls S hl => lv_dup S.1.1.1 S.1.1.2.1 hd hc (k p e s m args below meth c R ss0 H locs ls S hl)
theorem z_pop {x : Value} (hd : decode mt.2.1 pc = .ok (.pop, 1)) (hc : x.category = 1) (k : z_V G mt d (pc + 1) lo st h Q) : z_V G mt d pc lo (x :: st) h Q :=
  fun p e s m args below meth c R ss0 H locs ls S hl => lv_pop S.1.1.1 S.1.1.2.1 hd hc (k p e s m args below meth c R ss0 H locs ls S hl)
theorem z_goto {off : Int} {tgt : Nat} (hd : decode mt.2.1 pc = .ok (.goto off, 3)) (ht : (pc : Int) + off = (tgt : Int)) (k : z_V G mt d tgt lo st h Q) : z_V G mt d pc lo st h Q :=
  fun p e s m args below meth c R ss0 H locs ls S hl => lv_goto S.1.1.1 S.1.1.2.1 hd ht (k p e s m args below meth c R ss0 H locs ls S hl)
theorem z_if_eq {x : Int32} {off : Int} {tgt : Nat} (hd : decode mt.2.1 pc = .ok (.ifCond .eq off, 3)) (ht : (pc : Int) + off = (tgt : Int)) (kt : x = 0 → z_V G mt d tgt lo st h Q) (kf : ¬ x = 0 → z_V G mt d (pc + 3) lo st h Q) : z_V G mt d pc lo (.int x :: st) h Q :=
  fun p e s m args below meth c R ss0 H locs ls S hl => lv_if_eq S.1.1.1 S.1.1.2.1 hd ht (fun z => kt z p e s m args below meth c R ss0 H locs ls S hl) (fun z => kf z p e s m args below meth c R ss0 H locs ls S hl)
theorem z_icmp_eq {x y : Int32} {off : Int} {tgt : Nat} (hd : decode mt.2.1 pc = .ok (.if_icmp .eq off, 3)) (ht : (pc : Int) + off = (tgt : Int)) (kt : x = y → z_V G mt d tgt lo st h Q) (kf : ¬ x = y → z_V G mt d (pc + 3) lo st h Q) : z_V G mt d pc lo (.int y :: .int x :: st) h Q :=
  fun p e s m args below meth c R ss0 H locs ls S hl => lv_icmp_eq S.1.1.1 S.1.1.2.1 hd ht (fun z => kt z p e s m args below meth c R ss0 H locs ls S hl) (fun z => kf z p e s m args below meth c R ss0 H locs ls S hl)
theorem z_if_ne {x : Int32} {off : Int} {tgt : Nat} (hd : decode mt.2.1 pc = .ok (.ifCond .ne off, 3)) (ht : (pc : Int) + off = (tgt : Int)) (kt : ¬ x = 0 → z_V G mt d tgt lo st h Q) (kf : x = 0 → z_V G mt d (pc + 3) lo st h Q) : z_V G mt d pc lo (.int x :: st) h Q :=
  fun p e s m args below meth c R ss0 H locs ls S hl => lv_if_ne S.1.1.1 S.1.1.2.1 hd ht (fun z => kt z p e s m args below meth c R ss0 H locs ls S hl) (fun z => kf z p e s m args below meth c R ss0 H locs ls S hl)
theorem z_icmp_ne {x y : Int32} {off : Int} {tgt : Nat} (hd : decode mt.2.1 pc = .ok (.if_icmp .ne off, 3)) (ht : (pc : Int) + off = (tgt : Int)) (kt : ¬ x = y → z_V G mt d tgt lo st h Q) (kf : x = y → z_V G mt d (pc + 3) lo st h Q) : z_V G mt d pc lo (.int y :: .int x :: st) h Q :=
  fun p e s m args below meth c R ss0 H locs ls S hl => lv_icmp_ne S.1.1.1 S.1.1.2.1 hd ht (fun z => kt z p e s m args below meth c R ss0 H locs ls S hl) (fun z => kf z p e s m args below meth c R ss0 H locs ls S hl)
theorem z_if_lt {x : Int32} {off : Int} {tgt : Nat} (hd : decode mt.2.1 pc = .ok (.ifCond .lt off, 3)) (ht : (pc : Int) + off = (tgt : Int)) (kt : x < 0 → z_V G mt d tgt lo st h Q) (kf : ¬ x < 0 → z_V G mt d (pc + 3) lo st h Q) : z_V G mt d pc lo (.int x :: st) h Q :=
  fun p e s m args below meth c R ss0 H locs ls S hl => lv_if_lt S.1.1.1 S.1.1.2.1 hd ht (fun z => kt z p e s m args below meth c R ss0 H locs ls S hl) (fun z => kf z p e s m args below meth c R ss0 H locs ls S hl)
theorem z_icmp_lt {x y : Int32} {off : Int} {tgt : Nat} (hd : decode mt.2.1 pc = .ok (.if_icmp .lt off, 3)) (ht : (pc : Int) + off = (tgt : Int)) (kt : x < y → z_V G mt d tgt lo st h Q) (kf : ¬ x < y → z_V G mt d (pc + 3) lo st h Q) : z_V G mt d pc lo (.int y :: .int x :: st) h Q :=
  fun p e s m args below meth c R ss0 H locs ls S hl => lv_icmp_lt S.1.1.1 S.1.1.2.1 hd ht (fun z => kt z p e s m args below meth c R ss0 H locs ls S hl) (fun z => kf z p e s m args below meth c R ss0 H locs ls S hl)
theorem z_if_ge {x : Int32} {off : Int} {tgt : Nat} (hd : decode mt.2.1 pc = .ok (.ifCond .ge off, 3)) (ht : (pc : Int) + off = (tgt : Int)) (kt : 0 ≤ x → z_V G mt d tgt lo st h Q) (kf : ¬ 0 ≤ x → z_V G mt d (pc + 3) lo st h Q) : z_V G mt d pc lo (.int x :: st) h Q :=
  fun p e s m args below meth c R ss0 H locs ls S hl => lv_if_ge S.1.1.1 S.1.1.2.1 hd ht (fun z => kt z p e s m args below meth c R ss0 H locs ls S hl) (fun z => kf z p e s m args below meth c R ss0 H locs ls S hl)
theorem z_icmp_ge {x y : Int32} {off : Int} {tgt : Nat} (hd : decode mt.2.1 pc = .ok (.if_icmp .ge off, 3)) (ht : (pc : Int) + off = (tgt : Int)) (kt : y ≤ x → z_V G mt d tgt lo st h Q) (kf : ¬ y ≤ x → z_V G mt d (pc + 3) lo st h Q) : z_V G mt d pc lo (.int y :: .int x :: st) h Q :=
  fun p e s m args below meth c R ss0 H locs ls S hl => lv_icmp_ge S.1.1.1 S.1.1.2.1 hd ht (fun z => kt z p e s m args below meth c R ss0 H locs ls S hl) (fun z => kf z p e s m args below meth c R ss0 H locs ls S hl)
theorem z_if_gt {x : Int32} {off : Int} {tgt : Nat} (hd : decode mt.2.1 pc = .ok (.ifCond .gt off, 3)) (ht : (pc : Int) + off = (tgt : Int)) (kt : 0 < x → z_V G mt d tgt lo st h Q) (kf : ¬ 0 < x → z_V G mt d (pc + 3) lo st h Q) : z_V G mt d pc lo (.int x :: st) h Q :=
  fun p e s m args below meth c R ss0 H locs ls S hl => lv_if_gt S.1.1.1 S.1.1.2.1 hd ht (fun z => kt z p e s m args below meth c R ss0 H locs ls S hl) (fun z => kf z p e s m args below meth c R ss0 H locs ls S hl)
theorem z_icmp_gt {x y : Int32} {off : Int} {tgt : Nat} (hd : decode mt.2.1 pc = .ok (.if_icmp .gt off, 3)) (ht : (pc : Int) + off = (tgt : Int)) (kt : y < x → z_V G mt d tgt lo st h Q) (kf : ¬ y < x → z_V G mt d (pc + 3) lo st h Q) : z_V G mt d pc lo (.int y :: .int x :: st) h Q :=
  fun p e s m args below meth c R ss0 H locs ls S hl => lv_icmp_gt S.1.1.1 S.1.1.2.1 hd ht (fun z => kt z p e s m args below meth c R ss0 H locs ls S hl) (fun z => kf z p e s m args below meth c R ss0 H locs ls S hl)
theorem z_if_le {x : Int32} {off : Int} {tgt : Nat} (hd : decode mt.2.1 pc = .ok (.ifCond .le off, 3)) (ht : (pc : Int) + off = (tgt : Int)) (kt : x ≤ 0 → z_V G mt d tgt lo st h Q) (kf : ¬ x ≤ 0 → z_V G mt d (pc + 3) lo st h Q) : z_V G mt d pc lo (.int x :: st) h Q :=
  fun p e s m args below meth c R ss0 H locs ls S hl => lv_if_le S.1.1.1 S.1.1.2.1 hd ht (fun z => kt z p e s m args below meth c R ss0 H locs ls S hl) (fun z => kf z p e s m args below meth c R ss0 H locs ls S hl)
theorem z_icmp_le {x y : Int32} {off : Int} {tgt : Nat} (hd : decode mt.2.1 pc = .ok (.if_icmp .le off, 3)) (ht : (pc : Int) + off = (tgt : Int)) (kt : x ≤ y → z_V G mt d tgt lo st h Q) (kf : ¬ x ≤ y → z_V G mt d (pc + 3) lo st h Q) : z_V G mt d pc lo (.int y :: .int x :: st) h Q :=
  fun p e s m args below meth c R ss0 H locs ls S hl => lv_icmp_le S.1.1.1 S.1.1.2.1 hd ht (fun z => kt z p e s m args below meth c R ss0 H locs ls S hl) (fun z => kf z p e s m args below meth c R ss0 H locs ls S hl)
theorem z_ishl {x y : Int32} (hd : decode mt.2.1 pc = .ok (.ishl, 1)) (k : z_V G mt d (pc + 1) lo (.int (x <<< (y &&& 31)) :: st) h Q) : z_V G mt d pc lo (.int y :: .int x :: st) h Q :=
  fun p e s m args below meth c R ss0 H locs ls S hl => lv_ishl S.1.1.1 S.1.1.2.1 hd (k p e s m args below meth c R ss0 H locs ls S hl)
theorem z_ishr {x y : Int32} (hd : decode mt.2.1 pc = .ok (.ishr, 1)) (k : z_V G mt d (pc + 1) lo (.int (x >>> (y &&& 31)) :: st) h Q) : z_V G mt d pc lo (.int y :: .int x :: st) h Q :=
  fun p e s m args below meth c R ss0 H locs ls S hl => lv_ishr S.1.1.1 S.1.1.2.1 hd (k p e s m args below meth c R ss0 H locs ls S hl)
theorem z_dup2 {x y : Value} (hd : decode mt.2.1 pc = .ok (.dup2, 1)) (h1 : x.category = 1) (h2 : y.category = 1) (k : z_V G mt d (pc + 1) lo (x :: y :: x :: y :: st) h Q) : z_V G mt d pc lo (x :: y :: st) h Q :=
  fun p e s m args below meth c R ss0 H locs ls S hl => lv_dup2_11 S.1.1.1 S.1.1.2.1 hd h1 h2 (k p e s m args below meth c R ss0 H locs ls S hl)
theorem z_i2l {x : Int32} {v : Int64} (hd : decode mt.2.1 pc = .ok (.i2l, 1)) (hv : x.toInt64 = v) (k : z_V G mt d (pc + 1) lo (.long v :: st) h Q) : z_V G mt d pc lo (.int x :: st) h Q :=
  fun p e s m args below meth c R ss0 H locs ls S hl => lv_i2l S.1.1.1 S.1.1.2.1 hd hv (k p e s m args below meth c R ss0 H locs ls S hl)
theorem z_lcmp {x y : Int64} (hd : decode mt.2.1 pc = .ok (.lcmp, 1)) (k : z_V G mt d (pc + 1) lo (.int (lg_cmp x y) :: st) h Q) : z_V G mt d pc lo (.long y :: .long x :: st) h Q :=
  fun p e s m args below meth c R ss0 H locs ls S hl => W.lcmp S.1.1.1 S.1.1.2.1 hd (k p e s m args below meth c R ss0 H locs ls S hl)
theorem z_topi {x : Int32} (k : ∀ y : Int32, y = x → z_V G mt d pc lo (.int y :: st) h Q) : z_V G mt d pc lo (.int x :: st) h Q := k x rfl
theorem z_eqi {x y : Int32} (hxy : x = y) (k : z_V G mt d pc lo (.int y :: st) h Q) : z_V G mt d pc lo (.int x :: st) h Q := hxy ▸ k
theorem z_tableIn {dflt lw hi : Int} {offs : Array Int} {len : Nat} {x : Int32} {off : Int} {tgt : Nat} (hd : decode mt.2.1 pc = .ok (.tableswitch dflt lw hi offs, len)) (h1 : ¬ x.toInt < lw) (h2 : ¬ hi < x.toInt) (ho : offs[(x.toInt - lw).toNat]? = some off) (ht : (pc : Int) + off = (tgt : Int)) (k : z_V G mt d tgt lo st h Q) : z_V G mt d pc lo (.int x :: st) h Q :=
  fun p e s m args below meth c R ss0 H locs ls S hl => lv_tableIn S.1.1.1 S.1.1.2.1 hd h1 h2 ho ht (k p e s m args below meth c R ss0 H locs ls S hl)
theorem z_tableOut {dflt lw hi : Int} {offs : Array Int} {len : Nat} {x : Int32} {tgt : Nat} (hd : decode mt.2.1 pc = .ok (.tableswitch dflt lw hi offs, len)) (h1 : x.toInt < lw ∨ hi < x.toInt) (ht : (pc : Int) + dflt = (tgt : Int)) (k : z_V G mt d tgt lo st h Q) : z_V G mt d pc lo (.int x :: st) h Q :=
  fun p e s m args below meth c R ss0 H locs ls S hl => lv_tableOut S.1.1.1 S.1.1.2.1 hd h1 ht (k p e s m args below meth c R ss0 H locs ls S hl)
/-! the ends -/
theorem z_ends {p : Program} {s : State} {m : MethodId} {args : Array Value} {below : List Frame} {meth : Method} {c : Code} {R : Room} {ss0 : Nat} {H : Heap} {locs : List Loc} {T : State} {v : Option Value} {fs : List Frame}
    (S : z_St G mt d p s m args meth c R ss0 H locs h) (hT : T.heap = H) (hq : Q (.inl v) h) (hrun : (T.setFrames fs).status = .running) (hended : Ended (T.setFrames fs) below (.returned v)) (hW : s.WarmedH (T.setFrames fs).vm)
    (hframe : s.sameButNew ({ T.setFrames fs with vm := s.vm } : State) locs (h.1 - s.heap.size) (h.2.1 - ss0)) : z_End G s below ss0 Q (T.setFrames fs) := by
  obtain ⟨-, -, S1, S2, S3⟩ := S
  refine ⟨.returned v, .inl v, h, hq, hrun, hended, hW, ⟨locs, hframe, S2.1.2.2⟩, ?_, ?_, S3, rfl⟩
  · show z_Rel G h s T.heap
    rw [hT]
    exact S1
  · intro q hq
    show T.heap[q]? = s.heap[q]?
    rw [hT]
    exact S2.1.2.1 q (Nat.lt_of_lt_of_le hq S2.2) (Nat.not_le.mpr hq)
theorem z_ireturn {v : Int32} {ty : FieldType} (hd : decode mt.2.1 pc = .ok (.ireturn, 1)) (hr : mt.2.2.2.1 = some ty) (hn : narrow ty (.int v) = .int v) (hq : Q (.inl (some (.int v))) h) : z_V G mt d pc lo [.int v] h Q := by
  intro p e s m args below meth c R ss0 H locs ls S hl T hT X
  have hx : p.tables.exec = Jvm.exec := S.1.1.1
  have hb : c.code = mt.2.1 := S.1.1.2.1
  have hlocks : meth.locks = false := S.1.2.1.2.1
  have hr0 : meth.sig.returnType = some ty := S.1.1.2.2.2.trans hr
  obtain ⟨fs, hret, hrun, hended, hW, hframe⟩ := X.leave (v := some (.int v)) (fun h => by rw [hr0] at h; cases h)
  have hmeth' : T.vm.method? m = some meth := X.method'
  refine ⟨T.setFrames fs, ?_, z_ends S hT hq hrun hended hW hframe⟩
  jvm_step X.here [X.here.top, hx, hb, hd, hmeth', hr0, hn]
  (try refine ⟨rfl, ?_⟩); (try refine ⟨rfl, ?_⟩)
  first | (intro acts; rw [hret _ acts rfl rfl rfl]) | rw [hret _ _ rfl rfl rfl]
  exact Steps.refl _
theorem z_return (hd : decode mt.2.1 pc = .ok (.return_, 1)) (hr : mt.2.2.2.1 = none) (hq : Q (.inl none) h) : z_V G mt d pc lo [] h Q := by
  intro p e s m args below meth c R ss0 H locs ls S hl T hT X
  have hx : p.tables.exec = Jvm.exec := S.1.1.1
  have hb : c.code = mt.2.1 := S.1.1.2.1
  have hlocks : meth.locks = false := S.1.2.1.2.1
  have hr0 : meth.sig.returnType = none := S.1.1.2.2.2.trans hr
  obtain ⟨fs, hret, hrun, hended, hW, hframe⟩ := X.leave (v := none) (fun _ => rfl)
  have hmeth' : T.vm.method? m = some meth := X.method'
  refine ⟨T.setFrames fs, ?_, z_ends S hT hq hrun hended hW hframe⟩
  jvm_step X.here [X.here.top, hx, hb, hd, hmeth', hr0]
  (try refine ⟨rfl, ?_⟩); (try refine ⟨rfl, ?_⟩)
  first | (intro acts; rw [hret _ acts rfl rfl rfl]) | rw [hret _ _ rfl rfl rfl]
  exact Steps.refl _
theorem z_areturn {a : Nat} {n : String} (hd : decode mt.2.1 pc = .ok (.areturn, 1)) (hr : mt.2.2.2.1 = some (.object n)) (hq : Q (.inl (some (.ref a))) h) : z_V G mt d pc lo [.ref a] h Q := by
  intro p e s m args below meth c R ss0 H locs ls S hl T hT X
  have hx : p.tables.exec = Jvm.exec := S.1.1.1
  have hb : c.code = mt.2.1 := S.1.1.2.1
  have hlocks : meth.locks = false := S.1.2.1.2.1
  have hr0 : meth.sig.returnType = some (.object n) := S.1.1.2.2.2.trans hr
  obtain ⟨fs, hret, hrun, hended, hW, hframe⟩ := X.leave (v := some (.ref a)) (fun h => by rw [hr0] at h; cases h)
  have hmeth' : T.vm.method? m = some meth := X.method'
  refine ⟨T.setFrames fs, ?_, z_ends S hT hq hrun hended hW hframe⟩
  jvm_step X.here [X.here.top, hx, hb, hd, hmeth', hr0]
  (try refine ⟨rfl, ?_⟩); (try refine ⟨rfl, ?_⟩)
  first | (intro acts; rw [hret _ acts rfl rfl rfl]) | rw [hret _ _ rfl rfl rfl]
  exact Steps.refl _
end ZR
end
section
/-! the heap's rows -/
abbrev z_set (h : z_H) (a : Nat) (e : va_E) : z_H := (h.1, h.2.1, va_up h.2.2 a (some e))
abbrev z_new (h : z_H) (n : Nat) (e : va_E) : z_H := (h.1 + 1, h.2.1 + n, va_up h.2.2 h.1 (some e))
section ZA
variable {p : Program} {l : Launch} {e : Env} {R : Room} {s : State} {m : MethodId} {args : Array Value} {below : List Frame} {meth : Method} {c : Code} {H H1 : Heap} {locs locs1 : List Loc} {cells slots : Nat} {Q : State → Prop}
theorem z_sz {g : JFrame} (k : H.size ≤ s.heap.size + cells → W p l e R s m args below meth c H locs cells slots Q g) : W p l e R s m args below meth c H locs cells slots Q g :=
  fun T hT X => k (hT ▸ X.heapSize) T hT X
variable {G : z_G} {mt : z_M} {d ss0 : Nat} {h : z_H}
theorem z_rf (S : z_St G mt d p s m args meth c R ss0 H locs h) : va_S (fun q => G.b0 ≤ q) H H locs := ⟨Nat.le_refl _, fun _ _ _ => rfl, S.2.2.2.1.1.2.2⟩
theorem z_Sx.go (S : z_Sx G s H locs) (hS : va_S (fun q => G.b0 ≤ q) H H1 locs1) : z_Sx G s H1 locs1 :=
  ⟨⟨Nat.le_trans S.1.1 hS.1, fun q h1 h2 => (hS.2.1 q (Nat.lt_of_lt_of_le h1 S.1.1) h2).trans (S.1.2.1 q h1 h2), hS.2.2⟩, S.2⟩
theorem z_wr (S : z_St G mt d p s m args meth c R ss0 H locs h) {ws : va_W} (hD : va_D (fun q => G.b0 ≤ q) ws) (hcov : ∀ (a : Nat) (e : va_E), h.2.2 a = some e → ∃ k : Nat, ws[k]? = some (a, e)) {k a : Nat} {e0 e : va_E} (hk : ws[k]? = some (a, e0))
    (hP1 : va_P G.D G.cl (ws.set k (a, e)) H1) (hD1 : va_D (fun q => G.b0 ≤ q) (ws.set k (a, e))) (hS1 : va_S (fun q => G.b0 ≤ q) H H1 locs1) (hz : H1.size ≤ s.heap.size + (h.1 - s.heap.size)) : z_St G mt d p s m args meth c R ss0 H1 locs1 (z_set h a e) := by
  obtain ⟨S1, S2, ⟨Ra, -, Rz1, Rz2, Rx, Rb⟩, S4, S5⟩ := S
  have hz1 := hS1.1
  have hz2 := S5.1
  have hl := (List.getElem?_eq_some_iff.mp hk).1
  refine ⟨S1, S2, ⟨by show H1.size = h.1; omega, ⟨ws.set k (a, e), hP1, hD1, fun b x hb => ?_⟩, Rz1.kept (fun q hq => hS1.2.1 q (by have := S4.2; omega) (Nat.not_le.mpr hq)), Rz2.kept (fun q hq => hS1.2.1 q (by have := S4.2; omega) (Nat.not_le.mpr hq)), Rx.kept (hS1.2.1 _ (by have := S4.2; omega) (Nat.not_le.mpr Rb)), Rb⟩, S4.go hS1, S5⟩
  have hb : va_up h.2.2 a (some e) b = some x := hb
  by_cases hba : b = a
  · subst hba
    rw [va_up_self] at hb
    cases hb
    exact ⟨k, List.getElem?_set_self hl⟩
  · rw [va_up_ne _ _ hba] at hb
    obtain ⟨j, hj⟩ := hcov b x hb
    refine ⟨j, ?_⟩
    have hjk : k ≠ j := fun q => hba (by subst q; rw [hk] at hj; cases hj; rfl)
    rw [List.getElem?_set_ne hjk]
    exact hj
theorem z_nw (S : z_St G mt d p s m args meth c R ss0 H locs h) {n : Nat} {e : va_E} (hc : h.1 + 1 ≤ G.b0 + G.cc) (hn : h.2.1 + n ≤ G.ss) (he : va_at G.D G.cl (h.1, e) H1) (hz : H1.size = h.1 + 1) (ho : ∀ q, q < h.1 → H1[q]? = H[q]?) : z_St G mt d p s m args meth c R ss0 H1 locs (z_new h n e) := by
  obtain ⟨S1, S2, ⟨Ra, ⟨ws, hP, hD, hcov⟩, Rz1, Rz2, Rx, Rb⟩, S4, S5⟩ := S
  have hk : ∀ (k : Nat) (x : Nat × va_E), ws[k]? = some x → H1[x.1]? = H[x.1]? := fun k x hx => ho x.1 (by rw [← Ra]; exact (hP k x hx).lt)
  have hb0 : G.b0 ≤ h.1 := Nat.le_trans S4.2 S5.1
  have hS : va_S (fun q => G.b0 ≤ q) H H1 locs := ⟨by omega, fun q h1 _ => ho q (by omega), S4.1.2.2⟩
  refine ⟨S1, S2, ⟨hz, ⟨ws ++ [(h.1, e)], (hP.kept hk).app (fun k x hx => ?_), hD.push hP Ra.symm hb0, fun b x hb => ?_⟩, Rz1.kept (fun q hq => hS.2.1 q (by omega) (Nat.not_le.mpr hq)), Rz2.kept (fun q hq => hS.2.1 q (by omega) (Nat.not_le.mpr hq)), Rx.kept (hS.2.1 _ (by omega) (Nat.not_le.mpr Rb)), Rb⟩, S4.go hS, ?_⟩
  · have hz : k < 1 := (List.getElem?_eq_some_iff.mp hx).1
    rw [show k = 0 by omega] at hx
    cases hx
    exact he
  · have hb : va_up h.2.2 h.1 (some e) b = some x := hb
    by_cases hba : b = h.1
    · subst hba
      rw [va_up_self] at hb
      cases hb
      exact ⟨ws.length, by simp⟩
    · rw [va_up_ne _ _ hba] at hb
      obtain ⟨j, hj⟩ := hcov b x hb
      exact ⟨j, by rw [List.getElem?_append_left (List.getElem?_eq_some_iff.mp hj).1]; exact hj⟩
  · obtain ⟨t1, t2, t3, t4⟩ := S5
    exact ⟨by show s.heap.size ≤ h.1 + 1; omega, by show ss0 ≤ h.2.1 + n; omega, hc, hn⟩
end ZA
/-- a class of the program: its place, name, fields, types -/
def z_cls (G : z_G) (ci : Nat) (C : String) (T : u_T) (N : Nat) (ty : Nat → FieldType) : Prop :=
  G.cl[ci]? = some (C, T, N) ∧ (∀ w ∈ u_ws C T N, w ∈ G.Ts) ∧ (∀ k, k < N → parseFieldDescriptor (T k).2.2.1 = some (ty k)) ∧ (∀ a, a < N → ∀ b, b < N → a ≠ b → (T a).2.1 ≠ (T b).2.1)
/-- a field that a class's pool names at index -/
def z_lnk (G : z_G) (own : String) (index : Nat) (T : u_T) (k : Nat) : Prop :=
  Cond.fieldLink own index (T k).1 (T k).2.1 (T k).2.2.1 ∈ G.Ts ∨ ∃ host : String, Cond.fieldLinkNest own index (T k).1 (T k).2.1 (T k).2.2.1 host ∈ G.Ts
section ZH
variable {G : z_G} {mt : z_M} {d pc : Nat} {lo : List (Nat × Value)} {st : List Value} {h : z_H} {Q : z_R → z_H → Prop}
theorem z_getf {ci N k idx a : Nat} {C : String} {T : u_T} {ty : Nat → FieldType} {fs : List Value} {v : Value} (K : z_cls G ci C T N ty) (hk : k < N) (L : z_lnk G mt.1.cls idx T k) (hd : decode mt.2.1 pc = .ok (.getfield idx, 3)) (he : h.2.2 a = some (.inr (ci, fs))) (hv : fs[k]? = some v)
    (kk : z_V G mt d (pc + 3) lo (v :: st) h Q) : z_V G mt d pc lo (.ref a :: st) h Q := by
  intro p e s m args below meth c R ss0 H locs ls S hl
  obtain ⟨ws, hP, hD, hcov⟩ := S.2.2.1.2.1
  obtain ⟨q0, hq⟩ := hcov a _ he
  have hts := S.1.2.2.2.1
  rcases L with L | ⟨host, L⟩
  · exact va_get S.1.1.1 S.1.1.2.1 hts K.2.1 S.1.2.1.1 S.1.2.2.1 hP q0 hq K.1 k hk (hts _ L) (fun _ z => z) hv hd (kk p e s m args below meth c R ss0 H locs ls S hl)
  · exact va_getN S.1.1.1 S.1.1.2.1 hts K.2.1 S.1.2.1.1 S.1.2.2.1 hP q0 hq K.1 k hk (hts _ L) (fun _ z => z) hv hd (kk p e s m args below meth c R ss0 H locs ls S hl)
theorem z_putf {ci N k idx a : Nat} {C : String} {T : u_T} {ty : Nat → FieldType} {fs : List Value} {v : Value} (K : z_cls G ci C T N ty) (hk : k < N) (L : z_lnk G mt.1.cls idx T k) (hfin : (T k).2.2.2 = false) (hd : decode mt.2.1 pc = .ok (.putfield idx, 3)) (he : h.2.2 a = some (.inr (ci, fs))) (hn : narrow (ty k) v = v) (hf : fits (ty k) v = true) (hl : k < fs.length)
    (kk : z_V G mt d (pc + 3) lo st (z_set h a (.inr (ci, fs.set k v))) Q) : z_V G mt d pc lo (v :: .ref a :: st) h Q := by
  intro p e s m args below meth c R ss0 H locs ls S hls
  obtain ⟨ws, hP, hD, hcov⟩ := S.2.2.1.2.1
  obtain ⟨q0, hq⟩ := hcov a _ he
  have hts := S.1.2.2.2.1
  rcases L with L | ⟨host, L⟩
  · exact va_put S.1.1.1 S.1.1.2.1 hts K.2.1 ty K.2.2.1 K.2.2.2 S.1.2.1.1 S.1.2.2.1 hP hD (z_rf S) q0 hq K.1 k hk (hts _ L) (fun _ z => z) hfin (K.2.2.1 k hk) hn hf hl hd (fun H1 locs1 hP1 hD1 hS1 => z_sz fun hz => kk p e s m args below meth c R ss0 H1 locs1 ls (z_wr S hD hcov hq hP1 hD1 hS1 hz) hls)
  · exact va_putN S.1.1.1 S.1.1.2.1 hts K.2.1 ty K.2.2.1 K.2.2.2 S.1.2.1.1 S.1.2.2.1 hP hD (z_rf S) q0 hq K.1 k hk (hts _ L) (fun _ z => z) hfin (K.2.2.1 k hk) hn hf hl hd (fun H1 locs1 hP1 hD1 hS1 => z_sz fun hz => kk p e s m args below meth c R ss0 H1 locs1 ls (z_wr S hD hcov hq hP1 hD1 hS1 hz) hls)
theorem z_putF {ci N k idx a : Nat} {C : String} {T : u_T} {ty : Nat → FieldType} {fs : List Value} {v : Value} (K : z_cls G ci C T N ty) (hk : k < N) (L : Cond.fieldLink mt.1.cls idx (T k).1 (T k).2.1 (T k).2.2.1 ∈ G.Ts) (hfin : (T k).2.2.2 = true) (hi : mt.1.name = "<init>") (ho : (T k).1 = mt.1.cls) (hd : decode mt.2.1 pc = .ok (.putfield idx, 3)) (he : h.2.2 a = some (.inr (ci, fs))) (hn : narrow (ty k) v = v) (hf : fits (ty k) v = true) (hl : k < fs.length)
    (kk : z_V G mt d (pc + 3) lo st (z_set h a (.inr (ci, fs.set k v))) Q) : z_V G mt d pc lo (v :: .ref a :: st) h Q := by
  intro p e s m args below meth c R ss0 H locs ls S hls
  obtain ⟨ws, hP, hD, hcov⟩ := S.2.2.1.2.1
  obtain ⟨q0, hq⟩ := hcov a _ he
  have hts := S.1.2.2.2.1
  exact va_putF S.1.1.1 S.1.1.2.1 hts K.2.1 ty K.2.2.1 K.2.2.2 S.1.2.1.1 S.1.2.2.1 hP hD (z_rf S) q0 hq K.1 k hk (hts _ L) (fun _ z => z) hfin (S.1.2.1.2.2.1.trans hi) ho (K.2.2.1 k hk) hn hf hl hd (fun H1 locs1 hP1 hD1 hS1 => z_sz fun hz => kk p e s m args below meth c R ss0 H1 locs1 ls (z_wr S hD hcov hq hP1 hD1 hS1 hz) hls)
theorem z_iald {t0 a n : Nat} {cA : ClassId} {f : Nat → Int32} {i : Int32} (hd : decode mt.2.1 pc = .ok (.iaload, 1)) (ht : G.tys[t0]? = some (cA, .int)) (he : h.2.2 a = some (.inl (cA, n, .inl f))) (hin : vp_in i n)
    (kk : z_V G mt d (pc + 1) lo (.int (f i.toNatClampNeg) :: st) h Q) : z_V G mt d pc lo (.int i :: .ref a :: st) h Q := by
  intro p e s m args below meth c R ss0 H locs ls S hl
  obtain ⟨ws, hP, hD, hcov⟩ := S.2.2.1.2.1
  obtain ⟨q0, hq⟩ := hcov a _ he
  exact va_iald S.1.1.1 S.1.1.2.1 S.1.2.2.1 hP q0 t0 hq ht hin hd (kk p e s m args below meth c R ss0 H locs ls S hl)
theorem z_zald {t0 a n : Nat} {cA : ClassId} {f : Nat → Int32} {i : Int32} (hd : decode mt.2.1 pc = .ok (.baload, 1)) (ht : G.tys[t0]? = some (cA, .boolean)) (he : h.2.2 a = some (.inl (cA, n, .inl f))) (hin : vp_in i n)
    (kk : z_V G mt d (pc + 1) lo (.int (f i.toNatClampNeg) :: st) h Q) : z_V G mt d pc lo (.int i :: .ref a :: st) h Q := by
  intro p e s m args below meth c R ss0 H locs ls S hl
  obtain ⟨ws, hP, hD, hcov⟩ := S.2.2.1.2.1
  obtain ⟨q0, hq⟩ := hcov a _ he
  exact va_zald S.1.1.1 S.1.1.2.1 S.1.2.2.1 hP q0 t0 hq ht hin hd (kk p e s m args below meth c R ss0 H locs ls S hl)
theorem z_lald {t0 a n : Nat} {cA : ClassId} {f : Nat → Int64} {i : Int32} (hd : decode mt.2.1 pc = .ok (.laload, 1)) (ht : G.tys[t0]? = some (cA, .long)) (he : h.2.2 a = some (.inl (cA, n, .inr (.inl f)))) (hin : vp_in i n)
    (kk : z_V G mt d (pc + 1) lo (.long (f i.toNatClampNeg) :: st) h Q) : z_V G mt d pc lo (.int i :: .ref a :: st) h Q := by
  intro p e s m args below meth c R ss0 H locs ls S hl
  obtain ⟨ws, hP, hD, hcov⟩ := S.2.2.1.2.1
  obtain ⟨q0, hq⟩ := hcov a _ he
  exact va_lald S.1.1.1 S.1.1.2.1 S.1.2.2.1 hP q0 t0 hq ht hin hd (kk p e s m args below meth c R ss0 H locs ls S hl)
theorem z_aald {t0 a n x : Nat} {cA : ClassId} {C : String} {f : Nat → Option Nat} {i : Int32} (hd : decode mt.2.1 pc = .ok (.aaload, 1)) (ht : G.tys[t0]? = some (cA, .object C)) (he : h.2.2 a = some (.inl (cA, n, .inr (.inr (.inr (.inr f)))))) (hin : vp_in i n) (hx : f i.toNatClampNeg = some x)
    (kk : z_V G mt d (pc + 1) lo (.ref x :: st) h Q) : z_V G mt d pc lo (.int i :: .ref a :: st) h Q := by
  intro p e s m args below meth c R ss0 H locs ls S hl
  obtain ⟨ws, hP, hD, hcov⟩ := S.2.2.1.2.1
  obtain ⟨q0, hq⟩ := hcov a _ he
  refine va_aldq S.1.1.1 S.1.1.2.1 S.1.2.2.1 hP q0 t0 hq ht hin hd ?_
  rw [hx]
  exact kk p e s m args below meth c R ss0 H locs ls S hl
theorem z_alen {t0 a : Nat} {cA : ClassId} {x : vp_A} {ty : FieldType} {v : Int32} (hd : decode mt.2.1 pc = .ok (.arraylength, 1)) (ht : G.tys[t0]? = some (cA, ty)) (he : h.2.2 a = some (.inl (cA, x))) (hv : Int32.ofNat x.1 = v)
    (kk : z_V G mt d (pc + 1) lo (.int v :: st) h Q) : z_V G mt d pc lo (.ref a :: st) h Q := by
  intro p e s m args below meth c R ss0 H locs ls S hl
  obtain ⟨ws, hP, hD, hcov⟩ := S.2.2.1.2.1
  obtain ⟨q0, hq⟩ := hcov a _ he
  exact va_alen S.1.1.1 S.1.1.2.1 S.1.2.2.1 hP q0 t0 hq ht hv hd (kk p e s m args below meth c R ss0 H locs ls S hl)
theorem z_sld {i : Int32} (hd : decode mt.2.1 pc = .ok (.iaload, 1)) (hin : vp_in i G.x.2.1) (kk : z_V G mt d (pc + 1) lo (.int (G.x.2.2 i.toNatClampNeg) :: st) h Q) : z_V G mt d pc lo (.int i :: .ref G.x.1 :: st) h Q := by
  intro p e s m args below meth c R ss0 H locs ls S hl
  obtain ⟨scr, h1, h2, h3, h4, h5⟩ := S.2.2.1.2.2.2.2.1
  have hlt : i.toNatClampNeg < G.x.2.1 := Nat.not_le.mp fun q => hin (Or.inr q)
  exact W.iald (v := .int (G.x.2.2 i.toNatClampNeg)) S.1.1.1 S.1.1.2.1 h1 h2 h3 (by rw [h4]; exact hin) (h5 _ hlt) rfl rfl hd (kk p e s m args below meth c R ss0 H locs ls S hl)
theorem z_slen (hd : decode mt.2.1 pc = .ok (.arraylength, 1)) (kk : z_V G mt d (pc + 1) lo (.int (Int32.ofNat G.x.2.1) :: st) h Q) : z_V G mt d pc lo (.ref G.x.1 :: st) h Q := by
  intro p e s m args below meth c R ss0 H locs ls S hl
  obtain ⟨scr, h1, h2, h3, h4, h5⟩ := S.2.2.1.2.2.2.2.1
  exact W.alen (n := Int32.ofNat G.x.2.1) S.1.1.1 S.1.1.2.1 h1 h2 (by rw [h4] <;> rfl) rfl rfl hd (kk p e s m args below meth c R ss0 H locs ls S hl)
theorem z_iast {t0 a n : Nat} {cA : ClassId} {f : Nat → Int32} {i x : Int32} (hd : decode mt.2.1 pc = .ok (.iastore, 1)) (ht : G.tys[t0]? = some (cA, .int)) (he : h.2.2 a = some (.inl (cA, n, .inl f))) (hin : vp_in i n)
    (kk : z_V G mt d (pc + 1) lo st (z_set h a (.inl (cA, n, .inl (upd f i.toNatClampNeg x)))) Q) : z_V G mt d pc lo (.int x :: .int i :: .ref a :: st) h Q := by
  intro p e s m args below meth c R ss0 H locs ls S hl
  obtain ⟨ws, hP, hD, hcov⟩ := S.2.2.1.2.1
  obtain ⟨q0, hq⟩ := hcov a _ he
  exact va_iast S.1.1.1 S.1.1.2.1 S.1.2.2.1 hP hD (z_rf S) q0 t0 hq ht hin hd (fun H1 locs1 hP1 hD1 hS1 => z_sz fun hz => kk p e s m args below meth c R ss0 H1 locs1 ls (z_wr S hD hcov hq hP1 hD1 hS1 hz) hl)
theorem z_zast {t0 a n : Nat} {cA : ClassId} {f : Nat → Int32} {i x : Int32} (hd : decode mt.2.1 pc = .ok (.bastore, 1)) (ht : G.tys[t0]? = some (cA, .boolean)) (he : h.2.2 a = some (.inl (cA, n, .inl f))) (hin : vp_in i n)
    (kk : z_V G mt d (pc + 1) lo st (z_set h a (.inl (cA, n, .inl (upd f i.toNatClampNeg (vp_nar .boolean x))))) Q) : z_V G mt d pc lo (.int x :: .int i :: .ref a :: st) h Q := by
  intro p e s m args below meth c R ss0 H locs ls S hl
  obtain ⟨ws, hP, hD, hcov⟩ := S.2.2.1.2.1
  obtain ⟨q0, hq⟩ := hcov a _ he
  exact va_zast S.1.1.1 S.1.1.2.1 S.1.2.2.1 hP hD (z_rf S) q0 t0 hq ht hin hd (fun H1 locs1 hP1 hD1 hS1 => z_sz fun hz => kk p e s m args below meth c R ss0 H1 locs1 ls (z_wr S hD hcov hq hP1 hD1 hS1 hz) hl)
theorem z_last {t0 a n : Nat} {cA : ClassId} {f : Nat → Int64} {i : Int32} {x : Int64} (hd : decode mt.2.1 pc = .ok (.lastore, 1)) (ht : G.tys[t0]? = some (cA, .long)) (he : h.2.2 a = some (.inl (cA, n, .inr (.inl f)))) (hin : vp_in i n)
    (kk : z_V G mt d (pc + 1) lo st (z_set h a (.inl (cA, n, .inr (.inl (vp_updL f i.toNatClampNeg x))))) Q) : z_V G mt d pc lo (.long x :: .int i :: .ref a :: st) h Q := by
  intro p e s m args below meth c R ss0 H locs ls S hl
  obtain ⟨ws, hP, hD, hcov⟩ := S.2.2.1.2.1
  obtain ⟨q0, hq⟩ := hcov a _ he
  exact va_last S.1.1.1 S.1.1.2.1 S.1.2.2.1 hP hD (z_rf S) q0 t0 hq ht hin hd (fun H1 locs1 hP1 hD1 hS1 => z_sz fun hz => kk p e s m args below meth c R ss0 H1 locs1 ls (z_wr S hD hcov hq hP1 hD1 hS1 hz) hl)
theorem z_aast {t0 a n x ci N : Nat} {cA : ClassId} {C : String} {T : u_T} {ty : Nat → FieldType} {fs : List Value} {f : Nat → Option Nat} {i : Int32} (K : z_cls G ci C T N ty) (hd : decode mt.2.1 pc = .ok (.aastore, 1)) (ht : G.tys[t0]? = some (cA, .object C)) (he : h.2.2 a = some (.inl (cA, n, .inr (.inr (.inr (.inr f)))))) (hx : h.2.2 x = some (.inr (ci, fs))) (hin : vp_in i n)
    (kk : z_V G mt d (pc + 1) lo st (z_set h a (.inl (cA, n, .inr (.inr (.inr (.inr (va_up f i.toNatClampNeg (some x)))))))) Q) : z_V G mt d pc lo (.ref x :: .int i :: .ref a :: st) h Q := by
  intro p e s m args below meth c R ss0 H locs ls S hl
  obtain ⟨ws, hP, hD, hcov⟩ := S.2.2.1.2.1
  obtain ⟨q0, hq⟩ := hcov a _ he
  obtain ⟨q1, hq1⟩ := hcov x _ hx
  exact va_astq S.1.1.1 S.1.1.2.1 S.1.2.2.1 hP hD (z_rf S) q0 t0 q1 ci (r := (C, T, N)) hq ht hq1 K.1 hin hd (fun H1 locs1 hP1 hD1 hS1 => z_sz fun hz => kk p e s m args below meth c R ss0 H1 locs1 ls (z_wr S hD hcov hq hP1 hD1 hS1 hz) hl)
theorem z_copy {t0 a0 a n0 n1 idx : Nat} {cA : ClassId} {f g : Nat → Int32} {sp dp n : Int32} (hd : decode mt.2.1 pc = .ok (.invokestatic idx, 3)) (ht : G.tys[t0]? = some (cA, .int)) (w1 : Cond.methodLink mt.1.cls idx arraycopyName ∈ G.Ts) (w2 : Cond.native arraycopyName ∈ G.Ts) (w3 : Cond.static arraycopyName ∈ G.Ts) (w4 : Cond.initialized "java/lang/System" ∈ G.Ts)
    (he0 : h.2.2 a0 = some (.inl (cA, n0, .inl f))) (he : h.2.2 a = some (.inl (cA, n1, .inl g))) (h1 : ¬ sp < 0) (h2 : ¬ dp < 0) (h3 : ¬ n < 0) (h4 : sp.toNatClampNeg + n.toNatClampNeg ≤ n0) (h5 : dp.toNatClampNeg + n.toNatClampNeg ≤ n1)
    (hst : (st.map fun v => v.category).sum + (nativeFrameWords "java/lang/System" "arraycopy" 5 + 11) ≤ 150)
    (kk : z_V G mt d (pc + 3) lo st (z_set h a (.inl (cA, n1, .inl (va_cpy f g sp.toNatClampNeg dp.toNatClampNeg n.toNatClampNeg)))) Q) : z_V G mt d pc lo (.int n :: .int dp :: .ref a :: .int sp :: .ref a0 :: st) h Q := by
  intro p e s m args below meth c R ss0 H locs ls S hl
  obtain ⟨ws, hP, hD, hcov⟩ := S.2.2.1.2.1
  obtain ⟨q0, hq0⟩ := hcov a0 _ he0
  obtain ⟨q1, hq⟩ := hcov a _ he
  have hts := S.1.2.2.2.1
  have hR := S.2.1
  exact va_copyi S.1.1.1 S.1.1.2.1 (S.1.1.2.2.1.trans hl.1.symm) S.1.2.1.1 (hts _ w1) (hts _ w2) (hts _ w3) (hts _ w4) S.1.2.2.1 hP hD (z_rf S) q0 q1 t0 t0 hq0 hq ht ht rfl h1 h2 h3 h4 h5 (fun _ _ => rfl) (by omega) (by omega) hd (fun H1 locs1 hP1 hD1 hS1 => z_sz fun hz => kk p e s m args below meth c R ss0 H1 locs1 ls (z_wr S hD hcov hq hP1 hD1 hS1 hz) hl)
theorem z_newo {ci N idx : Nat} {C : String} {T : u_T} {ty : Nat → FieldType} {fs : List Value} (K : z_cls G ci C T N ty) (hd : decode mt.2.1 pc = .ok (.new idx, 3)) (w1 : Cond.classLink mt.1.cls idx C ∈ G.Ts) (w2 : Cond.instantiable C N ∈ G.Ts) (w3 : Cond.initialized C ∈ G.Ts) (hfs : ∀ j, j < N → defaultValue (ty j) = vp_V fs j) (hc : h.1 + 1 ≤ G.b0 + G.cc) (hs : h.2.1 + N ≤ G.ss)
    (kk : z_V G mt d (pc + 3) lo (.ref h.1 :: st) (z_new h N (.inr (ci, fs))) Q) : z_V G mt d pc lo st h Q := by
  intro p e s m args below meth c R ss0 H locs ls S hl
  have hts := S.1.2.2.2.1
  have hR := S.2.1
  have hZ := S.2.2.2.2
  have hKn := S.1.2.2.1.1 ci _ K.1
  refine W.newcK S.1.1.1 S.1.1.2.1 S.1.2.1.1 (hts _ w1) (hts _ w2) (hts _ w3) rfl hd (by omega) (by omega) hKn.2.1 S.2.2.1.1 fun H1 kC hkC e1 z1 o1 => ?_
  refine W.cs (cells' := h.1 + 1 - s.heap.size) (slots' := h.2.1 + N - ss0) (by omega) (by omega) ?_
  exact kk p e s m args below meth c R ss0 H1 locs ls (z_nw S hc hs ⟨_, K.1, (u_born ty hts K.2.1 hKn hkC e1 K.2.2.1).to hfs⟩ z1 o1) hl
theorem z_newa {t0 N' : Nat} {cA : ClassId} {atype : ArrayType} {ty : FieldType} {n : Int32} {a0 : vp_A} (hd : decode mt.2.1 pc = .ok (.newarray atype, 2)) (hty : newarray.typeOf atype = ty) (w1 : Cond.arrayClass ty ∈ G.Ts) (ht : G.tys[t0]? = some (cA, ty)) (hra : ∀ (U : State) (x : ClassId), va_RA U x ty → U.vm.findClass ("[" ++ ty.toString) = some x) (ha : ∀ x : ClassId, vp_cell x a0 = arrV x N' (fun _ => defaultValue ty)) (hn : ¬ n < 0) (hN : n.toNatClampNeg = N') (hby : N' * componentBytes ty ≤ 536870912) (hc : h.1 + 1 ≤ G.b0 + G.cc) (hs : h.2.1 + N' ≤ G.ss)
    (kk : z_V G mt d (pc + 2) lo (.ref h.1 :: st) (z_new h N' (.inl (cA, a0))) Q) : z_V G mt d pc lo (.int n :: st) h Q := by
  subst hty
  intro p e s m args below meth c R ss0 H locs ls S hl
  have hts := S.1.2.2.2.1
  have hR := S.2.1
  have hZ := S.2.2.2.2
  refine va_newaK S.1.1.1 S.1.1.2.1 (hts _ w1) rfl hd rfl hn hN hby (by omega) (by omega) S.2.2.1.1 fun H1 x e1 z1 o1 hAr hNm => ?_
  have hx : x = cA := Option.some.inj (hNm.symm.trans (hra s cA (S.1.2.2.1.2 t0 _ ht).2))
  subst hx
  refine W.cs (cells' := h.1 + 1 - s.heap.size) (slots' := h.2.1 + N' - ss0) (by omega) (by omega) ?_
  exact kk p e s m args below meth c R ss0 H1 locs ls (z_nw S hc hs (by show H1[h.1]? = some (vp_cell _ _); rw [ha]; exact e1) z1 o1) hl
theorem z_anew {t0 N' idx : Nat} {cA : ClassId} {C : String} {n : Int32} (hd : decode mt.2.1 pc = .ok (.anewarray idx, 3)) (w1 : Cond.classLink mt.1.cls idx C ∈ G.Ts) (w2 : Cond.arrayOver (.object C) ∈ G.Ts) (ht : G.tys[t0]? = some (cA, .object C)) (hn : ¬ n < 0) (hN : n.toNatClampNeg = N') (hby : N' * 4 ≤ 536870912) (hc : h.1 + 1 ≤ G.b0 + G.cc) (hs : h.2.1 + N' ≤ G.ss)
    (kk : z_V G mt d (pc + 3) lo (.ref h.1 :: st) (z_new h N' (.inl (cA, N', .inr (.inr (.inr (.inr (fun _ => none))))))) Q) : z_V G mt d pc lo (.int n :: st) h Q := by
  subst hN
  intro p e s m args below meth c R ss0 H locs ls S hl
  have hts := S.1.2.2.2.1
  have hR := S.2.1
  have hZ := S.2.2.2.2
  have hz0 : H.size = h.1 := S.2.2.1.1
  refine W.anew S.1.1.1 S.1.1.2.1 S.1.2.1.1 (hts _ w1) (hts _ w2) rfl hd rfl hn hby (by omega) (by omega) fun x kA comp f1 f2 f3 f4 => ?_
  obtain ⟨-, -, -, -, -, f5⟩ := (S.1.2.2.1.2 t0 _ ht).2
  have hx : x = cA := Option.some.inj (f1.symm.trans f5)
  subst hx
  generalize hH1 : H.push ({ cls := x, slots := Array.replicate n.toNatClampNeg .null, vm := .none } : Cell) = H1
  have z1 : H1.size = h.1 + 1 := by rw [← hH1, Array.size_push, hz0]
  have e1 : H1[h.1]? = some (arrV x n.toNatClampNeg (fun _ => .null)) := by rw [← hH1, ← hz0, Array.getElem?_push_size, ← arrV_new]
  have o1 : ∀ q : Nat, q < h.1 → H1[q]? = H[q]? := fun q hq => by rw [← hH1, Array.getElem?_push, if_neg (by omega)]
  rw [hz0]
  refine W.cs (cells' := h.1 + 1 - s.heap.size) (slots' := h.2.1 + n.toNatClampNeg - ss0) (by omega) (by omega) ?_
  exact kk p e s m args below meth c R ss0 H1 locs ls (z_nw S hc hs (by show H1[h.1]? = some (vp_cell _ _); rw [vp_cell_q]; exact e1) z1 o1) hl
theorem z_oinit {a idx : Nat} (hd : decode mt.2.1 pc = .ok (.invokespecial idx, 3)) (w1 : Cond.methodLink mt.1.cls idx Lib.objectInit ∈ G.Ts) (w2 : Cond.instanceMethod Lib.objectInit ∈ G.Ts) (w3 : Cond.code Lib.objectInit ⟨#[0xb1]⟩ 1 none ∈ G.Ts) (hst : (st.map fun v => v.category).sum ≤ 8)
    (kk : z_V G mt d (pc + 3) lo st h Q) : z_V G mt d pc lo (.ref a :: st) h Q := by
  intro p e s m args below meth c R ss0 H locs ls S hl
  have hts := S.1.2.2.2.1
  have hR := S.2.1
  exact W.objInit S.1.1.1 S.1.1.2.1 S.1.2.1.1 (hts _ w1) (hts _ w2) (hts _ w3) rfl (hl.1.trans S.1.1.2.2.1.symm) rfl hd (by omega) (by show 2 * 0 + _ + 12 ≤ _; omega) (kk p e s m args below meth c R ss0 H locs ls S hl)
end ZH
end
section
/-! calls, and exceptions -/
theorem z_under {tb : Tables} {e : Env} {g : JFrame} {below : List Frame} {a b : State} (h : Steps tb e (.java g :: below) a b) : Steps tb e below a b := by
  obtain ⟨n, h1, h2⟩ := h
  refine ⟨n, h1, fun k hk => ?_⟩
  obtain ⟨ab, e1, e2, e3⟩ := h2 k hk
  refine ⟨ab ++ [.java g], by rw [e1]; simp, by simp, fun x q => ?_⟩
  cases ab with
  | nil => exact e2 rfl
  | cons y t => simp at q
/-- the method's own code stands in the tables -/
def z_cd (G : z_G) (mt : z_M) : Prop := (mt.2.2.2.2 = [] ∧ Cond.code mt.1 mt.2.1 mt.2.2.1 mt.2.2.2.1 ∈ G.Ts) ∨ Cond.codeWith mt.1 mt.2.1 mt.2.2.1 mt.2.2.2.1 mt.2.2.2.2 ∈ G.Ts
theorem z_cd.spec {G : z_G} {mt : z_M} (hc : z_cd G mt) {args : Array Value} {s : State} (hts : ∀ w ∈ G.Ts, w.before args s = true) :
    ∃ (mk : MethodId) (meth : Method) (c : Code), s.methodNamed? mt.1 = some mk ∧ s.vm.method? mk = some meth ∧ meth.code = some c ∧ c.code = mt.2.1 ∧ c.maxLocals = mt.2.2.1 ∧ meth.sig.returnType = mt.2.2.2.1 ∧ meth.locks = false ∧
      c.exceptionTable.toList.map (fun h => (h.startPc, h.endPc, h.handlerPc, h.catchType)) = mt.2.2.2.2 ∧ parseMethodDescriptor mt.1.desc = some meth.sig := by
  rcases hc with ⟨h0, hc⟩ | hc
  · have hw := hts _ hc
    obtain ⟨mk, hn⟩ := Cond.code_named hw
    obtain ⟨meth, c, h1, h2, h3, h4, h5, h6, h7, h8⟩ := Cond.code_spec hn hw
    refine ⟨mk, meth, c, hn, h1, h2, h3, h4, h5, h6, ?_, h8⟩
    have h9 : c.exceptionTable.size = 0 := by simpa [Array.isEmpty] using h7
    have h10 : c.exceptionTable.toList = [] := List.eq_nil_of_length_eq_zero (by simpa using h9)
    rw [h10, h0]
    rfl
  · obtain ⟨mk, meth, c, hn, h1, h2, h3, h4, h5, h6, h7, h8⟩ := Cond.codeWith_spec (hts _ hc)
    exact ⟨mk, meth, c, hn, h1, h2, h3, h4, h6, h7, h5, h8⟩
section ZC
variable {p : Program} {e : Env} {R : Room} {s : State} {m : MethodId} {args : Array Value} {below : List Frame} {meth : Method} {c : Code} {T : State} {locs : List Loc} {ss0 : Nat}
variable {G : z_G} {mt mtY : z_M} {d dY : Nat} {h : z_H} {as : List Value} {QY : z_R → z_H → Prop}
theorem z_Out.moved {r : z_R} {o : Outcome} {U : State} {H : Heap} (hvm : s.vm.Alike U.vm) (h : z_Out r o U H) : z_Out r o s H := by
  cases r with
  | inl v => exact h
  | inr X =>
    obtain ⟨a, ce, h1, h2, h3, h4⟩ := h
    exact ⟨a, ce, h1, h2, h3, by rw [← hvm.findClass]; exact h4⟩
theorem z_core (X : Stand p G.l e R s m args below meth c T locs (h.1 - s.heap.size) (h.2.1 - ss0)) (S : z_St G mt d p s m args meth c R ss0 T.heap locs h)
    (hM : z_C G mtY dY as h QY) (hdp : dY + 1 ≤ d) (hmx : mtY.2.2.1 ≤ 16) (hcd : z_cd G mtY) (hpl : plainName mtY.1.cls = true)
    {g : JFrame} (hg : g.method = m) (hsize : g.locals.size = c.maxLocals) {ig : Instr} {len : Nat} (hdg : decode c.code g.pc = .ok (ig, len)) (hw : 2 * g.monitorRoom + (g.stack.map fun v => v.category).sum ≤ 8)
    {mk : MethodId} (hmk : s.methodNamed? mtY.1 = some mk) :
    ∃ (o : Outcome) (r : z_R) (h' : z_H) (T' : State) (locs' : List Loc), QY r h' ∧ z_Out r o s T'.heap ∧ Stand p G.l e R s m args below meth c T' locs' (h'.1 - s.heap.size) (h'.2.1 - ss0) ∧ z_St G mt d p s m args meth c R ss0 T'.heap locs' h' ∧
      ∀ acts, Steps p.tables e below (doInvoke e (T.setTop g) acts mk as.toArray).1 (match o with | .returned v => T'.setTop { g with pc := g.pc + len, stack := v.toList ++ g.stack } | .threw a => (T'.setTop g).pushFrame (.throwing a)) := by
  obtain ⟨S1, ⟨r1, r2, r3, r4⟩, ⟨Ra, ⟨ws, hP, hD, hcov⟩, Rz1, Rz2, Rx, Rb⟩, S4, S5⟩ := id S
  obtain ⟨s5a, s5b, s5c, s5d⟩ := S5
  have hts : ∀ w ∈ G.Ts, w.before args s = true := S1.2.2.2.1
  have hmv : ∀ w ∈ G.Ts, z_mv w = true := S1.2.2.2.2.1
  have htsT : ∀ w ∈ G.Ts, w.before as.toArray T = true := fun w hw => z_move (hmv w hw) X.warmed (hts w hw)
  obtain ⟨mk', methY, cY, hnY, hmY, hcY, hbY, hlY, hrY, hkY, htY, -⟩ := hcd.spec htsT
  have hnS : T.methodNamed? mtY.1 = some mk := X.named hmk
  cases hnY.symm.trans hnS
  have hplain : T.plainMethod mk := State.plainMethod.of_named (plainFor_of_name hpl) hnS hmY
  obtain ⟨Y, hin⟩ := X.into hg hsize hdg as.toArray (R' := { frames := R.frames - 1, cells := G.b0 + G.cc - h.1, slots := G.ss - h.2.1, locals := R.locals - 35 }) hmY hcY hkY hplain (by show R.frames - 1 + 1 ≤ R.frames; omega) (by show _ + (R.locals - 35) ≤ R.locals; rw [hlY]; omega) (by show _ + (G.b0 + G.cc - h.1) ≤ R.cells; omega) (by show _ + (G.ss - h.2.1) ≤ R.slots; omega)
  have hal : s.vm.Alike T.vm := X.warmed.alike
  have S' : z_St G mtY dY p (T.calling g mk as.toArray) mk as.toArray methY cY { frames := R.frames - 1, cells := G.b0 + G.cc - h.1, slots := G.ss - h.2.1, locals := R.locals - 35 } h.2.1 (T.calling g mk as.toArray).heap [] h := by
    refine ⟨⟨⟨S1.1.1, hbY, hlY, hrY⟩, ⟨findClass_of_methodNamed hnS, hkY, (name_of_methodNamed hnS hmY).1, htY⟩, va_K.moved (u := s) (U := T.calling g mk as.toArray) hal S1.2.2.1, fun w hw => ?_, hmv, S1.2.2.2.2.2⟩, ⟨by show dY + 6 ≤ R.frames - 1; omega, by show 35 * dY + 150 ≤ R.locals - 35; omega, ?_, ?_⟩, ⟨Ra, ⟨ws, hP, hD, hcov⟩, Rz1.moved hal, Rz2.moved hal, Rx.moved hal, Rb⟩, ⟨va_S.rf, ?_⟩, ?_, Nat.le_refl _, s5c, s5d⟩
    · exact z_move (U := T.calling g mk as.toArray) (hmv w hw) X.warmed (hts w hw)
    · show G.b0 + G.cc ≤ T.heap.size + (G.b0 + G.cc - h.1)
      omega
    · show G.ss ≤ h.2.1 + (G.ss - h.2.1)
      omega
    · show G.b0 ≤ T.heap.size
      have := S4.2
      omega
    · show T.heap.size ≤ h.1
      omega
  obtain ⟨t, hst, o, r, h', hq, hrun, hended, hW, ⟨L, hsame, hL⟩, hRel, hlow, ⟨u1, u2, u3, u4⟩, hout⟩ := hM p e (T.calling g mk as.toArray) mk (.java g :: below) methY cY _ S' ((T.setTop g).pushFrame (.java (entryFrame mk as.toArray cY.maxLocals))) rfl Y
  have hzT : (T.calling g mk as.toArray).heap.size = h.1 := Ra
  have hst2 : ∀ acts, Steps p.tables e below (doInvoke e (T.setTop g) acts mk as.toArray).1 t := fun acts => by
    rw [hin acts]
    rw [← hlY] at hst
    exact z_under hst
  have hcl : h.1 - s.heap.size + (h'.1 - (T.calling g mk as.toArray).heap.size) = h'.1 - s.heap.size := by rw [hzT] at u1 ⊢; omega
  have hsl : h.2.1 - ss0 + (h'.2.1 - h.2.1) = h'.2.1 - ss0 := by omega
  have hSt : ∀ T' : State, T'.heap = t.heap → z_St G mt d p s m args meth c R ss0 T'.heap (locs ++ L) h' := by
    intro T' hT'
    rw [hT']
    obtain ⟨q1, q2, q3, q4, q5, q6⟩ := hRel
    refine ⟨S1, ⟨r1, r2, r3, r4⟩, ⟨q1, q2, q3.moved (u := T.calling g mk as.toArray) (U := s) hal.symm, q4.moved (u := T.calling g mk as.toArray) (U := s) hal.symm, q5.moved (u := T.calling g mk as.toArray) (U := s) hal.symm, q6⟩, ⟨⟨?_, fun q g1 g2 => ?_, fun x hx => ?_⟩, S4.2⟩, ?_, by omega, u3, u4⟩
    · rw [hzT] at u1; omega
    · have hq' : q < G.b0 := Nat.not_le.mp g2
      exact (hlow q hq').trans (S4.1.2.1 q g1 g2)
    · rcases List.mem_append.mp hx with hx | hx
      · exact S4.1.2.2 x hx
      · exact hL x hx
    · rw [hzT] at u1; omega
  cases o with
  | returned v =>
    obtain ⟨T', X', -, -, rfl⟩ := X.outOf hg hdg hended hW hsame
    rw [hcl, hsl] at X'
    exact ⟨.returned v, r, h', T', locs ++ L, hq, z_Out.moved (U := T.calling g mk as.toArray) hal hout, X', hSt T' rfl, hst2⟩
  | threw a =>
    obtain ⟨T', X', -, -, rfl⟩ := X.outOfThrown hg hended hW hsame
    rw [hcl, hsl] at X'
    exact ⟨.threw a, r, h', T', locs ++ L, hq, z_Out.moved (U := T.calling g mk as.toArray) hal hout, X', hSt T' rfl, hst2⟩
end ZC
section ZK
variable {G : z_G} {mt mtY : z_M} {d dY pc : Nat} {lo : List (Nat × Value)} {st : List Value} {h : z_H} {Q QY : z_R → z_H → Prop} {as : List Value}
theorem z_noh {c : Code} (hh : c.exceptionTable.toList.map (fun h => (h.startPc, h.endPc, h.handlerPc, h.catchType)) = []) (pc : Nat) : ∀ x ∈ c.exceptionTable.toList, covers x pc = false := by
  have h1 : c.exceptionTable.toList = [] := List.map_eq_nil_iff.mp hh
  intro x hx
  rw [h1] at hx
  cases hx
theorem z_after {p : Program} {e : Env} {R : Room} {s : State} {m : MethodId} {args : Array Value} {below : List Frame} {meth : Method} {c : Code} {T : State} {vm₁ : Vm} {locs : List Loc} {ss0 : Nat} {ls : Array Slot} {st0 : List Value} {ig : Instr} {mk : MethodId}
    (hd : decode mt.2.1 pc = .ok (ig, 3)) (hh : mt.2.2.2.2 = []) (hdp : dY + 1 ≤ d) (hmx : mtY.2.2.1 ≤ 16) (hcd : z_cd G mtY) (hpl : plainName mtY.1.cls = true) (hst : (st.map fun v => v.category).sum ≤ 8) (hM : z_C G mtY dY as h QY)
    (kr : ∀ v h', QY (.inl v) h' → z_V G mt d (pc + 3) lo (v.toList ++ st) h' Q) (kx : ∀ X h', QY (.inr X) h' → Q (.inr X) h')
    (S : z_St G mt d p s m args meth c R ss0 T.heap locs h) (hl : lv_has ls mt.2.2.1 lo) (X : Stand p G.l e R s m args below meth c (T.setVm vm₁) locs (h.1 - s.heap.size) (h.2.1 - ss0)) (hmk : s.methodNamed? mtY.1 = some mk)
    (hstep : ∀ target, (∀ acts, Steps p.tables e below (doInvoke e ((T.setVm vm₁).setTop (F0 m pc ls st)) acts mk as.toArray).1 target) → Steps p.tables e below (T.setTop (F0 m pc ls st0)) target) :
    ∃ t, Steps p.tables e below (T.setTop (F0 m pc ls st0)) t ∧ z_End G s below ss0 Q t := by
  obtain ⟨o, r, h', T', locs', hq, hout, X', S', hs⟩ := z_core (T := T.setVm vm₁) X S hM hdp hmx hcd hpl (g := F0 m pc ls st) rfl (hl.1.trans S.1.1.2.2.1.symm) (by rw [S.1.1.2.1]; exact hd) (by show 2 * 0 + (st.map fun v => v.category).sum ≤ 8; omega) hmk
  cases r with
  | inl v =>
    obtain rfl : o = .returned v := hout
    obtain ⟨t, a, b⟩ := kr v h' hq p e s m args below meth c R ss0 T'.heap locs' ls S' hl T' rfl X'
    exact ⟨t, hstep t (fun acts => (hs acts).trans a), b⟩
  | inr Xc =>
    obtain ⟨a, ce, rfl, hce, hcv, hcc⟩ := hout
    have hlocks : meth.locks = false := S.1.2.1.2.1
    obtain ⟨hwalk, hrun, hended, hW, hsame⟩ := X'.leaveThrown a (g := F0 m pc ls st) rfl rfl rfl (z_noh (S.1.2.1.2.2.2.trans hh) _)
    refine ⟨T'.setFrames (.throwing a :: below), hstep _ (fun acts => (hs acts).trans hwalk), .threw a, .inr Xc, h', kx Xc h' hq, hrun, hended, hW, ⟨locs', hsame, S'.2.2.2.1.1.2.2⟩, S'.2.2.1, fun q hq2 => ?_, S'.2.2.2.2, a, ce, rfl, hce, hcv, hcc⟩
    exact S'.2.2.2.1.1.2.1 q (Nat.lt_of_lt_of_le hq2 S'.2.2.2.1.2) (Nat.not_le.mpr hq2)
/-- what the tables say of a method that a class's pool names at index -/
def z_Yb (G : z_G) (own : String) (idx : Nat) (mtY : z_M) (n : Nat) : Prop := z_cd G mtY ∧ plainName mtY.1.cls = true ∧ mtY.2.2.1 ≤ 16 ∧ ((mtY.1.cls ≠ "java/lang/invoke/MethodHandle" ∧ mtY.1.cls ≠ "java/lang/invoke/VarHandle") ∧ (parseMethodDescriptor mtY.1.desc).map (fun d => d.parameters.length) = some n) ∧
  (Cond.methodLink own idx mtY.1 ∈ G.Ts ∨ ∃ host : String, Cond.methodLinkNest own idx mtY.1 host ∈ G.Ts)
def z_Yv (G : z_G) (own : String) (idx : Nat) (mtY : z_M) (n : Nat) : Prop := z_Yb G own idx mtY n ∧ Cond.instanceMethod mtY.1 ∈ G.Ts ∧ Cond.selects mtY.1.cls mtY.1 mtY.1 ∈ G.Ts
def z_Ys (G : z_G) (own : String) (idx : Nat) (mtY : z_M) (n : Nat) : Prop := z_Yb G own idx mtY n ∧ Cond.static mtY.1 ∈ G.Ts ∧ Cond.initialized mtY.1.cls ∈ G.Ts
def z_Yi (G : z_G) (own : String) (idx : Nat) (mtY : z_M) : Prop := z_Yb G own idx mtY 0 ∧ mtY.1.name = "<init>" ∧ mtY.2.2.2.1 = none ∧ mtY.2.2.2.2 = [] ∧ Cond.code mtY.1 mtY.2.1 mtY.2.2.1 none ∈ G.Ts ∧ Cond.instanceMethod mtY.1 ∈ G.Ts
theorem z_callV {b ci N idx n : Nat} {T : u_T} {fs : List Value} (hd : decode mt.2.1 pc = .ok (.invokevirtual idx, 3)) (hh : mt.2.2.2.2 = []) (hdp : dY + 1 ≤ d) (Y : z_Yv G mt.1.cls idx mtY n) (hn : as.length = n) (hb : h.2.2 b = some (.inr (ci, fs))) (hcl : G.cl[ci]? = some (mtY.1.cls, T, N)) (hst : (st.map fun v => v.category).sum ≤ 8) (hM : z_C G mtY dY (.ref b :: as) h QY)
    (kr : ∀ v h', QY (.inl v) h' → z_V G mt d (pc + 3) lo (v.toList ++ st) h' Q) (kx : ∀ X h', QY (.inr X) h' → Q (.inr X) h') : z_V G mt d pc lo (as.reverse ++ .ref b :: st) h Q := by
  intro p e s m args below meth c R ss0 H locs ls S hl T0 hT X
  subst hT
  obtain ⟨⟨hcd, hpl, hmx, ⟨hy, hpd⟩, hL⟩, hw1, hw2⟩ := Y
  have hts : ∀ w ∈ G.Ts, w.before args s = true := S.1.2.2.2.1
  obtain ⟨mk, methM, hnamed, hmethM, hstM, habM⟩ := Cond.instanceMethod_spec (hts _ hw1)
  obtain ⟨mk', methY, cY, hnY, hmY, -, -, -, -, -, -, hsig⟩ := hcd.spec hts
  cases hnamed.symm.trans hnY
  cases hmethM.symm.trans hmY
  have hlen : as.length = methM.sig.parameters.length := by
    rw [hsig] at hpd
    exact hn.trans (Option.some.inj hpd).symm
  obtain ⟨c2, r2, m2, q1, q2, q3, q4, kP, hkP, hkPi⟩ := Cond.selects_spec (hts _ hw2)
  obtain ⟨ws, hP, hD, hcov⟩ := S.2.2.1.2.1
  obtain ⟨q0, hq⟩ := hcov b _ hb
  obtain ⟨cellB, hcB, hoB, hclB⟩ := va_recv S.1.2.2.1 hP hcl hq
  cases hclB.symm.trans q1
  cases (State.methodFound?_of_named hnamed hy).symm.trans q2
  cases hnamed.symm.trans q3
  have hselP : selectMethod e.platform s.vm cellB.cls mk = .method mk := by rw [Launch.admits_selectMethod X.admits]; exact q4
  have hdc : decode c.code (F0 m pc ls (as.reverse ++ .ref b :: st)).pc = .ok (.invokevirtual idx, 3) := by rw [S.1.1.2.1]; exact hd
  rcases hL with hL | ⟨host, hL⟩
  · obtain ⟨vm₁, X₁, hstep⟩ := X.invokevirtual S.1.1.1 S.1.2.1.1 (hts _ hL) hnamed hmethM hstM hkP hkPi hy (a := b) (cell := cellB) hcB (fun z hz => by rw [hz] at hoB; cases hoB) hselP hmethM habM hkP hkPi (g := F0 m pc ls (as.reverse ++ .ref b :: st)) rfl (argsL := as) (rest := st) hlen rfl hdc
    exact z_after (as := .ref b :: as) hd hh hdp hmx hcd hpl hst hM kr kx S hl X₁ hnamed hstep
  · obtain ⟨vm₁, X₁, hstep⟩ := X.invokevirtualNest S.1.1.1 S.1.2.1.1 (hts _ hL) hnamed hmethM hstM hkP hkPi hy (a := b) (cell := cellB) hcB (fun z hz => by rw [hz] at hoB; cases hoB) hselP hmethM habM hkP hkPi (g := F0 m pc ls (as.reverse ++ .ref b :: st)) rfl (argsL := as) (rest := st) hlen rfl hdc
    exact z_after (as := .ref b :: as) hd hh hdp hmx hcd hpl hst hM kr kx S hl X₁ hnamed hstep
theorem z_callS {idx n : Nat} (hd : decode mt.2.1 pc = .ok (.invokestatic idx, 3)) (hh : mt.2.2.2.2 = []) (hdp : dY + 1 ≤ d) (Y : z_Ys G mt.1.cls idx mtY n) (hn : as.length = n) (hst : (st.map fun v => v.category).sum ≤ 8) (hM : z_C G mtY dY as h QY)
    (kr : ∀ v h', QY (.inl v) h' → z_V G mt d (pc + 3) lo (v.toList ++ st) h' Q) (kx : ∀ X h', QY (.inr X) h' → Q (.inr X) h') : z_V G mt d pc lo (as.reverse ++ st) h Q := by
  intro p e s m args below meth c R ss0 H locs ls S hl T0 hT X
  subst hT
  obtain ⟨⟨hcd, hpl, hmx, ⟨hy, hpd⟩, hL⟩, hw1, hw2⟩ := Y
  have hts : ∀ w ∈ G.Ts, w.before args s = true := S.1.2.2.2.1
  obtain ⟨mk, methM, cM, hnamed, hmethM, -, -, -, -, -, -, hsig⟩ := hcd.spec hts
  have hstatic : methM.isStatic = true := Cond.static_spec hnamed hmethM (hts _ hw1)
  obtain ⟨kP, hkP, -⟩ := className_of_methodNamed hnamed
  have hinitP : kP.init = .initialized := Cond.initialized_spec (findClass_of_methodNamed hnamed) hkP (hts _ hw2)
  have hlen : as.length = methM.sig.parameters.length := by
    rw [hsig] at hpd
    exact hn.trans (Option.some.inj hpd).symm
  have hdc : decode c.code (F0 m pc ls (as.reverse ++ st)).pc = .ok (.invokestatic idx, 3) := by rw [S.1.1.2.1]; exact hd
  rcases hL with hL | ⟨host, hL⟩
  · obtain ⟨vm₁, X₁, hstep⟩ := X.invokestatic S.1.1.1 S.1.2.1.1 (hts _ hL) hnamed hmethM hstatic hkP hinitP hy (g := F0 m pc ls (as.reverse ++ st)) rfl (argsL := as) (rest := st) hlen rfl hdc
    exact z_after hd hh hdp hmx hcd hpl hst hM kr kx S hl X₁ hnamed hstep
  · obtain ⟨vm₁, X₁, hstep⟩ := X.invokestaticNest S.1.1.1 S.1.2.1.1 (hts _ hL) hnamed hmethM hstatic hkP hinitP hy (g := F0 m pc ls (as.reverse ++ st)) rfl (argsL := as) (rest := st) hlen rfl hdc
    exact z_after hd hh hdp hmx hcd hpl hst hM kr kx S hl X₁ hnamed hstep
theorem z_callI {b idx : Nat} (hd : decode mt.2.1 pc = .ok (.invokespecial idx, 3)) (hh : mt.2.2.2.2 = []) (hdp : dY + 1 ≤ d) (Y : z_Yi G mt.1.cls idx mtY) (hst : (st.map fun v => v.category).sum ≤ 8) (hM : z_C G mtY dY [.ref b] h QY)
    (kr : ∀ v h', QY (.inl v) h' → z_V G mt d (pc + 3) lo (v.toList ++ st) h' Q) (kx : ∀ X h', QY (.inr X) h' → Q (.inr X) h') : z_V G mt d pc lo (.ref b :: st) h Q := by
  intro p e s m args below meth c R ss0 H locs ls S hl T0 hT X
  subst hT
  obtain ⟨⟨hcd, hpl, hmx, ⟨hy, hpd⟩, hL⟩, hy1, hret, hnh, hcode, hinst⟩ := Y
  have hts : ∀ w ∈ G.Ts, w.before args s = true := S.1.2.2.2.1
  have hpm : e.platform.magicAccessors = ({} : Platform).magicAccessors := by rw [X.admits.platform]
  have hlen : ∀ sig, parseMethodDescriptor mtY.1.desc = some sig → ([] : List Value).length = sig.parameters.length := fun sig hs => by
    rw [hs] at hpd
    exact (Option.some.inj hpd).symm
  have hdc : decode c.code (F0 m pc ls (.ref b :: st)).pc = .ok (.invokespecial idx, 3) := by rw [S.1.1.2.1]; exact hd
  rcases hL with hL | ⟨host, hL⟩
  · obtain ⟨mk, methM, cM, kP, vm₁, hnamed, -, -, -, -, -, -, -, hW₁, hstep⟩ := Steps.initColdArgs (e := e) X.here S.1.1.1 X.warmed hpm S.1.2.1.1 hy1 hy (hts _ hL) (hts _ hinst) (hts _ hcode) (f := F0 m pc ls (.ref b :: st)) rfl (a := b) (argsL := []) (rest := st) hlen rfl hdc
    exact z_after (as := [.ref b]) hd hh hdp hmx hcd hpl hst hM kr kx S hl (X.noted hW₁) hnamed hstep
  · obtain ⟨mk, methM, cM, kP, vm₁, hnamed, -, -, -, -, -, -, -, hW₁, hstep⟩ := Steps.initColdArgsNest (e := e) X.here S.1.1.1 X.warmed hpm S.1.2.1.1 hy1 hy (hts _ hL) (hts _ hinst) (hts _ hcode) (f := F0 m pc ls (.ref b :: st)) rfl (a := b) (argsL := []) (rest := st) hlen rfl hdc
    exact z_after (as := [.ref b]) hd hh hdp hmx hcd hpl hst hM kr kx S hl (X.noted hW₁) hnamed hstep
theorem z_callV0 {b ci N idx : Nat} {T : u_T} {fs : List Value} (hd : decode mt.2.1 pc = .ok (.invokevirtual idx, 3)) (hh : mt.2.2.2.2 = []) (hdp : dY + 1 ≤ d) (Y : z_Yv G mt.1.cls idx mtY 0) (hb : h.2.2 b = some (.inr (ci, fs))) (hcl : G.cl[ci]? = some (mtY.1.cls, T, N)) (hst : (st.map fun v => v.category).sum ≤ 8) (hM : z_C G mtY dY [.ref b] h QY)
    (kr : ∀ v h', QY (.inl v) h' → z_V G mt d (pc + 3) lo (v.toList ++ st) h' Q) (kx : ∀ X h', QY (.inr X) h' → Q (.inr X) h') : z_V G mt d pc lo (.ref b :: st) h Q :=
  z_callV (as := []) hd hh hdp Y rfl hb hcl hst hM kr kx
theorem z_callV1 {x1 : Value} {b ci N idx : Nat} {T : u_T} {fs : List Value} (hd : decode mt.2.1 pc = .ok (.invokevirtual idx, 3)) (hh : mt.2.2.2.2 = []) (hdp : dY + 1 ≤ d) (Y : z_Yv G mt.1.cls idx mtY 1) (hb : h.2.2 b = some (.inr (ci, fs))) (hcl : G.cl[ci]? = some (mtY.1.cls, T, N)) (hst : (st.map fun v => v.category).sum ≤ 8) (hM : z_C G mtY dY [.ref b, x1] h QY)
    (kr : ∀ v h', QY (.inl v) h' → z_V G mt d (pc + 3) lo (v.toList ++ st) h' Q) (kx : ∀ X h', QY (.inr X) h' → Q (.inr X) h') : z_V G mt d pc lo (x1 :: .ref b :: st) h Q :=
  z_callV (as := [x1]) hd hh hdp Y rfl hb hcl hst hM kr kx
theorem z_callV2 {x1 x2 : Value} {b ci N idx : Nat} {T : u_T} {fs : List Value} (hd : decode mt.2.1 pc = .ok (.invokevirtual idx, 3)) (hh : mt.2.2.2.2 = []) (hdp : dY + 1 ≤ d) (Y : z_Yv G mt.1.cls idx mtY 2) (hb : h.2.2 b = some (.inr (ci, fs))) (hcl : G.cl[ci]? = some (mtY.1.cls, T, N)) (hst : (st.map fun v => v.category).sum ≤ 8) (hM : z_C G mtY dY [.ref b, x1, x2] h QY)
    (kr : ∀ v h', QY (.inl v) h' → z_V G mt d (pc + 3) lo (v.toList ++ st) h' Q) (kx : ∀ X h', QY (.inr X) h' → Q (.inr X) h') : z_V G mt d pc lo (x2 :: x1 :: .ref b :: st) h Q :=
  z_callV (as := [x1, x2]) hd hh hdp Y rfl hb hcl hst hM kr kx
theorem z_callV3 {x1 x2 x3 : Value} {b ci N idx : Nat} {T : u_T} {fs : List Value} (hd : decode mt.2.1 pc = .ok (.invokevirtual idx, 3)) (hh : mt.2.2.2.2 = []) (hdp : dY + 1 ≤ d) (Y : z_Yv G mt.1.cls idx mtY 3) (hb : h.2.2 b = some (.inr (ci, fs))) (hcl : G.cl[ci]? = some (mtY.1.cls, T, N)) (hst : (st.map fun v => v.category).sum ≤ 8) (hM : z_C G mtY dY [.ref b, x1, x2, x3] h QY)
    (kr : ∀ v h', QY (.inl v) h' → z_V G mt d (pc + 3) lo (v.toList ++ st) h' Q) (kx : ∀ X h', QY (.inr X) h' → Q (.inr X) h') : z_V G mt d pc lo (x3 :: x2 :: x1 :: .ref b :: st) h Q :=
  z_callV (as := [x1, x2, x3]) hd hh hdp Y rfl hb hcl hst hM kr kx
theorem z_callV4 {x1 x2 x3 x4 : Value} {b ci N idx : Nat} {T : u_T} {fs : List Value} (hd : decode mt.2.1 pc = .ok (.invokevirtual idx, 3)) (hh : mt.2.2.2.2 = []) (hdp : dY + 1 ≤ d) (Y : z_Yv G mt.1.cls idx mtY 4) (hb : h.2.2 b = some (.inr (ci, fs))) (hcl : G.cl[ci]? = some (mtY.1.cls, T, N)) (hst : (st.map fun v => v.category).sum ≤ 8) (hM : z_C G mtY dY [.ref b, x1, x2, x3, x4] h QY)
    (kr : ∀ v h', QY (.inl v) h' → z_V G mt d (pc + 3) lo (v.toList ++ st) h' Q) (kx : ∀ X h', QY (.inr X) h' → Q (.inr X) h') : z_V G mt d pc lo (x4 :: x3 :: x2 :: x1 :: .ref b :: st) h Q :=
  z_callV (as := [x1, x2, x3, x4]) hd hh hdp Y rfl hb hcl hst hM kr kx
theorem z_callV5 {x1 x2 x3 x4 x5 : Value} {b ci N idx : Nat} {T : u_T} {fs : List Value} (hd : decode mt.2.1 pc = .ok (.invokevirtual idx, 3)) (hh : mt.2.2.2.2 = []) (hdp : dY + 1 ≤ d) (Y : z_Yv G mt.1.cls idx mtY 5) (hb : h.2.2 b = some (.inr (ci, fs))) (hcl : G.cl[ci]? = some (mtY.1.cls, T, N)) (hst : (st.map fun v => v.category).sum ≤ 8) (hM : z_C G mtY dY [.ref b, x1, x2, x3, x4, x5] h QY)
    (kr : ∀ v h', QY (.inl v) h' → z_V G mt d (pc + 3) lo (v.toList ++ st) h' Q) (kx : ∀ X h', QY (.inr X) h' → Q (.inr X) h') : z_V G mt d pc lo (x5 :: x4 :: x3 :: x2 :: x1 :: .ref b :: st) h Q :=
  z_callV (as := [x1, x2, x3, x4, x5]) hd hh hdp Y rfl hb hcl hst hM kr kx
theorem z_callS1 {x1 : Value} {idx : Nat} (hd : decode mt.2.1 pc = .ok (.invokestatic idx, 3)) (hh : mt.2.2.2.2 = []) (hdp : dY + 1 ≤ d) (Y : z_Ys G mt.1.cls idx mtY 1) (hst : (st.map fun v => v.category).sum ≤ 8) (hM : z_C G mtY dY [x1] h QY)
    (kr : ∀ v h', QY (.inl v) h' → z_V G mt d (pc + 3) lo (v.toList ++ st) h' Q) (kx : ∀ X h', QY (.inr X) h' → Q (.inr X) h') : z_V G mt d pc lo (x1 :: st) h Q :=
  z_callS (as := [x1]) hd hh hdp Y rfl hst hM kr kx
theorem z_callS2 {x1 x2 : Value} {idx : Nat} (hd : decode mt.2.1 pc = .ok (.invokestatic idx, 3)) (hh : mt.2.2.2.2 = []) (hdp : dY + 1 ≤ d) (Y : z_Ys G mt.1.cls idx mtY 2) (hst : (st.map fun v => v.category).sum ≤ 8) (hM : z_C G mtY dY [x1, x2] h QY)
    (kr : ∀ v h', QY (.inl v) h' → z_V G mt d (pc + 3) lo (v.toList ++ st) h' Q) (kx : ∀ X h', QY (.inr X) h' → Q (.inr X) h') : z_V G mt d pc lo (x2 :: x1 :: st) h Q :=
  z_callS (as := [x1, x2]) hd hh hdp Y rfl hst hM kr kx
theorem z_callS3 {x1 x2 x3 : Value} {idx : Nat} (hd : decode mt.2.1 pc = .ok (.invokestatic idx, 3)) (hh : mt.2.2.2.2 = []) (hdp : dY + 1 ≤ d) (Y : z_Ys G mt.1.cls idx mtY 3) (hst : (st.map fun v => v.category).sum ≤ 8) (hM : z_C G mtY dY [x1, x2, x3] h QY)
    (kr : ∀ v h', QY (.inl v) h' → z_V G mt d (pc + 3) lo (v.toList ++ st) h' Q) (kx : ∀ X h', QY (.inr X) h' → Q (.inr X) h') : z_V G mt d pc lo (x3 :: x2 :: x1 :: st) h Q :=
  z_callS (as := [x1, x2, x3]) hd hh hdp Y rfl hst hM kr kx
theorem z_callS4 {x1 x2 x3 x4 : Value} {idx : Nat} (hd : decode mt.2.1 pc = .ok (.invokestatic idx, 3)) (hh : mt.2.2.2.2 = []) (hdp : dY + 1 ≤ d) (Y : z_Ys G mt.1.cls idx mtY 4) (hst : (st.map fun v => v.category).sum ≤ 8) (hM : z_C G mtY dY [x1, x2, x3, x4] h QY)
    (kr : ∀ v h', QY (.inl v) h' → z_V G mt d (pc + 3) lo (v.toList ++ st) h' Q) (kx : ∀ X h', QY (.inr X) h' → Q (.inr X) h') : z_V G mt d pc lo (x4 :: x3 :: x2 :: x1 :: st) h Q :=
  z_callS (as := [x1, x2, x3, x4]) hd hh hdp Y rfl hst hM kr kx
/-- it answers v and leaves the picture h1; it throws X and leaves a picture that P allows -/
def z_rq (v : Option Value) (h1 : z_H) : z_R → z_H → Prop := fun r h' => r = .inl v ∧ h' = h1
def z_xq (X : String) (P : z_H → Prop) : z_R → z_H → Prop := fun r h' => r = .inr X ∧ P h'
theorem z_callV0v {b ci N idx : Nat} {T : u_T} {fs : List Value} (hd : decode mt.2.1 pc = .ok (.invokevirtual idx, 3)) (hh : mt.2.2.2.2 = []) (hdp : dY + 1 ≤ d) (Y : z_Yv G mt.1.cls idx mtY 0) (hb : h.2.2 b = some (.inr (ci, fs))) (hcl : G.cl[ci]? = some (mtY.1.cls, T, N)) (hst : (st.map fun v => v.category).sum ≤ 8) {h1 : z_H} (hM : z_C G mtY dY [.ref b] h (z_rq none h1)) (kk : z_V G mt d (pc + 3) lo st h1 Q) : z_V G mt d pc lo (.ref b :: st) h Q :=
  z_callV (as := []) hd hh hdp Y rfl hb hcl hst hM (fun v h' q => by obtain ⟨q1, rfl⟩ := q; cases q1; exact kk) (fun X h' q => by obtain ⟨q1, -⟩ := q; cases q1)
theorem z_callV0r {b ci N idx : Nat} {T : u_T} {fs : List Value} (hd : decode mt.2.1 pc = .ok (.invokevirtual idx, 3)) (hh : mt.2.2.2.2 = []) (hdp : dY + 1 ≤ d) (Y : z_Yv G mt.1.cls idx mtY 0) (hb : h.2.2 b = some (.inr (ci, fs))) (hcl : G.cl[ci]? = some (mtY.1.cls, T, N)) (hst : (st.map fun v => v.category).sum ≤ 8) {x : Value} {h1 : z_H} (hM : z_C G mtY dY [.ref b] h (z_rq (some x) h1)) (kk : z_V G mt d (pc + 3) lo (x :: st) h1 Q) : z_V G mt d pc lo (.ref b :: st) h Q :=
  z_callV (as := []) hd hh hdp Y rfl hb hcl hst hM (fun v h' q => by obtain ⟨q1, rfl⟩ := q; cases q1; exact kk) (fun X h' q => by obtain ⟨q1, -⟩ := q; cases q1)
theorem z_callV0x {b ci N idx : Nat} {T : u_T} {fs : List Value} (hd : decode mt.2.1 pc = .ok (.invokevirtual idx, 3)) (hh : mt.2.2.2.2 = []) (hdp : dY + 1 ≤ d) (Y : z_Yv G mt.1.cls idx mtY 0) (hb : h.2.2 b = some (.inr (ci, fs))) (hcl : G.cl[ci]? = some (mtY.1.cls, T, N)) (hst : (st.map fun v => v.category).sum ≤ 8) {Xn : String} {P : z_H → Prop} (hM : z_C G mtY dY [.ref b] h (z_xq Xn P)) (kk : ∀ h', P h' → Q (.inr Xn) h') : z_V G mt d pc lo (.ref b :: st) h Q :=
  z_callV (as := []) hd hh hdp Y rfl hb hcl hst hM (fun v h' q => by obtain ⟨q1, -⟩ := q; cases q1) (fun X h' q => by obtain ⟨q1, q2⟩ := q; cases q1; exact kk h' q2)
theorem z_callV1v {x1 : Value} {b ci N idx : Nat} {T : u_T} {fs : List Value} (hd : decode mt.2.1 pc = .ok (.invokevirtual idx, 3)) (hh : mt.2.2.2.2 = []) (hdp : dY + 1 ≤ d) (Y : z_Yv G mt.1.cls idx mtY 1) (hb : h.2.2 b = some (.inr (ci, fs))) (hcl : G.cl[ci]? = some (mtY.1.cls, T, N)) (hst : (st.map fun v => v.category).sum ≤ 8) {h1 : z_H} (hM : z_C G mtY dY [.ref b, x1] h (z_rq none h1)) (kk : z_V G mt d (pc + 3) lo st h1 Q) : z_V G mt d pc lo (x1 :: .ref b :: st) h Q :=
  z_callV (as := [x1]) hd hh hdp Y rfl hb hcl hst hM (fun v h' q => by obtain ⟨q1, rfl⟩ := q; cases q1; exact kk) (fun X h' q => by obtain ⟨q1, -⟩ := q; cases q1)
theorem z_callV1r {x1 : Value} {b ci N idx : Nat} {T : u_T} {fs : List Value} (hd : decode mt.2.1 pc = .ok (.invokevirtual idx, 3)) (hh : mt.2.2.2.2 = []) (hdp : dY + 1 ≤ d) (Y : z_Yv G mt.1.cls idx mtY 1) (hb : h.2.2 b = some (.inr (ci, fs))) (hcl : G.cl[ci]? = some (mtY.1.cls, T, N)) (hst : (st.map fun v => v.category).sum ≤ 8) {x : Value} {h1 : z_H} (hM : z_C G mtY dY [.ref b, x1] h (z_rq (some x) h1)) (kk : z_V G mt d (pc + 3) lo (x :: st) h1 Q) : z_V G mt d pc lo (x1 :: .ref b :: st) h Q :=
  z_callV (as := [x1]) hd hh hdp Y rfl hb hcl hst hM (fun v h' q => by obtain ⟨q1, rfl⟩ := q; cases q1; exact kk) (fun X h' q => by obtain ⟨q1, -⟩ := q; cases q1)
theorem z_callV1x {x1 : Value} {b ci N idx : Nat} {T : u_T} {fs : List Value} (hd : decode mt.2.1 pc = .ok (.invokevirtual idx, 3)) (hh : mt.2.2.2.2 = []) (hdp : dY + 1 ≤ d) (Y : z_Yv G mt.1.cls idx mtY 1) (hb : h.2.2 b = some (.inr (ci, fs))) (hcl : G.cl[ci]? = some (mtY.1.cls, T, N)) (hst : (st.map fun v => v.category).sum ≤ 8) {Xn : String} {P : z_H → Prop} (hM : z_C G mtY dY [.ref b, x1] h (z_xq Xn P)) (kk : ∀ h', P h' → Q (.inr Xn) h') : z_V G mt d pc lo (x1 :: .ref b :: st) h Q :=
  z_callV (as := [x1]) hd hh hdp Y rfl hb hcl hst hM (fun v h' q => by obtain ⟨q1, -⟩ := q; cases q1) (fun X h' q => by obtain ⟨q1, q2⟩ := q; cases q1; exact kk h' q2)
theorem z_callV2v {x1 x2 : Value} {b ci N idx : Nat} {T : u_T} {fs : List Value} (hd : decode mt.2.1 pc = .ok (.invokevirtual idx, 3)) (hh : mt.2.2.2.2 = []) (hdp : dY + 1 ≤ d) (Y : z_Yv G mt.1.cls idx mtY 2) (hb : h.2.2 b = some (.inr (ci, fs))) (hcl : G.cl[ci]? = some (mtY.1.cls, T, N)) (hst : (st.map fun v => v.category).sum ≤ 8) {h1 : z_H} (hM : z_C G mtY dY [.ref b, x1, x2] h (z_rq none h1)) (kk : z_V G mt d (pc + 3) lo st h1 Q) : z_V G mt d pc lo (x2 :: x1 :: .ref b :: st) h Q :=
  z_callV (as := [x1, x2]) hd hh hdp Y rfl hb hcl hst hM (fun v h' q => by obtain ⟨q1, rfl⟩ := q; cases q1; exact kk) (fun X h' q => by obtain ⟨q1, -⟩ := q; cases q1)
theorem z_callV2r {x1 x2 : Value} {b ci N idx : Nat} {T : u_T} {fs : List Value} (hd : decode mt.2.1 pc = .ok (.invokevirtual idx, 3)) (hh : mt.2.2.2.2 = []) (hdp : dY + 1 ≤ d) (Y : z_Yv G mt.1.cls idx mtY 2) (hb : h.2.2 b = some (.inr (ci, fs))) (hcl : G.cl[ci]? = some (mtY.1.cls, T, N)) (hst : (st.map fun v => v.category).sum ≤ 8) {x : Value} {h1 : z_H} (hM : z_C G mtY dY [.ref b, x1, x2] h (z_rq (some x) h1)) (kk : z_V G mt d (pc + 3) lo (x :: st) h1 Q) : z_V G mt d pc lo (x2 :: x1 :: .ref b :: st) h Q :=
  z_callV (as := [x1, x2]) hd hh hdp Y rfl hb hcl hst hM (fun v h' q => by obtain ⟨q1, rfl⟩ := q; cases q1; exact kk) (fun X h' q => by obtain ⟨q1, -⟩ := q; cases q1)
theorem z_callV2x {x1 x2 : Value} {b ci N idx : Nat} {T : u_T} {fs : List Value} (hd : decode mt.2.1 pc = .ok (.invokevirtual idx, 3)) (hh : mt.2.2.2.2 = []) (hdp : dY + 1 ≤ d) (Y : z_Yv G mt.1.cls idx mtY 2) (hb : h.2.2 b = some (.inr (ci, fs))) (hcl : G.cl[ci]? = some (mtY.1.cls, T, N)) (hst : (st.map fun v => v.category).sum ≤ 8) {Xn : String} {P : z_H → Prop} (hM : z_C G mtY dY [.ref b, x1, x2] h (z_xq Xn P)) (kk : ∀ h', P h' → Q (.inr Xn) h') : z_V G mt d pc lo (x2 :: x1 :: .ref b :: st) h Q :=
  z_callV (as := [x1, x2]) hd hh hdp Y rfl hb hcl hst hM (fun v h' q => by obtain ⟨q1, -⟩ := q; cases q1) (fun X h' q => by obtain ⟨q1, q2⟩ := q; cases q1; exact kk h' q2)
theorem z_callV3v {x1 x2 x3 : Value} {b ci N idx : Nat} {T : u_T} {fs : List Value} (hd : decode mt.2.1 pc = .ok (.invokevirtual idx, 3)) (hh : mt.2.2.2.2 = []) (hdp : dY + 1 ≤ d) (Y : z_Yv G mt.1.cls idx mtY 3) (hb : h.2.2 b = some (.inr (ci, fs))) (hcl : G.cl[ci]? = some (mtY.1.cls, T, N)) (hst : (st.map fun v => v.category).sum ≤ 8) {h1 : z_H} (hM : z_C G mtY dY [.ref b, x1, x2, x3] h (z_rq none h1)) (kk : z_V G mt d (pc + 3) lo st h1 Q) : z_V G mt d pc lo (x3 :: x2 :: x1 :: .ref b :: st) h Q :=
  z_callV (as := [x1, x2, x3]) hd hh hdp Y rfl hb hcl hst hM (fun v h' q => by obtain ⟨q1, rfl⟩ := q; cases q1; exact kk) (fun X h' q => by obtain ⟨q1, -⟩ := q; cases q1)
theorem z_callV3r {x1 x2 x3 : Value} {b ci N idx : Nat} {T : u_T} {fs : List Value} (hd : decode mt.2.1 pc = .ok (.invokevirtual idx, 3)) (hh : mt.2.2.2.2 = []) (hdp : dY + 1 ≤ d) (Y : z_Yv G mt.1.cls idx mtY 3) (hb : h.2.2 b = some (.inr (ci, fs))) (hcl : G.cl[ci]? = some (mtY.1.cls, T, N)) (hst : (st.map fun v => v.category).sum ≤ 8) {x : Value} {h1 : z_H} (hM : z_C G mtY dY [.ref b, x1, x2, x3] h (z_rq (some x) h1)) (kk : z_V G mt d (pc + 3) lo (x :: st) h1 Q) : z_V G mt d pc lo (x3 :: x2 :: x1 :: .ref b :: st) h Q :=
  z_callV (as := [x1, x2, x3]) hd hh hdp Y rfl hb hcl hst hM (fun v h' q => by obtain ⟨q1, rfl⟩ := q; cases q1; exact kk) (fun X h' q => by obtain ⟨q1, -⟩ := q; cases q1)
theorem z_callV3x {x1 x2 x3 : Value} {b ci N idx : Nat} {T : u_T} {fs : List Value} (hd : decode mt.2.1 pc = .ok (.invokevirtual idx, 3)) (hh : mt.2.2.2.2 = []) (hdp : dY + 1 ≤ d) (Y : z_Yv G mt.1.cls idx mtY 3) (hb : h.2.2 b = some (.inr (ci, fs))) (hcl : G.cl[ci]? = some (mtY.1.cls, T, N)) (hst : (st.map fun v => v.category).sum ≤ 8) {Xn : String} {P : z_H → Prop} (hM : z_C G mtY dY [.ref b, x1, x2, x3] h (z_xq Xn P)) (kk : ∀ h', P h' → Q (.inr Xn) h') : z_V G mt d pc lo (x3 :: x2 :: x1 :: .ref b :: st) h Q :=
  z_callV (as := [x1, x2, x3]) hd hh hdp Y rfl hb hcl hst hM (fun v h' q => by obtain ⟨q1, -⟩ := q; cases q1) (fun X h' q => by obtain ⟨q1, q2⟩ := q; cases q1; exact kk h' q2)
theorem z_callV4v {x1 x2 x3 x4 : Value} {b ci N idx : Nat} {T : u_T} {fs : List Value} (hd : decode mt.2.1 pc = .ok (.invokevirtual idx, 3)) (hh : mt.2.2.2.2 = []) (hdp : dY + 1 ≤ d) (Y : z_Yv G mt.1.cls idx mtY 4) (hb : h.2.2 b = some (.inr (ci, fs))) (hcl : G.cl[ci]? = some (mtY.1.cls, T, N)) (hst : (st.map fun v => v.category).sum ≤ 8) {h1 : z_H} (hM : z_C G mtY dY [.ref b, x1, x2, x3, x4] h (z_rq none h1)) (kk : z_V G mt d (pc + 3) lo st h1 Q) : z_V G mt d pc lo (x4 :: x3 :: x2 :: x1 :: .ref b :: st) h Q :=
  z_callV (as := [x1, x2, x3, x4]) hd hh hdp Y rfl hb hcl hst hM (fun v h' q => by obtain ⟨q1, rfl⟩ := q; cases q1; exact kk) (fun X h' q => by obtain ⟨q1, -⟩ := q; cases q1)
theorem z_callV4r {x1 x2 x3 x4 : Value} {b ci N idx : Nat} {T : u_T} {fs : List Value} (hd : decode mt.2.1 pc = .ok (.invokevirtual idx, 3)) (hh : mt.2.2.2.2 = []) (hdp : dY + 1 ≤ d) (Y : z_Yv G mt.1.cls idx mtY 4) (hb : h.2.2 b = some (.inr (ci, fs))) (hcl : G.cl[ci]? = some (mtY.1.cls, T, N)) (hst : (st.map fun v => v.category).sum ≤ 8) {x : Value} {h1 : z_H} (hM : z_C G mtY dY [.ref b, x1, x2, x3, x4] h (z_rq (some x) h1)) (kk : z_V G mt d (pc + 3) lo (x :: st) h1 Q) : z_V G mt d pc lo (x4 :: x3 :: x2 :: x1 :: .ref b :: st) h Q :=
  z_callV (as := [x1, x2, x3, x4]) hd hh hdp Y rfl hb hcl hst hM (fun v h' q => by obtain ⟨q1, rfl⟩ := q; cases q1; exact kk) (fun X h' q => by obtain ⟨q1, -⟩ := q; cases q1)
theorem z_callV4x {x1 x2 x3 x4 : Value} {b ci N idx : Nat} {T : u_T} {fs : List Value} (hd : decode mt.2.1 pc = .ok (.invokevirtual idx, 3)) (hh : mt.2.2.2.2 = []) (hdp : dY + 1 ≤ d) (Y : z_Yv G mt.1.cls idx mtY 4) (hb : h.2.2 b = some (.inr (ci, fs))) (hcl : G.cl[ci]? = some (mtY.1.cls, T, N)) (hst : (st.map fun v => v.category).sum ≤ 8) {Xn : String} {P : z_H → Prop} (hM : z_C G mtY dY [.ref b, x1, x2, x3, x4] h (z_xq Xn P)) (kk : ∀ h', P h' → Q (.inr Xn) h') : z_V G mt d pc lo (x4 :: x3 :: x2 :: x1 :: .ref b :: st) h Q :=
  z_callV (as := [x1, x2, x3, x4]) hd hh hdp Y rfl hb hcl hst hM (fun v h' q => by obtain ⟨q1, -⟩ := q; cases q1) (fun X h' q => by obtain ⟨q1, q2⟩ := q; cases q1; exact kk h' q2)
theorem z_callV5v {x1 x2 x3 x4 x5 : Value} {b ci N idx : Nat} {T : u_T} {fs : List Value} (hd : decode mt.2.1 pc = .ok (.invokevirtual idx, 3)) (hh : mt.2.2.2.2 = []) (hdp : dY + 1 ≤ d) (Y : z_Yv G mt.1.cls idx mtY 5) (hb : h.2.2 b = some (.inr (ci, fs))) (hcl : G.cl[ci]? = some (mtY.1.cls, T, N)) (hst : (st.map fun v => v.category).sum ≤ 8) {h1 : z_H} (hM : z_C G mtY dY [.ref b, x1, x2, x3, x4, x5] h (z_rq none h1)) (kk : z_V G mt d (pc + 3) lo st h1 Q) : z_V G mt d pc lo (x5 :: x4 :: x3 :: x2 :: x1 :: .ref b :: st) h Q :=
  z_callV (as := [x1, x2, x3, x4, x5]) hd hh hdp Y rfl hb hcl hst hM (fun v h' q => by obtain ⟨q1, rfl⟩ := q; cases q1; exact kk) (fun X h' q => by obtain ⟨q1, -⟩ := q; cases q1)
theorem z_callV5r {x1 x2 x3 x4 x5 : Value} {b ci N idx : Nat} {T : u_T} {fs : List Value} (hd : decode mt.2.1 pc = .ok (.invokevirtual idx, 3)) (hh : mt.2.2.2.2 = []) (hdp : dY + 1 ≤ d) (Y : z_Yv G mt.1.cls idx mtY 5) (hb : h.2.2 b = some (.inr (ci, fs))) (hcl : G.cl[ci]? = some (mtY.1.cls, T, N)) (hst : (st.map fun v => v.category).sum ≤ 8) {x : Value} {h1 : z_H} (hM : z_C G mtY dY [.ref b, x1, x2, x3, x4, x5] h (z_rq (some x) h1)) (kk : z_V G mt d (pc + 3) lo (x :: st) h1 Q) : z_V G mt d pc lo (x5 :: x4 :: x3 :: x2 :: x1 :: .ref b :: st) h Q :=
  z_callV (as := [x1, x2, x3, x4, x5]) hd hh hdp Y rfl hb hcl hst hM (fun v h' q => by obtain ⟨q1, rfl⟩ := q; cases q1; exact kk) (fun X h' q => by obtain ⟨q1, -⟩ := q; cases q1)
theorem z_callV5x {x1 x2 x3 x4 x5 : Value} {b ci N idx : Nat} {T : u_T} {fs : List Value} (hd : decode mt.2.1 pc = .ok (.invokevirtual idx, 3)) (hh : mt.2.2.2.2 = []) (hdp : dY + 1 ≤ d) (Y : z_Yv G mt.1.cls idx mtY 5) (hb : h.2.2 b = some (.inr (ci, fs))) (hcl : G.cl[ci]? = some (mtY.1.cls, T, N)) (hst : (st.map fun v => v.category).sum ≤ 8) {Xn : String} {P : z_H → Prop} (hM : z_C G mtY dY [.ref b, x1, x2, x3, x4, x5] h (z_xq Xn P)) (kk : ∀ h', P h' → Q (.inr Xn) h') : z_V G mt d pc lo (x5 :: x4 :: x3 :: x2 :: x1 :: .ref b :: st) h Q :=
  z_callV (as := [x1, x2, x3, x4, x5]) hd hh hdp Y rfl hb hcl hst hM (fun v h' q => by obtain ⟨q1, -⟩ := q; cases q1) (fun X h' q => by obtain ⟨q1, q2⟩ := q; cases q1; exact kk h' q2)
theorem z_callS1v {x1 : Value} {idx : Nat} (hd : decode mt.2.1 pc = .ok (.invokestatic idx, 3)) (hh : mt.2.2.2.2 = []) (hdp : dY + 1 ≤ d) (Y : z_Ys G mt.1.cls idx mtY 1) (hst : (st.map fun v => v.category).sum ≤ 8) {h1 : z_H} (hM : z_C G mtY dY [x1] h (z_rq none h1)) (kk : z_V G mt d (pc + 3) lo st h1 Q) : z_V G mt d pc lo (x1 :: st) h Q :=
  z_callS (as := [x1]) hd hh hdp Y rfl hst hM (fun v h' q => by obtain ⟨q1, rfl⟩ := q; cases q1; exact kk) (fun X h' q => by obtain ⟨q1, -⟩ := q; cases q1)
theorem z_callS1r {x1 : Value} {idx : Nat} (hd : decode mt.2.1 pc = .ok (.invokestatic idx, 3)) (hh : mt.2.2.2.2 = []) (hdp : dY + 1 ≤ d) (Y : z_Ys G mt.1.cls idx mtY 1) (hst : (st.map fun v => v.category).sum ≤ 8) {x : Value} {h1 : z_H} (hM : z_C G mtY dY [x1] h (z_rq (some x) h1)) (kk : z_V G mt d (pc + 3) lo (x :: st) h1 Q) : z_V G mt d pc lo (x1 :: st) h Q :=
  z_callS (as := [x1]) hd hh hdp Y rfl hst hM (fun v h' q => by obtain ⟨q1, rfl⟩ := q; cases q1; exact kk) (fun X h' q => by obtain ⟨q1, -⟩ := q; cases q1)
theorem z_callS1x {x1 : Value} {idx : Nat} (hd : decode mt.2.1 pc = .ok (.invokestatic idx, 3)) (hh : mt.2.2.2.2 = []) (hdp : dY + 1 ≤ d) (Y : z_Ys G mt.1.cls idx mtY 1) (hst : (st.map fun v => v.category).sum ≤ 8) {Xn : String} {P : z_H → Prop} (hM : z_C G mtY dY [x1] h (z_xq Xn P)) (kk : ∀ h', P h' → Q (.inr Xn) h') : z_V G mt d pc lo (x1 :: st) h Q :=
  z_callS (as := [x1]) hd hh hdp Y rfl hst hM (fun v h' q => by obtain ⟨q1, -⟩ := q; cases q1) (fun X h' q => by obtain ⟨q1, q2⟩ := q; cases q1; exact kk h' q2)
theorem z_callS2v {x1 x2 : Value} {idx : Nat} (hd : decode mt.2.1 pc = .ok (.invokestatic idx, 3)) (hh : mt.2.2.2.2 = []) (hdp : dY + 1 ≤ d) (Y : z_Ys G mt.1.cls idx mtY 2) (hst : (st.map fun v => v.category).sum ≤ 8) {h1 : z_H} (hM : z_C G mtY dY [x1, x2] h (z_rq none h1)) (kk : z_V G mt d (pc + 3) lo st h1 Q) : z_V G mt d pc lo (x2 :: x1 :: st) h Q :=
  z_callS (as := [x1, x2]) hd hh hdp Y rfl hst hM (fun v h' q => by obtain ⟨q1, rfl⟩ := q; cases q1; exact kk) (fun X h' q => by obtain ⟨q1, -⟩ := q; cases q1)
theorem z_callS2r {x1 x2 : Value} {idx : Nat} (hd : decode mt.2.1 pc = .ok (.invokestatic idx, 3)) (hh : mt.2.2.2.2 = []) (hdp : dY + 1 ≤ d) (Y : z_Ys G mt.1.cls idx mtY 2) (hst : (st.map fun v => v.category).sum ≤ 8) {x : Value} {h1 : z_H} (hM : z_C G mtY dY [x1, x2] h (z_rq (some x) h1)) (kk : z_V G mt d (pc + 3) lo (x :: st) h1 Q) : z_V G mt d pc lo (x2 :: x1 :: st) h Q :=
  z_callS (as := [x1, x2]) hd hh hdp Y rfl hst hM (fun v h' q => by obtain ⟨q1, rfl⟩ := q; cases q1; exact kk) (fun X h' q => by obtain ⟨q1, -⟩ := q; cases q1)
theorem z_callS2x {x1 x2 : Value} {idx : Nat} (hd : decode mt.2.1 pc = .ok (.invokestatic idx, 3)) (hh : mt.2.2.2.2 = []) (hdp : dY + 1 ≤ d) (Y : z_Ys G mt.1.cls idx mtY 2) (hst : (st.map fun v => v.category).sum ≤ 8) {Xn : String} {P : z_H → Prop} (hM : z_C G mtY dY [x1, x2] h (z_xq Xn P)) (kk : ∀ h', P h' → Q (.inr Xn) h') : z_V G mt d pc lo (x2 :: x1 :: st) h Q :=
  z_callS (as := [x1, x2]) hd hh hdp Y rfl hst hM (fun v h' q => by obtain ⟨q1, -⟩ := q; cases q1) (fun X h' q => by obtain ⟨q1, q2⟩ := q; cases q1; exact kk h' q2)
theorem z_callS3v {x1 x2 x3 : Value} {idx : Nat} (hd : decode mt.2.1 pc = .ok (.invokestatic idx, 3)) (hh : mt.2.2.2.2 = []) (hdp : dY + 1 ≤ d) (Y : z_Ys G mt.1.cls idx mtY 3) (hst : (st.map fun v => v.category).sum ≤ 8) {h1 : z_H} (hM : z_C G mtY dY [x1, x2, x3] h (z_rq none h1)) (kk : z_V G mt d (pc + 3) lo st h1 Q) : z_V G mt d pc lo (x3 :: x2 :: x1 :: st) h Q :=
  z_callS (as := [x1, x2, x3]) hd hh hdp Y rfl hst hM (fun v h' q => by obtain ⟨q1, rfl⟩ := q; cases q1; exact kk) (fun X h' q => by obtain ⟨q1, -⟩ := q; cases q1)
theorem z_callS3r {x1 x2 x3 : Value} {idx : Nat} (hd : decode mt.2.1 pc = .ok (.invokestatic idx, 3)) (hh : mt.2.2.2.2 = []) (hdp : dY + 1 ≤ d) (Y : z_Ys G mt.1.cls idx mtY 3) (hst : (st.map fun v => v.category).sum ≤ 8) {x : Value} {h1 : z_H} (hM : z_C G mtY dY [x1, x2, x3] h (z_rq (some x) h1)) (kk : z_V G mt d (pc + 3) lo (x :: st) h1 Q) : z_V G mt d pc lo (x3 :: x2 :: x1 :: st) h Q :=
  z_callS (as := [x1, x2, x3]) hd hh hdp Y rfl hst hM (fun v h' q => by obtain ⟨q1, rfl⟩ := q; cases q1; exact kk) (fun X h' q => by obtain ⟨q1, -⟩ := q; cases q1)
theorem z_callS3x {x1 x2 x3 : Value} {idx : Nat} (hd : decode mt.2.1 pc = .ok (.invokestatic idx, 3)) (hh : mt.2.2.2.2 = []) (hdp : dY + 1 ≤ d) (Y : z_Ys G mt.1.cls idx mtY 3) (hst : (st.map fun v => v.category).sum ≤ 8) {Xn : String} {P : z_H → Prop} (hM : z_C G mtY dY [x1, x2, x3] h (z_xq Xn P)) (kk : ∀ h', P h' → Q (.inr Xn) h') : z_V G mt d pc lo (x3 :: x2 :: x1 :: st) h Q :=
  z_callS (as := [x1, x2, x3]) hd hh hdp Y rfl hst hM (fun v h' q => by obtain ⟨q1, -⟩ := q; cases q1) (fun X h' q => by obtain ⟨q1, q2⟩ := q; cases q1; exact kk h' q2)
theorem z_callS4v {x1 x2 x3 x4 : Value} {idx : Nat} (hd : decode mt.2.1 pc = .ok (.invokestatic idx, 3)) (hh : mt.2.2.2.2 = []) (hdp : dY + 1 ≤ d) (Y : z_Ys G mt.1.cls idx mtY 4) (hst : (st.map fun v => v.category).sum ≤ 8) {h1 : z_H} (hM : z_C G mtY dY [x1, x2, x3, x4] h (z_rq none h1)) (kk : z_V G mt d (pc + 3) lo st h1 Q) : z_V G mt d pc lo (x4 :: x3 :: x2 :: x1 :: st) h Q :=
  z_callS (as := [x1, x2, x3, x4]) hd hh hdp Y rfl hst hM (fun v h' q => by obtain ⟨q1, rfl⟩ := q; cases q1; exact kk) (fun X h' q => by obtain ⟨q1, -⟩ := q; cases q1)
theorem z_callS4r {x1 x2 x3 x4 : Value} {idx : Nat} (hd : decode mt.2.1 pc = .ok (.invokestatic idx, 3)) (hh : mt.2.2.2.2 = []) (hdp : dY + 1 ≤ d) (Y : z_Ys G mt.1.cls idx mtY 4) (hst : (st.map fun v => v.category).sum ≤ 8) {x : Value} {h1 : z_H} (hM : z_C G mtY dY [x1, x2, x3, x4] h (z_rq (some x) h1)) (kk : z_V G mt d (pc + 3) lo (x :: st) h1 Q) : z_V G mt d pc lo (x4 :: x3 :: x2 :: x1 :: st) h Q :=
  z_callS (as := [x1, x2, x3, x4]) hd hh hdp Y rfl hst hM (fun v h' q => by obtain ⟨q1, rfl⟩ := q; cases q1; exact kk) (fun X h' q => by obtain ⟨q1, -⟩ := q; cases q1)
theorem z_callS4x {x1 x2 x3 x4 : Value} {idx : Nat} (hd : decode mt.2.1 pc = .ok (.invokestatic idx, 3)) (hh : mt.2.2.2.2 = []) (hdp : dY + 1 ≤ d) (Y : z_Ys G mt.1.cls idx mtY 4) (hst : (st.map fun v => v.category).sum ≤ 8) {Xn : String} {P : z_H → Prop} (hM : z_C G mtY dY [x1, x2, x3, x4] h (z_xq Xn P)) (kk : ∀ h', P h' → Q (.inr Xn) h') : z_V G mt d pc lo (x4 :: x3 :: x2 :: x1 :: st) h Q :=
  z_callS (as := [x1, x2, x3, x4]) hd hh hdp Y rfl hst hM (fun v h' q => by obtain ⟨q1, -⟩ := q; cases q1) (fun X h' q => by obtain ⟨q1, q2⟩ := q; cases q1; exact kk h' q2)
theorem z_callIv {b idx : Nat} (hd : decode mt.2.1 pc = .ok (.invokespecial idx, 3)) (hh : mt.2.2.2.2 = []) (hdp : dY + 1 ≤ d) (Y : z_Yi G mt.1.cls idx mtY) (hst : (st.map fun v => v.category).sum ≤ 8) {h1 : z_H} (hM : z_C G mtY dY [.ref b] h (z_rq none h1)) (kk : z_V G mt d (pc + 3) lo st h1 Q) : z_V G mt d pc lo (.ref b :: st) h Q :=
  z_callI hd hh hdp Y hst hM (fun v h' q => by obtain ⟨q1, rfl⟩ := q; cases q1; exact kk) (fun X h' q => by obtain ⟨q1, -⟩ := q; cases q1)
end ZK
end
section
/-! a new exception is thrown out of the method -/
section ZT
variable {p : Program} {l : Launch} {e : Env} {R : Room} {s : State} {m : MethodId} {args : Array Value} {below : List Frame} {meth : Method} {c : Code} {T : State} {locs : List Loc} {cells slots : Nat}
/-- the walk as if it began here -/
theorem z_rebase (X : Stand p l e R s m args below meth c T locs cells slots) {kc ks : Nat} (hc : cells + kc ≤ R.cells) (hs : slots + ks ≤ R.slots) :
    Stand p l e { frames := R.frames, cells := kc, slots := ks, locals := R.locals } (T.setFrames (.invoking m args :: below)) m args below meth c T [] 0 0 := by
  obtain ⟨g₀, hfr⟩ := X.frames_eq
  have hcur : T.cur < T.threads.size := State.cur_lt_of_frames hfr
  have hF : (T.setFrames (.invoking m args :: below)).frames = .invoking m args :: below := State.frames_setFrames _ hcur
  have hme : ∀ k, T.vm.method? k = s.vm.method? k := fun k => by rw [X.warmed.alike.method?]
  refine ⟨X.admits, X.cas, X.clock, hF, ?_, ?_, X.method', X.code, X.here, X.tail, State.WarmedH.refl (T.setFrames (.invoking m args :: below)), (State.stackLimits_setFrames _ _ _).symm, (State.stackBytes_setFrames _ _).symm, ?_⟩
  · have h0 := X.room
    have h1 := X.heapSize
    have h2 := X.used
    have h3 := X.book
    simp only [State.hasRoom, Bool.and_eq_true, decide_eq_true_eq] at h0 ⊢
    rw [State.localsInUse_invoking X.frames X.method X.code, X.frames] at h0
    rw [State.localsInUse_invoking hF X.method' X.code, hF, State.stackLimits_setFrames, State.stackBytes_setFrames, X.limits, X.bytes]
    obtain ⟨⟨⟨⟨a1, a2⟩, a3⟩, a4⟩, a5⟩ := h0
    refine ⟨⟨⟨⟨a1, a2⟩, ?_⟩, ?_⟩, h3⟩
    · show T.heap.size + kc ≤ _
      omega
    · show T.slotsUsed + ks ≤ _
      omega
  · have h0 := X.hears
    rcases below with _ | ⟨y, r⟩
    · simpa [State.hears, hme] using h0
    · cases y <;> first | rfl | (simpa [State.hears, State.code?_eq, hme] using h0)
  · obtain ⟨th, hth, -⟩ := State.frames_cons hF
    have h1 := (State.sameButNew.refl (T.setFrames (.invoking m args :: below)) hth).setFrames T.frames (State.cur_lt_of_frames hF)
    obtain ⟨th', hth', -⟩ := State.frames_cons hfr
    rw [State.setFrames_setFrames, State.setFrames_self hth'] at h1
    exact h1
theorem z_kept {s' t : State} {k n : Nat} (h : s'.sameButNew t [] k n) {a : Nat} {cell : Cell} (hc : s'.heap[a]? = some cell) : t.heap[a]? = some cell := by
  obtain ⟨c', h1, h2, h3, h4⟩ := h.2.2.2.2.2 a cell hc
  have h5 : c'.slots = cell.slots := by
    apply Array.ext_getElem?
    intro i
    exact h4 i (by simp)
  rw [h5] at h2
  rw [h1, h2]
end ZT
/-- a word that doesn't speak of the heap -/
def z_hp : Cond → Bool
  | .isRef _ => false
  | .laysStatic .. => false
  | _ => true
/-- the words of a new exception with no message, but those of the heap -/
def z_thr (own : String) (ix ic : Nat) (X : String) : List Cond :=
  [.classLink own ix X, .initialized X] ++ (Bundle.ownAtoms0 own ic X ["java/lang/RuntimeException", "java/lang/Exception"]).filter z_hp
section ZU
variable {G : z_G} {mt : z_M} {d pc : Nat} {lo : List (Nat × Value)} {st : List Value} {h : z_H} {Q : z_R → z_H → Prop}
set_option maxHeartbeats 1000000 in
theorem z_throw {ix ic : Nat} {Xn : String} (hd0 : decode mt.2.1 pc = .ok (.new ix, 3)) (hd3 : decode mt.2.1 (pc + 3) = .ok (.dup, 1)) (hd4 : decode mt.2.1 (pc + 4) = .ok (.invokespecial ic, 3)) (hd7 : decode mt.2.1 (pc + 7) = .ok (.athrow, 1)) (hh : mt.2.2.2.2 = [])
    (hfit : Bundle.fit Xn = true) (hws : ∀ w ∈ z_thr mt.1.cls ix ic Xn, w ∈ G.Ts) (hc : h.1 + 1 ≤ G.b0 + G.cc) (hs : h.2.1 + 6 ≤ G.ss) (hst : (st.map fun v => v.category).sum ≤ 8) (hq : Q (.inr Xn) (h.1 + 1, h.2.1 + 6, h.2.2)) : z_V G mt d pc lo st h Q := by
  intro p e s m args below meth c R ss0 H locs ls S hl T hT X
  subst hT
  have hlocks : meth.locks = false := S.1.2.1.2.1
  have hts : ∀ w ∈ G.Ts, w.before args s = true := S.1.2.2.2.1
  have hmv : ∀ w ∈ G.Ts, z_mv w = true := S.1.2.2.2.2.1
  obtain ⟨S1, ⟨r1, r2, r3, r4⟩, ⟨Ra, ⟨ws, hP, hD, hcov⟩, Rz1, Rz2, Rx, Rb⟩, S4, s5a, s5b, s5c, s5d⟩ := id S
  have X' := z_rebase X (kc := 1) (ks := 6) (by omega) (by omega)
  have hal : s.vm.Alike T.vm := X.warmed.alike
  have hW0 : s.WarmedH (T.setFrames (.invoking m args :: below)).vm := X.warmed
  have hw : ∀ w ∈ z_thr mt.1.cls ix ic Xn, w.before args (T.setFrames (.invoking m args :: below)) = true := fun w hm => z_move (hmv w (hws w hm)) hW0 (hts w (hws w hm))
  have hat : ∀ w ∈ Bundle.ownAtoms0 mt.1.cls ic Xn ["java/lang/RuntimeException", "java/lang/Exception"], w.before args (T.setFrames (.invoking m args :: below)) = true := by
    intro w hm
    by_cases hr : z_hp w = true
    · exact hw w (List.mem_append_right _ (List.mem_filter.mpr ⟨hm, hr⟩))
    · have z1 := (Rz1.moved (U := T.setFrames (.invoking m args :: below)) hal)
      have z2 := (Rz2.moved (U := T.setFrames (.invoking m args :: below)) hal)
      simp only [Bundle.ownAtoms0, Bundle.throwableAtoms, Bundle.chain0Atoms, Bundle.passAtoms, List.mem_append, List.mem_cons, List.not_mem_nil, or_false] at hm
      rcases hm with (hm | hm) | hm
      · rcases hm with rfl | rfl | rfl | rfl | rfl | rfl | rfl | rfl | rfl | rfl | rfl | rfl | rfl | rfl | rfl | rfl | rfl | rfl | rfl | rfl | rfl | rfl | rfl | rfl
        all_goals first | exact absurd rfl hr | exact z1.lays args | exact z2.lays args
      · rcases hm with (rfl | rfl | rfl | rfl | rfl) | (rfl | rfl | rfl | rfl | rfl) | (rfl | rfl | rfl | rfl | rfl) <;> exact absurd rfl hr
      · rcases hm with rfl | rfl | rfl | rfl | rfl | rfl | rfl | rfl | rfl | rfl | rfl | rfl | rfl | rfl
        all_goals first | exact absurd rfl hr | exact z1.isRef args | exact z2.isRef args
  have hown : (T.setFrames (.invoking m args :: below)).vm.findClass mt.1.cls = some m.cls := by
    show T.vm.findClass mt.1.cls = some m.cls
    rw [hal.findClass]
    exact S1.2.1.1
  have hins : (Cond.instantiable Xn 6).before args (T.setFrames (.invoking m args :: below)) = true := hat _ (by simp [Bundle.ownAtoms0])
  have hx : p.tables.exec = Jvm.exec := S1.1.1
  have hb : c.code = mt.2.1 := S1.1.2.1
  have htr : e.platform.stackTraces = false := S1.2.2.2.2.2 e X.admits
  have hW : W p G.l e { frames := R.frames, cells := 1, slots := 6, locals := R.locals } (T.setFrames (.invoking m args :: below)) m args below meth c T.heap [] 0 0
      (fun U => U.status = .running ∧ Ended U below (.threw T.heap.size) ∧ (T.setFrames (.invoking m args :: below)).WarmedH U.vm ∧ (T.setFrames (.invoking m args :: below)).sameButNew ({ U with vm := (T.setFrames (.invoking m args :: below)).vm } : State) [] 1 6 ∧
        ∃ ce, U.heap[T.heap.size]? = some ce ∧ ce.vm = .none ∧ (T.setFrames (.invoking m args :: below)).vm.findClass Xn = some ce.cls) (F0 m pc ls st) := by
    refine W.newc hx hb hown (hw _ (by simp [z_thr])) hins (hw _ (by simp [z_thr])) rfl hd0 (Nat.le_refl _) (Nat.le_refl _) fun cC kC h1 h2 h3 h4 => ?_
    refine lv_dup (pc := pc + 3) hx hb hd3 rfl ?_
    intro T2 hT2 X2
    obtain ⟨U, u1, u2, u3, u4, u5, ce, u6, u7⟩ := X2.ctorThrow0 hx htr (own := mt.1.cls) (cls := Xn) (names := ["java/lang/RuntimeException", "java/lang/Exception"]) (ic := ic) hown hfit (by decide) hat (fun x hx => by cases hx)
      (a := T.heap.size) h1 h2 (by rw [hT2]; simp [freshCell]) (Nat.le_refl _) (g := F0 m (pc + 3 + 1) ls (.ref T.heap.size :: .ref T.heap.size :: st)) rfl (hl.1.trans S1.1.2.2.1.symm) rfl rfl (rest := st) rfl (by rw [hb]; exact hd4) (by rw [hb]; exact hd7) (z_noh (S1.2.1.2.2.2.trans hh) _) (by show 2 + 3 < R.frames; omega) (by show 2 * 0 + (1 + (st.map fun v => v.category).sum) + (13 * (2 + 1) + 41) ≤ R.locals; omega)
    exact ⟨U, u1, u2, u3, u4, u5, ce, u6, u7.vm, u7.cls⟩
  obtain ⟨U, a1, u2, u3, u4, u5, ce, u6, u7, u8⟩ := hW T rfl X'
  have hT1 : T.sameButNew ({ U with vm := T.vm } : State) [] 1 6 := by
    obtain ⟨e2, q⟩ := u5
    refine ⟨?_, q⟩
    rw [State.setFrames_setFrames] at e2
    exact e2
  have hkeep : ∀ (a : Nat) (cell : Cell), T.heap[a]? = some cell → U.heap[a]? = some cell := fun a cell hcell => z_kept (t := ({ U with vm := T.vm } : State)) hT1 hcell
  have hzU : U.heap.size = h.1 + 1 := by
    have q1 : U.heap.size ≤ T.heap.size + 1 := hT1.2.2.1
    have q2 := (Array.getElem?_eq_some_iff.mp u6).1
    omega
  have hsm : s.sameButNew ({ U with vm := s.vm } : State) locs (h.1 + 1 - s.heap.size) (h.2.1 + 6 - ss0) := by
    have h1 := X.same.trans (hT1.setVm s.vm)
    rw [List.append_nil, show h.1 - s.heap.size + 1 = h.1 + 1 - s.heap.size by omega, show h.2.1 - ss0 + 6 = h.2.1 + 6 - ss0 by omega] at h1
    exact h1
  have hko : ∀ q : Nat, q < T.heap.size → U.heap[q]? = T.heap[q]? := fun q hq => by
    have e1 : T.heap[q]? = some T.heap[q] := Array.getElem?_eq_getElem hq
    rw [e1]
    exact hkeep q _ e1
  refine ⟨U, a1, .threw T.heap.size, .inr Xn, (h.1 + 1, h.2.1 + 6, h.2.2), hq, u2, u3, State.WarmedH.trans X.warmed u4, ⟨locs, hsm, S4.1.2.2⟩, ⟨hzU, ⟨ws, hP.kept (fun k x hx => hko x.1 ((hP k x hx).lt)), hD, hcov⟩, Rz1.kept (fun a ha => hko a (by have := S4.2; have := S4.1.1; omega)), Rz2.kept (fun a ha => hko a (by have := S4.2; have := S4.1.1; omega)), Rx.kept (hko _ (by have := S4.2; have := S4.1.1; omega)), Rb⟩, fun q hq2 => ?_, ⟨by show s.heap.size ≤ h.1 + 1; omega, by show ss0 ≤ h.2.1 + 6; omega, hc, hs⟩, T.heap.size, ce, rfl, u6, u7, ?_⟩
  · have hq3 : q < s.heap.size := Nat.lt_of_lt_of_le hq2 S4.2
    rw [hko q (Nat.lt_of_lt_of_le hq3 S4.1.1)]
    exact S4.1.2.1 q hq3 (Nat.not_le.mpr hq2)
  · rw [← hal.findClass]
    exact u8
end ZU
end
section
/-! rows as lists of numbers: what the class and the reference both do to them -/
/-- a number that has two parts -/
def p_two (v : Nat) : Bool := v == 2 || v == 3 || v == 4
/-- how many numbers the next k terms take -/
def p_end : Nat → List Nat → Nat
  | _, [] => 0
  | 0, _ :: _ => 0
  | k + 1, v :: l => p_end (if p_two v = true then k + 2 else k) l + 1
/-- the depths that are awaited behind a number at depth d -/
def p_aw (v d : Nat) (S : List Nat) : List Nat := if p_two v = true then d :: (if v = 2 then d else d + 1) :: S else S
/-- the term with k added to the variables that it doesn't bind -/
def p_lift (k : Nat) : List Nat → List Nat → List Nat
  | _, [] => []
  | [], _ :: _ => []
  | d :: S, v :: l => (if 100 + d ≤ v then v + k else v) :: p_lift k (p_aw v d S) l
/-- the body with the term a put for variable 0 -/
def p_put (a : List Nat) : List Nat → List Nat → List Nat
  | _, [] => []
  | [], _ :: _ => []
  | d :: S, v :: l => (if v = 100 + d then p_lift d [0] a else if 100 + d < v then [v - 1] else [v]) ++ p_put a (p_aw v d S) l
/-- the right side with the terms g j put for the n variables -/
def p_res (n : Nat) (g : Nat → List Nat) : List Nat → List Nat → List Nat
  | _, [] => []
  | [], _ :: _ => []
  | d :: S, v :: l => (if 100 + d ≤ v ∧ v < 100 + d + n then p_lift d [0] (g (v - 100 - d)) else [v]) ++ p_res n g (p_aw v d S) l
/-- does the pattern match at a place of the row; where the variables' terms begin -/
def p_match (n : Nat) (x : List Nat) : List Nat → Nat → (Nat → Nat) → Bool × (Nat → Nat)
  | [], _, g => (true, g)
  | v :: q, i, g => if 100 ≤ v ∧ v < 100 + n then p_match n x q (i + p_end 1 (x.drop i)) (va_up g (v - 100) i) else if x[i]? = some v then p_match n x q (i + 1) g else (false, g)
theorem p_end_nil (k : Nat) : p_end k [] = 0 := by cases k <;> rfl
theorem p_end_zero (l : List Nat) : p_end 0 l = 0 := by cases l <;> rfl
theorem p_end_le : ∀ (l : List Nat) (k : Nat), p_end k l ≤ l.length
  | [], k => by rw [p_end_nil]; exact Nat.le_refl _
  | v :: l, 0 => Nat.zero_le _
  | v :: l, k + 1 => by
    show p_end _ l + 1 ≤ l.length + 1
    exact Nat.succ_le_succ (p_end_le l _)
theorem p_lift_nil (k : Nat) (S : List Nat) : p_lift k S [] = [] := by cases S <;> rfl
theorem p_lift_stop (k : Nat) (l : List Nat) : p_lift k [] l = [] := by cases l <;> rfl
theorem p_put_nil (a S : List Nat) : p_put a S [] = [] := by cases S <;> rfl
theorem p_put_stop (a l : List Nat) : p_put a [] l = [] := by cases l <;> rfl
theorem p_res_nil (n : Nat) (g : Nat → List Nat) (S : List Nat) : p_res n g S [] = [] := by cases S <;> rfl
theorem p_res_stop (n : Nat) (g : Nat → List Nat) (l : List Nat) : p_res n g [] l = [] := by cases l <;> rfl
theorem p_aw_len (v d : Nat) (S : List Nat) : (p_aw v d S).length = if p_two v = true then S.length + 2 else S.length := by
  unfold p_aw
  split <;> simp
/-- the lifted term is as long as the term -/
theorem p_lift_len : ∀ (l : List Nat) (k : Nat) (S : List Nat), (p_lift k S l).length = p_end S.length l
  | [], k, S => by rw [p_lift_nil, p_end_nil]; rfl
  | v :: l, k, [] => rfl
  | v :: l, k, d :: S => by
    show (p_lift k (p_aw v d S) l).length + 1 = p_end (if p_two v = true then S.length + 2 else S.length) l + 1
    rw [p_lift_len l k (p_aw v d S), p_aw_len]
/-- the row is made of a term for each awaited depth, its variables are bound or among n -/
def p_wf (n : Nat) : List Nat → List Nat → Prop
  | S, [] => S = []
  | [], _ :: _ => False
  | d :: S, v :: l => (v < 5 ∨ (10 ≤ v ∧ v < 18) ∨ (100 ≤ v ∧ v < 100 + d + n)) ∧ p_wf n (p_aw v d S) l
theorem p_aw_app (v d : Nat) (S S' : List Nat) : p_aw v d (S ++ S') = p_aw v d S ++ S' := by
  unfold p_aw
  split <;> rfl
theorem p_wf_app {n : Nat} : ∀ {l1 S1 l2 S2 : List Nat}, p_wf n S1 l1 → p_wf n S2 l2 → p_wf n (S1 ++ S2) (l1 ++ l2)
  | [], S1, l2, S2, h1, h2 => by
    have h1 : S1 = [] := by cases S1 <;> exact h1
    subst h1
    exact h2
  | v :: l1, [], l2, S2, h1, h2 => h1.elim
  | v :: l1, d :: S1, l2, S2, h1, h2 => by
    refine ⟨h1.1, ?_⟩
    show p_wf n (p_aw v d (S1 ++ S2)) (l1 ++ l2)
    rw [p_aw_app]
    exact p_wf_app h1.2 h2
theorem p_wf_split {n : Nat} : ∀ {l S1 S2 : List Nat}, p_wf n (S1 ++ S2) l → p_wf n S1 (l.take (p_end S1.length l)) ∧ p_wf n S2 (l.drop (p_end S1.length l))
  | [], S1, S2, h => by
    have h : S1 ++ S2 = [] := by
      revert h
      cases S1 ++ S2 <;> exact id
    obtain ⟨rfl, rfl⟩ := List.append_eq_nil_iff.mp h
    exact ⟨rfl, rfl⟩
  | v :: l, [], S2, h => ⟨rfl, h⟩
  | v :: l, d :: S1, S2, h => by
    have h2 : p_wf n (p_aw v d (S1 ++ S2)) l := h.2
    rw [p_aw_app] at h2
    have h3 := p_wf_split h2
    rw [p_aw_len] at h3
    exact ⟨⟨h.1, h3.1⟩, h3.2⟩
theorem p_two_lt {v : Nat} (h : p_two v = true) : v < 5 := by
  simp only [p_two, Bool.or_eq_true, beq_iff_eq] at h
  omega
theorem p_two_ge {v : Nat} (h : 5 ≤ v) : p_two v = false := by
  cases hp : p_two v with
  | false => rfl
  | true => have := p_two_lt hp; omega
theorem p_aw_map (v d k : Nat) (S : List Nat) : p_aw v (d + k) (S.map (· + k)) = (p_aw v d S).map (· + k) := by
  unfold p_aw
  split
  · split <;> simp <;> omega
  · rfl
theorem p_aw_big {v : Nat} (h : 5 ≤ v) (d : Nat) (S : List Nat) : p_aw v d S = S := by
  unfold p_aw
  rw [p_two_ge h]
  rfl
theorem p_wf_lift {n k : Nat} : ∀ {l S : List Nat}, p_wf n S l → p_wf n (S.map (· + k)) (p_lift k S l)
  | [], S, h => by
    have h : S = [] := by cases S <;> exact h
    subst h
    rfl
  | v :: l, [], h => h.elim
  | v :: l, d :: S, h => by
    have ih := p_wf_lift (k := k) h.2
    obtain ⟨h1, -⟩ := h
    by_cases hv : 100 + d ≤ v
    · have e : p_lift k (d :: S) (v :: l) = (v + k) :: p_lift k (p_aw v d S) l := by
        show (if 100 + d ≤ v then v + k else v) :: _ = _
        rw [if_pos hv]
      rw [e, p_aw_big (by omega)]
      rw [p_aw_big (by omega)] at ih
      refine ⟨by show v + k < 5 ∨ (10 ≤ v + k ∧ v + k < 18) ∨ (100 ≤ v + k ∧ v + k < 100 + (d + k) + n); omega, ?_⟩
      show p_wf n (p_aw (v + k) (d + k) (S.map (· + k))) _
      rw [p_aw_big (by omega)]
      exact ih
    · have e : p_lift k (d :: S) (v :: l) = v :: p_lift k (p_aw v d S) l := by
        show (if 100 + d ≤ v then v + k else v) :: _ = _
        rw [if_neg hv]
      rw [e]
      refine ⟨by show v < 5 ∨ (10 ≤ v ∧ v < 18) ∨ (100 ≤ v ∧ v < 100 + (d + k) + n); omega, ?_⟩
      show p_wf n (p_aw v (d + k) (S.map (· + k))) _
      rw [p_aw_map]
      exact ih
theorem p_wf_put {n : Nat} {a : List Nat} (ha : p_wf n [0] a) : ∀ {l S : List Nat}, p_wf (n + 1) S l → p_wf n S (p_put a S l)
  | [], S, h => by
    have h : S = [] := by cases S <;> exact h
    subst h
    rfl
  | v :: l, [], h => h.elim
  | v :: l, d :: S, h => by
    have ih := p_wf_put ha h.2
    obtain ⟨h1, -⟩ := h
    show p_wf n (d :: S) ((if v = 100 + d then p_lift d [0] a else if 100 + d < v then [v - 1] else [v]) ++ p_put a (p_aw v d S) l)
    by_cases hv : v = 100 + d
    · rw [if_pos hv, p_aw_big (by omega)]
      rw [p_aw_big (by omega)] at ih
      have hl := p_wf_lift (k := d) ha
      have e : ([0] : List Nat).map (· + d) = [d] := by simp
      rw [e] at hl
      exact p_wf_app (S1 := [d]) hl ih
    · rw [if_neg hv]
      by_cases hw : 100 + d < v
      · rw [if_pos hw]
        rw [p_aw_big (by omega)] at ih
        rw [p_aw_big (v := v) (by omega)]
        refine ⟨by omega, ?_⟩
        show p_wf n (p_aw (v - 1) d S) _
        rw [p_aw_big (by omega)]
        exact ih
      · rw [if_neg hw]
        exact ⟨by omega, ih⟩
theorem p_wf_res {n m : Nat} {g : Nat → List Nat} (hg : ∀ j, j < m → p_wf n [0] (g j)) : ∀ {l S : List Nat}, p_wf m S l → p_wf n S (p_res m g S l)
  | [], S, h => by
    have h : S = [] := by cases S <;> exact h
    subst h
    rfl
  | v :: l, [], h => h.elim
  | v :: l, d :: S, h => by
    have ih := p_wf_res hg h.2
    obtain ⟨h1, -⟩ := h
    show p_wf n (d :: S) ((if 100 + d ≤ v ∧ v < 100 + d + m then p_lift d [0] (g (v - 100 - d)) else [v]) ++ p_res m g (p_aw v d S) l)
    by_cases hv : 100 + d ≤ v ∧ v < 100 + d + m
    · rw [if_pos hv, p_aw_big (by omega)]
      rw [p_aw_big (by omega)] at ih
      have hl := p_wf_lift (k := d) (hg (v - 100 - d) (by omega))
      have e : ([0] : List Nat).map (· + d) = [d] := by simp
      rw [e] at hl
      exact p_wf_app (S1 := [d]) hl ih
    · rw [if_neg hv]
      exact ⟨by omega, ih⟩
end
section
/-! a row's cells: the object r, its numbers at r + 1 -/
abbrev z_G.ca (G : z_G) (k : Nat) : ClassId := (G.tys.getD k (0, .int)).1
def k_ints (G : z_G) (n : Nat) (f : Nat → Int32) : va_E := .inl (G.ca 0, n, .inl f)
def k_row (r n : Nat) : va_E := .inr (0, [.ref (r + 1), .int (nI n)])
def rowAt (G : z_G) (h : z_H) (r n : Nat) (f : Nat → Int32) : Prop := h.2.2 r = some (k_row r n) ∧ h.2.2 (r + 1) = some (k_ints G 40 f)
def rset (G : z_G) (h : z_H) (r n : Nat) (f : Nat → Int32) : z_H := (h.1, h.2.1, va_up (va_up h.2.2 (r + 1) (some (k_ints G 40 f))) r (some (k_row r n)))
/-- behind an exception -/
def z_exc (h : z_H) : z_H := (h.1 + 1, h.2.1 + 6, h.2.2)
/-- there is room for one -/
def z_rm (G : z_G) (h : z_H) : Prop := h.1 + 1 ≤ G.b0 + G.cc ∧ h.2.1 + 6 ≤ G.ss
theorem z_rm.rset {G : z_G} {h : z_H} (H : z_rm G h) (r n : Nat) (f : Nat → Int32) : z_rm G (rset G h r n f) := H
theorem rset_at (G : z_G) (h : z_H) (r n : Nat) (f : Nat → Int32) : rowAt G (rset G h r n f) r n f := by
  refine ⟨va_up_self _ _ _, ?_⟩
  show va_up (va_up h.2.2 (r + 1) _) r _ (r + 1) = _
  rw [va_up_ne _ _ (by omega), va_up_self]
theorem rset_ne (G : z_G) (h : z_H) {r q : Nat} (n : Nat) (f : Nat → Int32) (h1 : q ≠ r) (h2 : q ≠ r + 1) : (rset G h r n f).2.2 q = h.2.2 q := by
  show va_up (va_up h.2.2 (r + 1) _) r _ q = _
  rw [va_up_ne _ _ h1, va_up_ne _ _ h2]
theorem rset_row {G : z_G} {h : z_H} {r r' n' : Nat} {f' : Nat → Int32} (n : Nat) (f : Nat → Int32) (H : rowAt G h r' n' f') (h1 : r' ≠ r) (h2 : r' ≠ r + 1) (h3 : r' + 1 ≠ r) : rowAt G (rset G h r n f) r' n' f' :=
  ⟨(rset_ne G h n f h1 h2).trans H.1, (rset_ne G h n f h3 (by omega)).trans H.2⟩
theorem rset_rset (G : z_G) (h : z_H) (r n m : Nat) (f g : Nat → Int32) : rset G (rset G h r n f) r m g = rset G h r m g := by
  unfold rset
  refine congrArg (fun z => (h.1, h.2.1, z)) ?_
  funext q
  simp only [va_up]
  split
  · rfl
  · split <;> rfl
theorem rset_self {G : z_G} {h : z_H} {r n : Nat} {f : Nat → Int32} (H : rowAt G h r n f) : rset G h r n f = h := by
  unfold rset
  obtain ⟨a, b, u⟩ := h
  refine congrArg (fun z => (a, b, z)) ?_
  funext q
  simp only [va_up]
  split
  · rename_i e
    rw [e]
    exact H.1.symm
  · split
    · rename_i e
      rw [e]
      exact H.2.symm
    · rfl
theorem rset_len {G : z_G} {h : z_H} {r n : Nat} {f : Nat → Int32} (m : Nat) (H : rowAt G h r n f) : z_set h r (k_row r m) = rset G h r m f := by
  unfold rset z_set
  refine congrArg (fun z => (h.1, h.2.1, z)) ?_
  funext q
  simp only [va_up]
  split
  · rfl
  · split
    · rename_i e
      rw [e]
      exact H.2
    · rfl
theorem l_gl {l1 l2 : List Nat} {i : Nat} (h : i < l1.length) : (l1 ++ l2).getD i 0 = l1.getD i 0 := by
  rw [List.getD_eq_getElem?_getD, List.getD_eq_getElem?_getD, List.getElem?_append_left h]
theorem l_gr {l1 l2 : List Nat} {i : Nat} (h : l1.length ≤ i) : (l1 ++ l2).getD i 0 = l2.getD (i - l1.length) 0 := by
  rw [List.getD_eq_getElem?_getD, List.getD_eq_getElem?_getD, List.getElem?_append_right h]
/-- the numbers of a list, behind the first n -/
def k_app (f : Nat → Int32) (n : Nat) (l : List Nat) : Nat → Int32 := fun j => if n ≤ j ∧ j < n + l.length then nI (l.getD (j - n) 0) else f j
theorem k_app_nil (f : Nat → Int32) (n : Nat) : k_app f n [] = f := by
  funext j
  unfold k_app
  rw [if_neg (by simp only [List.length_nil]; omega)]
theorem k_app_one (f : Nat → Int32) (n v : Nat) : upd f n (nI v) = k_app f n [v] := by
  funext j
  unfold k_app upd
  by_cases h : j = n
  · subst h
    rw [if_pos rfl, if_pos (by simp only [List.length_cons, List.length_nil]; omega), Nat.sub_self]
    rfl
  · rw [if_neg h, if_neg (by simp only [List.length_cons, List.length_nil]; omega)]
theorem k_app_app (f : Nat → Int32) (n : Nat) (l1 l2 : List Nat) : k_app (k_app f n l1) (n + l1.length) l2 = k_app f n (l1 ++ l2) := by
  funext j
  unfold k_app
  simp only [List.length_append]
  by_cases h1 : n + l1.length ≤ j ∧ j < n + l1.length + l2.length
  · rw [if_pos h1, if_pos (by omega), l_gr (by omega), Nat.sub_add_eq]
  · rw [if_neg h1]
    by_cases h2 : n ≤ j ∧ j < n + l1.length
    · rw [if_pos h2, if_pos (by omega), l_gl (by omega)]
    · rw [if_neg h2, if_neg (by omega)]
/-- the row's numbers are the list's -/
def rl (f : Nat → Int32) (l : List Nat) : Prop := l.length ≤ 40 ∧ ∀ i, i < l.length → f i = nI (l.getD i 0) ∧ l.getD i 0 < 1000
theorem rl_app {f : Nat → Int32} {l1 l2 : List Nat} (h : rl f l1) (hl : l1.length + l2.length ≤ 40) (hb : ∀ v ∈ l2, v < 1000) : rl (k_app f l1.length l2) (l1 ++ l2) := by
  refine ⟨by rw [List.length_append]; exact hl, fun i hi => ?_⟩
  rw [List.length_append] at hi
  unfold k_app
  by_cases h1 : i < l1.length
  · rw [if_neg (by omega), l_gl h1]
    exact h.2 i h1
  · rw [if_pos (by omega), l_gr (by omega)]
    refine ⟨rfl, ?_⟩
    have h2 : i - l1.length < l2.length := by omega
    rw [List.getD_eq_getElem?_getD, List.getElem?_eq_getElem h2]
    exact hb _ (List.getElem_mem h2)
end
section
-- ===== PART A: goes FIRST, ahead of the names: the tables' words, and 'selects' of the private methods out of them =====
/-- a private method of a class that the tables say can be made, by its rows of tables_1 -/
def lw_okq (q : MethodName × Nat) : Prop := (q.1.cls ≠ "java/lang/invoke/MethodHandle" ∧ q.1.cls ≠ "java/lang/invoke/VarHandle") ∧ Cond.instantiable q.1.cls q.2 ∈ tables_1 ∧ Cond.privateMethod q.1 ∈ tables_1 ∧ Cond.instanceMethod q.1 ∈ tables_1
theorem lw_p0 : lw_okq (⟨"TypeKernel", "presentCount", "()I"⟩, 12) := ⟨⟨by decide +kernel, by decide +kernel⟩, List.mem_of_getElem? (i := 18) (by decide +kernel), List.mem_of_getElem? (i := 181) (by decide +kernel), List.mem_of_getElem? (i := 182) (by decide +kernel)⟩
theorem lw_p1 : lw_okq (⟨"TypeKernel", "isJudgement", "(I)Z"⟩, 12) := ⟨⟨by decide +kernel, by decide +kernel⟩, List.mem_of_getElem? (i := 18) (by decide +kernel), List.mem_of_getElem? (i := 193) (by decide +kernel), List.mem_of_getElem? (i := 194) (by decide +kernel)⟩
theorem lw_p2 : lw_okq (⟨"TypeKernel", "judgementAt", "(I)LTypeKernel$Judgement;"⟩, 12) := ⟨⟨by decide +kernel, by decide +kernel⟩, List.mem_of_getElem? (i := 18) (by decide +kernel), List.mem_of_getElem? (i := 197) (by decide +kernel), List.mem_of_getElem? (i := 198) (by decide +kernel)⟩
theorem lw_p3 : lw_okq (⟨"TypeKernel", "isEntry", "(I)Z"⟩, 12) := ⟨⟨by decide +kernel, by decide +kernel⟩, List.mem_of_getElem? (i := 18) (by decide +kernel), List.mem_of_getElem? (i := 213) (by decide +kernel), List.mem_of_getElem? (i := 214) (by decide +kernel)⟩
theorem lw_p4 : lw_okq (⟨"TypeKernel", "entryAt", "(I)LTypeKernel$Row;"⟩, 12) := ⟨⟨by decide +kernel, by decide +kernel⟩, List.mem_of_getElem? (i := 18) (by decide +kernel), List.mem_of_getElem? (i := 217) (by decide +kernel), List.mem_of_getElem? (i := 218) (by decide +kernel)⟩
theorem lw_p5 : lw_okq (⟨"TypeKernel", "isConstant", "(I)Z"⟩, 12) := ⟨⟨by decide +kernel, by decide +kernel⟩, List.mem_of_getElem? (i := 18) (by decide +kernel), List.mem_of_getElem? (i := 225) (by decide +kernel), List.mem_of_getElem? (i := 226) (by decide +kernel)⟩
theorem lw_p6 : lw_okq (⟨"TypeKernel", "addJudgement", "()LTypeKernel$Judgement;"⟩, 12) := ⟨⟨by decide +kernel, by decide +kernel⟩, List.mem_of_getElem? (i := 18) (by decide +kernel), List.mem_of_getElem? (i := 241) (by decide +kernel), List.mem_of_getElem? (i := 242) (by decide +kernel)⟩
theorem lw_p7 : lw_okq (⟨"java/lang/Throwable", "fillInStackTrace", "(I)Ljava/lang/Throwable;"⟩, 6) := ⟨⟨by decide +kernel, by decide +kernel⟩, List.mem_of_getElem? (i := 285) (by decide +kernel), List.mem_of_getElem? (i := 283) (by decide +kernel), List.mem_of_getElem? (i := 284) (by decide +kernel)⟩
theorem lw_p8 : lw_okq (⟨"TypeKernel", "presentJudgement", "(I)LTypeKernel$Judgement;"⟩, 12) := ⟨⟨by decide +kernel, by decide +kernel⟩, List.mem_of_getElem? (i := 18) (by decide +kernel), List.mem_of_getElem? (i := 403) (by decide +kernel), List.mem_of_getElem? (i := 404) (by decide +kernel)⟩
theorem lw_p9 : lw_okq (⟨"TypeKernel", "neededJudgement", "(I)LTypeKernel$Judgement;"⟩, 12) := ⟨⟨by decide +kernel, by decide +kernel⟩, List.mem_of_getElem? (i := 18) (by decide +kernel), List.mem_of_getElem? (i := 407) (by decide +kernel), List.mem_of_getElem? (i := 408) (by decide +kernel)⟩
theorem lw_p10 : lw_okq (⟨"TypeKernel$Rewriter", "step", "()Z"⟩, 7) := ⟨⟨by decide +kernel, by decide +kernel⟩, List.mem_of_getElem? (i := 30) (by decide +kernel), List.mem_of_getElem? (i := 431) (by decide +kernel), List.mem_of_getElem? (i := 432) (by decide +kernel)⟩
theorem lw_p11 : lw_okq (⟨"TypeKernel$Rewriter", "doLambda", "(I)V"⟩, 7) := ⟨⟨by decide +kernel, by decide +kernel⟩, List.mem_of_getElem? (i := 30) (by decide +kernel), List.mem_of_getElem? (i := 435) (by decide +kernel), List.mem_of_getElem? (i := 436) (by decide +kernel)⟩
theorem lw_p12 : lw_okq (⟨"TypeKernel$Rewriter", "takeNext", "()V"⟩, 7) := ⟨⟨by decide +kernel, by decide +kernel⟩, List.mem_of_getElem? (i := 30) (by decide +kernel), List.mem_of_getElem? (i := 457) (by decide +kernel), List.mem_of_getElem? (i := 458) (by decide +kernel)⟩
theorem lw_p13 : lw_okq (⟨"TypeKernel$Rewriter", "firstMatch", "(I)I"⟩, 7) := ⟨⟨by decide +kernel, by decide +kernel⟩, List.mem_of_getElem? (i := 30) (by decide +kernel), List.mem_of_getElem? (i := 461) (by decide +kernel), List.mem_of_getElem? (i := 462) (by decide +kernel)⟩
theorem lw_p14 : lw_okq (⟨"TypeKernel$Rewriter", "matches", "(LTypeKernel$Rule;I)Z"⟩, 7) := ⟨⟨by decide +kernel, by decide +kernel⟩, List.mem_of_getElem? (i := 30) (by decide +kernel), List.mem_of_getElem? (i := 465) (by decide +kernel), List.mem_of_getElem? (i := 466) (by decide +kernel)⟩
theorem lw_p15 : lw_okq (⟨"TypeKernel$Rewriter", "doRule", "(LTypeKernel$Rule;I)V"⟩, 7) := ⟨⟨by decide +kernel, by decide +kernel⟩, List.mem_of_getElem? (i := 30) (by decide +kernel), List.mem_of_getElem? (i := 469) (by decide +kernel), List.mem_of_getElem? (i := 470) (by decide +kernel)⟩
def lw_privs_1 : List (MethodName × Nat) := [(⟨"TypeKernel", "presentCount", "()I"⟩, 12), (⟨"TypeKernel", "isJudgement", "(I)Z"⟩, 12), (⟨"TypeKernel", "judgementAt", "(I)LTypeKernel$Judgement;"⟩, 12), (⟨"TypeKernel", "isEntry", "(I)Z"⟩, 12), (⟨"TypeKernel", "entryAt", "(I)LTypeKernel$Row;"⟩, 12), (⟨"TypeKernel", "isConstant", "(I)Z"⟩, 12), (⟨"TypeKernel", "addJudgement", "()LTypeKernel$Judgement;"⟩, 12), (⟨"java/lang/Throwable", "fillInStackTrace", "(I)Ljava/lang/Throwable;"⟩, 6), (⟨"TypeKernel", "presentJudgement", "(I)LTypeKernel$Judgement;"⟩, 12), (⟨"TypeKernel", "neededJudgement", "(I)LTypeKernel$Judgement;"⟩, 12), (⟨"TypeKernel$Rewriter", "step", "()Z"⟩, 7), (⟨"TypeKernel$Rewriter", "doLambda", "(I)V"⟩, 7), (⟨"TypeKernel$Rewriter", "takeNext", "()V"⟩, 7), (⟨"TypeKernel$Rewriter", "firstMatch", "(I)I"⟩, 7), (⟨"TypeKernel$Rewriter", "matches", "(LTypeKernel$Rule;I)Z"⟩, 7), (⟨"TypeKernel$Rewriter", "doRule", "(LTypeKernel$Rule;I)V"⟩, 7)]
theorem lw_r1 : ∀ q ∈ lw_privs_1, lw_okq q := List.forall_mem_cons.mpr ⟨lw_p0, List.forall_mem_cons.mpr ⟨lw_p1, List.forall_mem_cons.mpr ⟨lw_p2, List.forall_mem_cons.mpr ⟨lw_p3, List.forall_mem_cons.mpr ⟨lw_p4, List.forall_mem_cons.mpr ⟨lw_p5, List.forall_mem_cons.mpr ⟨lw_p6, List.forall_mem_cons.mpr ⟨lw_p7, List.forall_mem_cons.mpr ⟨lw_p8, List.forall_mem_cons.mpr ⟨lw_p9, List.forall_mem_cons.mpr ⟨lw_p10, List.forall_mem_cons.mpr ⟨lw_p11, List.forall_mem_cons.mpr ⟨lw_p12, List.forall_mem_cons.mpr ⟨lw_p13, List.forall_mem_cons.mpr ⟨lw_p14, List.forall_mem_cons.mpr ⟨lw_p15, fun _ h => absurd h List.not_mem_nil⟩⟩⟩⟩⟩⟩⟩⟩⟩⟩⟩⟩⟩⟩⟩⟩
theorem lw_p16 : lw_okq (⟨"TypeKernel", "onlyPresentJudgement", "()LTypeKernel$Judgement;"⟩, 12) := ⟨⟨by decide +kernel, by decide +kernel⟩, List.mem_of_getElem? (i := 18) (by decide +kernel), List.mem_of_getElem? (i := 520) (by decide +kernel), List.mem_of_getElem? (i := 521) (by decide +kernel)⟩
theorem lw_p17 : lw_okq (⟨"TypeKernel", "bind", "(LTypeKernel$Judgement;)V"⟩, 12) := ⟨⟨by decide +kernel, by decide +kernel⟩, List.mem_of_getElem? (i := 18) (by decide +kernel), List.mem_of_getElem? (i := 524) (by decide +kernel), List.mem_of_getElem? (i := 525) (by decide +kernel)⟩
theorem lw_p18 : lw_okq (⟨"TypeKernel", "isLeftSide", "(LTypeKernel$Row;)Z"⟩, 12) := ⟨⟨by decide +kernel, by decide +kernel⟩, List.mem_of_getElem? (i := 18) (by decide +kernel), List.mem_of_getElem? (i := 552) (by decide +kernel), List.mem_of_getElem? (i := 553) (by decide +kernel)⟩
theorem lw_p19 : lw_okq (⟨"TypeKernelModel", "push", "()Z"⟩, 16) := ⟨⟨by decide +kernel, by decide +kernel⟩, List.mem_of_getElem? (i := 590) (by decide +kernel), List.mem_of_getElem? (i := 653) (by decide +kernel), List.mem_of_getElem? (i := 654) (by decide +kernel)⟩
theorem lw_p20 : lw_okq (⟨"TypeKernelModel", "add", "(II)V"⟩, 16) := ⟨⟨by decide +kernel, by decide +kernel⟩, List.mem_of_getElem? (i := 590) (by decide +kernel), List.mem_of_getElem? (i := 657) (by decide +kernel), List.mem_of_getElem? (i := 658) (by decide +kernel)⟩
theorem lw_p21 : lw_okq (⟨"TypeKernelModel", "addRow", "(II)V"⟩, 16) := ⟨⟨by decide +kernel, by decide +kernel⟩, List.mem_of_getElem? (i := 590) (by decide +kernel), List.mem_of_getElem? (i := 665) (by decide +kernel), List.mem_of_getElem? (i := 666) (by decide +kernel)⟩
theorem lw_p22 : lw_okq (⟨"TypeKernelModel", "at", "(II)I"⟩, 16) := ⟨⟨by decide +kernel, by decide +kernel⟩, List.mem_of_getElem? (i := 590) (by decide +kernel), List.mem_of_getElem? (i := 669) (by decide +kernel), List.mem_of_getElem? (i := 670) (by decide +kernel)⟩
theorem lw_p23 : lw_okq (⟨"TypeKernelModel", "measure", "(IZ)V"⟩, 16) := ⟨⟨by decide +kernel, by decide +kernel⟩, List.mem_of_getElem? (i := 590) (by decide +kernel), List.mem_of_getElem? (i := 677) (by decide +kernel), List.mem_of_getElem? (i := 678) (by decide +kernel)⟩
theorem lw_p24 : lw_okq (⟨"TypeKernelModel", "addShifted", "(IIIII)V"⟩, 16) := ⟨⟨by decide +kernel, by decide +kernel⟩, List.mem_of_getElem? (i := 590) (by decide +kernel), List.mem_of_getElem? (i := 684) (by decide +kernel), List.mem_of_getElem? (i := 685) (by decide +kernel)⟩
theorem lw_p25 : lw_okq (⟨"TypeKernelModel", "applied", "()I"⟩, 16) := ⟨⟨by decide +kernel, by decide +kernel⟩, List.mem_of_getElem? (i := 590) (by decide +kernel), List.mem_of_getElem? (i := 692) (by decide +kernel), List.mem_of_getElem? (i := 693) (by decide +kernel)⟩
theorem lw_p26 : lw_okq (⟨"TypeKernelModel", "present", "(I)Z"⟩, 16) := ⟨⟨by decide +kernel, by decide +kernel⟩, List.mem_of_getElem? (i := 590) (by decide +kernel), List.mem_of_getElem? (i := 696) (by decide +kernel), List.mem_of_getElem? (i := 697) (by decide +kernel)⟩
theorem lw_p27 : lw_okq (⟨"TypeKernelModel", "normalOf", "(I)I"⟩, 16) := ⟨⟨by decide +kernel, by decide +kernel⟩, List.mem_of_getElem? (i := 590) (by decide +kernel), List.mem_of_getElem? (i := 700) (by decide +kernel), List.mem_of_getElem? (i := 701) (by decide +kernel)⟩
theorem lw_p28 : lw_okq (⟨"TypeKernelModel", "copy", "(II)V"⟩, 16) := ⟨⟨by decide +kernel, by decide +kernel⟩, List.mem_of_getElem? (i := 590) (by decide +kernel), List.mem_of_getElem? (i := 704) (by decide +kernel), List.mem_of_getElem? (i := 705) (by decide +kernel)⟩
theorem lw_p29 : lw_okq (⟨"TypeKernelModel", "normalise", "()I"⟩, 16) := ⟨⟨by decide +kernel, by decide +kernel⟩, List.mem_of_getElem? (i := 590) (by decide +kernel), List.mem_of_getElem? (i := 708) (by decide +kernel), List.mem_of_getElem? (i := 709) (by decide +kernel)⟩
theorem lw_p30 : lw_okq (⟨"TypeKernelModel", "redex", "(I)I"⟩, 16) := ⟨⟨by decide +kernel, by decide +kernel⟩, List.mem_of_getElem? (i := 590) (by decide +kernel), List.mem_of_getElem? (i := 712) (by decide +kernel), List.mem_of_getElem? (i := 713) (by decide +kernel)⟩
theorem lw_p31 : lw_okq (⟨"TypeKernelModel", "matches", "(II)Z"⟩, 16) := ⟨⟨by decide +kernel, by decide +kernel⟩, List.mem_of_getElem? (i := 590) (by decide +kernel), List.mem_of_getElem? (i := 716) (by decide +kernel), List.mem_of_getElem? (i := 717) (by decide +kernel)⟩
def lw_privs_2 : List (MethodName × Nat) := [(⟨"TypeKernel", "onlyPresentJudgement", "()LTypeKernel$Judgement;"⟩, 12), (⟨"TypeKernel", "bind", "(LTypeKernel$Judgement;)V"⟩, 12), (⟨"TypeKernel", "isLeftSide", "(LTypeKernel$Row;)Z"⟩, 12), (⟨"TypeKernelModel", "push", "()Z"⟩, 16), (⟨"TypeKernelModel", "add", "(II)V"⟩, 16), (⟨"TypeKernelModel", "addRow", "(II)V"⟩, 16), (⟨"TypeKernelModel", "at", "(II)I"⟩, 16), (⟨"TypeKernelModel", "measure", "(IZ)V"⟩, 16), (⟨"TypeKernelModel", "addShifted", "(IIIII)V"⟩, 16), (⟨"TypeKernelModel", "applied", "()I"⟩, 16), (⟨"TypeKernelModel", "present", "(I)Z"⟩, 16), (⟨"TypeKernelModel", "normalOf", "(I)I"⟩, 16), (⟨"TypeKernelModel", "copy", "(II)V"⟩, 16), (⟨"TypeKernelModel", "normalise", "()I"⟩, 16), (⟨"TypeKernelModel", "redex", "(I)I"⟩, 16), (⟨"TypeKernelModel", "matches", "(II)Z"⟩, 16)]
theorem lw_r2 : ∀ q ∈ lw_privs_2, lw_okq q := List.forall_mem_cons.mpr ⟨lw_p16, List.forall_mem_cons.mpr ⟨lw_p17, List.forall_mem_cons.mpr ⟨lw_p18, List.forall_mem_cons.mpr ⟨lw_p19, List.forall_mem_cons.mpr ⟨lw_p20, List.forall_mem_cons.mpr ⟨lw_p21, List.forall_mem_cons.mpr ⟨lw_p22, List.forall_mem_cons.mpr ⟨lw_p23, List.forall_mem_cons.mpr ⟨lw_p24, List.forall_mem_cons.mpr ⟨lw_p25, List.forall_mem_cons.mpr ⟨lw_p26, List.forall_mem_cons.mpr ⟨lw_p27, List.forall_mem_cons.mpr ⟨lw_p28, List.forall_mem_cons.mpr ⟨lw_p29, List.forall_mem_cons.mpr ⟨lw_p30, List.forall_mem_cons.mpr ⟨lw_p31, fun _ h => absurd h List.not_mem_nil⟩⟩⟩⟩⟩⟩⟩⟩⟩⟩⟩⟩⟩⟩⟩⟩
theorem lw_p32 : lw_okq (⟨"TypeKernelModel", "end", "(II)I"⟩, 16) := ⟨⟨by decide +kernel, by decide +kernel⟩, List.mem_of_getElem? (i := 590) (by decide +kernel), List.mem_of_getElem? (i := 720) (by decide +kernel), List.mem_of_getElem? (i := 721) (by decide +kernel)⟩
theorem lw_p33 : lw_okq (⟨"TypeKernelModel", "step", "(II)V"⟩, 16) := ⟨⟨by decide +kernel, by decide +kernel⟩, List.mem_of_getElem? (i := 590) (by decide +kernel), List.mem_of_getElem? (i := 724) (by decide +kernel), List.mem_of_getElem? (i := 725) (by decide +kernel)⟩
theorem lw_p34 : lw_okq (⟨"TypeKernelModel", "addPut", "(IIIIII)V"⟩, 16) := ⟨⟨by decide +kernel, by decide +kernel⟩, List.mem_of_getElem? (i := 590) (by decide +kernel), List.mem_of_getElem? (i := 728) (by decide +kernel), List.mem_of_getElem? (i := 729) (by decide +kernel)⟩
theorem lw_p35 : lw_okq (⟨"TypeKernelModel", "addResult", "(I)V"⟩, 16) := ⟨⟨by decide +kernel, by decide +kernel⟩, List.mem_of_getElem? (i := 590) (by decide +kernel), List.mem_of_getElem? (i := 732) (by decide +kernel), List.mem_of_getElem? (i := 733) (by decide +kernel)⟩
theorem lw_p36 : lw_okq (⟨"TypeKernelModel", "putTerm", "(II)V"⟩, 16) := ⟨⟨by decide +kernel, by decide +kernel⟩, List.mem_of_getElem? (i := 590) (by decide +kernel), List.mem_of_getElem? (i := 736) (by decide +kernel), List.mem_of_getElem? (i := 737) (by decide +kernel)⟩
theorem lw_p37 : lw_okq (⟨"TypeKernelModel", "isOne", "(II)Z"⟩, 16) := ⟨⟨by decide +kernel, by decide +kernel⟩, List.mem_of_getElem? (i := 590) (by decide +kernel), List.mem_of_getElem? (i := 744) (by decide +kernel), List.mem_of_getElem? (i := 745) (by decide +kernel)⟩
theorem lw_p38 : lw_okq (⟨"TypeKernelModel", "canBind", "()Z"⟩, 16) := ⟨⟨by decide +kernel, by decide +kernel⟩, List.mem_of_getElem? (i := 590) (by decide +kernel), List.mem_of_getElem? (i := 752) (by decide +kernel), List.mem_of_getElem? (i := 753) (by decide +kernel)⟩
theorem lw_p39 : lw_okq (⟨"TypeKernelModel", "alone", "()Z"⟩, 16) := ⟨⟨by decide +kernel, by decide +kernel⟩, List.mem_of_getElem? (i := 590) (by decide +kernel), List.mem_of_getElem? (i := 756) (by decide +kernel), List.mem_of_getElem? (i := 757) (by decide +kernel)⟩
theorem lw_p40 : lw_okq (⟨"TypeKernelModel", "binds", "(II)Z"⟩, 16) := ⟨⟨by decide +kernel, by decide +kernel⟩, List.mem_of_getElem? (i := 590) (by decide +kernel), List.mem_of_getElem? (i := 760) (by decide +kernel), List.mem_of_getElem? (i := 761) (by decide +kernel)⟩
theorem lw_p41 : lw_okq (⟨"TypeKernelModel", "close", "()V"⟩, 16) := ⟨⟨by decide +kernel, by decide +kernel⟩, List.mem_of_getElem? (i := 590) (by decide +kernel), List.mem_of_getElem? (i := 764) (by decide +kernel), List.mem_of_getElem? (i := 765) (by decide +kernel)⟩
theorem lw_p42 : lw_okq (⟨"TypeKernelModel", "ruled", "()I"⟩, 16) := ⟨⟨by decide +kernel, by decide +kernel⟩, List.mem_of_getElem? (i := 590) (by decide +kernel), List.mem_of_getElem? (i := 780) (by decide +kernel), List.mem_of_getElem? (i := 781) (by decide +kernel)⟩
theorem lw_p43 : lw_okq (⟨"TypeKernelModel", "isLeft", "(I)Z"⟩, 16) := ⟨⟨by decide +kernel, by decide +kernel⟩, List.mem_of_getElem? (i := 590) (by decide +kernel), List.mem_of_getElem? (i := 784) (by decide +kernel), List.mem_of_getElem? (i := 785) (by decide +kernel)⟩
theorem lw_p44 : lw_okq (⟨"TypeKernelModel", "equal", "(II)Z"⟩, 16) := ⟨⟨by decide +kernel, by decide +kernel⟩, List.mem_of_getElem? (i := 590) (by decide +kernel), List.mem_of_getElem? (i := 788) (by decide +kernel), List.mem_of_getElem? (i := 789) (by decide +kernel)⟩
theorem lw_p45 : lw_okq (⟨"TypeKernelModel", "raise", "(I)I"⟩, 16) := ⟨⟨by decide +kernel, by decide +kernel⟩, List.mem_of_getElem? (i := 590) (by decide +kernel), List.mem_of_getElem? (i := 796) (by decide +kernel), List.mem_of_getElem? (i := 797) (by decide +kernel)⟩
theorem lw_p46 : lw_okq (⟨"TypeKernelModel", "seen", "(II)I"⟩, 16) := ⟨⟨by decide +kernel, by decide +kernel⟩, List.mem_of_getElem? (i := 590) (by decide +kernel), List.mem_of_getElem? (i := 820) (by decide +kernel), List.mem_of_getElem? (i := 821) (by decide +kernel)⟩
def lw_privs_3 : List (MethodName × Nat) := [(⟨"TypeKernelModel", "end", "(II)I"⟩, 16), (⟨"TypeKernelModel", "step", "(II)V"⟩, 16), (⟨"TypeKernelModel", "addPut", "(IIIIII)V"⟩, 16), (⟨"TypeKernelModel", "addResult", "(I)V"⟩, 16), (⟨"TypeKernelModel", "putTerm", "(II)V"⟩, 16), (⟨"TypeKernelModel", "isOne", "(II)Z"⟩, 16), (⟨"TypeKernelModel", "canBind", "()Z"⟩, 16), (⟨"TypeKernelModel", "alone", "()Z"⟩, 16), (⟨"TypeKernelModel", "binds", "(II)Z"⟩, 16), (⟨"TypeKernelModel", "close", "()V"⟩, 16), (⟨"TypeKernelModel", "ruled", "()I"⟩, 16), (⟨"TypeKernelModel", "isLeft", "(I)Z"⟩, 16), (⟨"TypeKernelModel", "equal", "(II)Z"⟩, 16), (⟨"TypeKernelModel", "raise", "(I)I"⟩, 16), (⟨"TypeKernelModel", "seen", "(II)I"⟩, 16)]
theorem lw_r3 : ∀ q ∈ lw_privs_3, lw_okq q := List.forall_mem_cons.mpr ⟨lw_p32, List.forall_mem_cons.mpr ⟨lw_p33, List.forall_mem_cons.mpr ⟨lw_p34, List.forall_mem_cons.mpr ⟨lw_p35, List.forall_mem_cons.mpr ⟨lw_p36, List.forall_mem_cons.mpr ⟨lw_p37, List.forall_mem_cons.mpr ⟨lw_p38, List.forall_mem_cons.mpr ⟨lw_p39, List.forall_mem_cons.mpr ⟨lw_p40, List.forall_mem_cons.mpr ⟨lw_p41, List.forall_mem_cons.mpr ⟨lw_p42, List.forall_mem_cons.mpr ⟨lw_p43, List.forall_mem_cons.mpr ⟨lw_p44, List.forall_mem_cons.mpr ⟨lw_p45, List.forall_mem_cons.mpr ⟨lw_p46, fun _ h => absurd h List.not_mem_nil⟩⟩⟩⟩⟩⟩⟩⟩⟩⟩⟩⟩⟩⟩⟩
def lw_privs : List (MethodName × Nat) := lw_privs_1 ++ (lw_privs_2 ++ (lw_privs_3))
def lw_tbl : List Cond := k2_sels lw_privs ++ tables_1
theorem lw_privs_ok : ∀ q ∈ lw_privs, lw_okq q := by
  show ∀ q ∈ lw_privs_1 ++ (lw_privs_2 ++ (lw_privs_3)), lw_okq q
  exact List.forall_mem_append.mpr ⟨lw_r1, List.forall_mem_append.mpr ⟨lw_r2, lw_r3⟩⟩
end
section
/-! names, out of the listing: classes, words, methods, decode rows (printed by a program: wip/whole/tools/gen_names.py) -/
def k_nc : List Cond := [.not (.castable "java/lang/ArithmeticException" "java/lang/UnsupportedOperationException"), .not (.castable "java/lang/IndexOutOfBoundsException" "java/lang/UnsupportedOperationException"), .not (.castable "java/lang/IllegalStateException" "java/lang/UnsupportedOperationException"), .not (.castable "java/lang/IllegalArgumentException" "java/lang/UnsupportedOperationException"), .not (.castable "java/lang/UnsupportedOperationException" "java/lang/IndexOutOfBoundsException"), .not (.castable "java/lang/ArithmeticException" "java/lang/IndexOutOfBoundsException"), .not (.castable "java/lang/IllegalStateException" "java/lang/IndexOutOfBoundsException"), .not (.castable "java/lang/IllegalArgumentException" "java/lang/IndexOutOfBoundsException"), .not (.castable "java/lang/UnsupportedOperationException" "java/lang/IllegalStateException"), .not (.castable "java/lang/ArithmeticException" "java/lang/IllegalStateException"), .not (.castable "java/lang/IndexOutOfBoundsException" "java/lang/IllegalStateException"), .not (.castable "java/lang/IllegalArgumentException" "java/lang/IllegalStateException"), .not (.castable "java/lang/UnsupportedOperationException" "java/lang/IllegalArgumentException"), .not (.castable "java/lang/ArithmeticException" "java/lang/IllegalArgumentException"), .not (.castable "java/lang/IndexOutOfBoundsException" "java/lang/IllegalArgumentException"), .not (.castable "java/lang/IllegalStateException" "java/lang/IllegalArgumentException"), .not (.castable "java/lang/UnsupportedOperationException" "java/lang/ArithmeticException"), .not (.castable "java/lang/IndexOutOfBoundsException" "java/lang/ArithmeticException"), .not (.castable "java/lang/IllegalStateException" "java/lang/ArithmeticException"), .not (.castable "java/lang/IllegalArgumentException" "java/lang/ArithmeticException")]
/-- the words that every method takes along -/
def k_ws : List Cond := (lw_tbl ++ k_nc).filter z_mv
theorem k_in {w : Cond} (i : Nat) (h : tables_1[i]? = some w) (hm : z_mv w = true) : w ∈ k_ws := List.mem_filter.mpr ⟨List.mem_append_left _ (List.mem_append_right _ (List.mem_of_getElem? h)), hm⟩
theorem k_inp {q : MethodName × Nat} (i : Nat) (h : lw_privs[i]? = some q) : Cond.selects q.1.cls q.1 q.1 ∈ k_ws := List.mem_filter.mpr ⟨List.mem_append_left _ (List.mem_append_left _ (List.mem_map.mpr ⟨q, List.mem_of_getElem? h, rfl⟩)), rfl⟩
theorem k_inn {w : Cond} (i : Nat) (h : k_nc[i]? = some w) (hm : z_mv w = true) : w ∈ k_ws := List.mem_filter.mpr ⟨List.mem_append_right _ (List.mem_of_getElem? h), hm⟩
def R_Row : String := "TypeKernel$Row"
def F_Row : u_T := fun k => match k with
  | 0 => ("TypeKernel$Row", "numbers", "[I", true)
  | _ => ("TypeKernel$Row", "length", "I", false)
def t_Row : Nat → FieldType := fun k => match k with
  | 0 => .array .int
  | _ => .int
theorem n_Row : ∀ a, a < 2 → ∀ b, b < 2 → a ≠ b → (F_Row a).2.1 ≠ (F_Row b).2.1 := by decide +kernel
theorem t_Row_ok : ∀ k, k < 2 → parseFieldDescriptor (F_Row k).2.2.1 = some (t_Row k) := by decide +kernel
theorem k_lay_Row : ∀ w ∈ u_ws R_Row F_Row 2, w ∈ k_ws := by
  show ∀ w ∈ ([(Jvm.Cond.laysFinal "TypeKernel$Row" "TypeKernel$Row" "numbers" "[I"), (Jvm.Cond.lays "TypeKernel$Row" "TypeKernel$Row" "length" "I")] : List Cond), w ∈ k_ws
  exact List.forall_mem_cons.mpr ⟨k_in 47 (by decide +kernel) rfl, List.forall_mem_cons.mpr ⟨k_in 49 (by decide +kernel) rfl, fun _ h => absurd h List.not_mem_nil⟩⟩
def R_Jd : String := "TypeKernel$Judgement"
def F_Jd : u_T := fun k => match k with
  | 0 => ("TypeKernel$Judgement", "term", "LTypeKernel$Row;", true)
  | 1 => ("TypeKernel$Judgement", "itsType", "LTypeKernel$Row;", true)
  | _ => ("TypeKernel$Judgement", "entries", "I", false)
def t_Jd : Nat → FieldType := fun k => match k with
  | 0 => .object "TypeKernel$Row"
  | 1 => .object "TypeKernel$Row"
  | _ => .int
theorem n_Jd : ∀ a, a < 3 → ∀ b, b < 3 → a ≠ b → (F_Jd a).2.1 ≠ (F_Jd b).2.1 := by decide +kernel
theorem t_Jd_ok : ∀ k, k < 3 → parseFieldDescriptor (F_Jd k).2.2.1 = some (t_Jd k) := by decide +kernel
theorem k_lay_Jd : ∀ w ∈ u_ws R_Jd F_Jd 3, w ∈ k_ws := by
  show ∀ w ∈ ([(Jvm.Cond.laysFinal "TypeKernel$Judgement" "TypeKernel$Judgement" "term" "LTypeKernel$Row;"), (Jvm.Cond.laysFinal "TypeKernel$Judgement" "TypeKernel$Judgement" "itsType" "LTypeKernel$Row;"), (Jvm.Cond.lays "TypeKernel$Judgement" "TypeKernel$Judgement" "entries" "I")] : List Cond), w ∈ k_ws
  exact List.forall_mem_cons.mpr ⟨k_in 128 (by decide +kernel) rfl, List.forall_mem_cons.mpr ⟨k_in 130 (by decide +kernel) rfl, List.forall_mem_cons.mpr ⟨k_in 132 (by decide +kernel) rfl, fun _ h => absurd h List.not_mem_nil⟩⟩⟩
def R_Ru : String := "TypeKernel$Rule"
def F_Ru : u_T := fun k => match k with
  | 0 => ("TypeKernel$Rule", "left", "LTypeKernel$Row;", true)
  | 1 => ("TypeKernel$Rule", "right", "LTypeKernel$Row;", true)
  | _ => ("TypeKernel$Rule", "variables", "I", false)
def t_Ru : Nat → FieldType := fun k => match k with
  | 0 => .object "TypeKernel$Row"
  | 1 => .object "TypeKernel$Row"
  | _ => .int
theorem n_Ru : ∀ a, a < 3 → ∀ b, b < 3 → a ≠ b → (F_Ru a).2.1 ≠ (F_Ru b).2.1 := by decide +kernel
theorem t_Ru_ok : ∀ k, k < 3 → parseFieldDescriptor (F_Ru k).2.2.1 = some (t_Ru k) := by decide +kernel
theorem k_lay_Ru : ∀ w ∈ u_ws R_Ru F_Ru 3, w ∈ k_ws := by
  show ∀ w ∈ ([(Jvm.Cond.laysFinal "TypeKernel$Rule" "TypeKernel$Rule" "left" "LTypeKernel$Row;"), (Jvm.Cond.laysFinal "TypeKernel$Rule" "TypeKernel$Rule" "right" "LTypeKernel$Row;"), (Jvm.Cond.lays "TypeKernel$Rule" "TypeKernel$Rule" "variables" "I")] : List Cond), w ∈ k_ws
  exact List.forall_mem_cons.mpr ⟨k_in 83 (by decide +kernel) rfl, List.forall_mem_cons.mpr ⟨k_in 85 (by decide +kernel) rfl, List.forall_mem_cons.mpr ⟨k_in 87 (by decide +kernel) rfl, fun _ h => absurd h List.not_mem_nil⟩⟩⟩
def R_Wk : String := "TypeKernel$Walk"
def F_Wk : u_T := fun k => match k with
  | 0 => ("TypeKernel$Walk", "awaitedDepths", "[I", true)
  | _ => ("TypeKernel$Walk", "awaited", "I", false)
def t_Wk : Nat → FieldType := fun k => match k with
  | 0 => .array .int
  | _ => .int
theorem n_Wk : ∀ a, a < 2 → ∀ b, b < 2 → a ≠ b → (F_Wk a).2.1 ≠ (F_Wk b).2.1 := by decide +kernel
theorem t_Wk_ok : ∀ k, k < 2 → parseFieldDescriptor (F_Wk k).2.2.1 = some (t_Wk k) := by decide +kernel
theorem k_lay_Wk : ∀ w ∈ u_ws R_Wk F_Wk 2, w ∈ k_ws := by
  show ∀ w ∈ ([(Jvm.Cond.laysFinal "TypeKernel$Walk" "TypeKernel$Walk" "awaitedDepths" "[I"), (Jvm.Cond.lays "TypeKernel$Walk" "TypeKernel$Walk" "awaited" "I")] : List Cond), w ∈ k_ws
  exact List.forall_mem_cons.mpr ⟨k_in 62 (by decide +kernel) rfl, List.forall_mem_cons.mpr ⟨k_in 64 (by decide +kernel) rfl, fun _ h => absurd h List.not_mem_nil⟩⟩
def R_Rw : String := "TypeKernel$Rewriter"
def F_Rw : u_T := fun k => match k with
  | 0 => ("TypeKernel$Rewriter", "rules", "[LTypeKernel$Rule;", true)
  | 1 => ("TypeKernel$Rewriter", "ruleCount", "I", false)
  | 2 => ("TypeKernel$Rewriter", "now", "LTypeKernel$Row;", false)
  | 3 => ("TypeKernel$Rewriter", "next", "LTypeKernel$Row;", false)
  | 4 => ("TypeKernel$Rewriter", "matchStarts", "[I", true)
  | 5 => ("TypeKernel$Rewriter", "around", "LTypeKernel$Walk;", true)
  | _ => ("TypeKernel$Rewriter", "inside", "LTypeKernel$Walk;", true)
def t_Rw : Nat → FieldType := fun k => match k with
  | 0 => .array (.object "TypeKernel$Rule")
  | 1 => .int
  | 2 => .object "TypeKernel$Row"
  | 3 => .object "TypeKernel$Row"
  | 4 => .array .int
  | 5 => .object "TypeKernel$Walk"
  | _ => .object "TypeKernel$Walk"
theorem n_Rw : ∀ a, a < 7 → ∀ b, b < 7 → a ≠ b → (F_Rw a).2.1 ≠ (F_Rw b).2.1 := by decide +kernel
theorem t_Rw_ok : ∀ k, k < 7 → parseFieldDescriptor (F_Rw k).2.2.1 = some (t_Rw k) := by decide +kernel
theorem k_lay_Rw : ∀ w ∈ u_ws R_Rw F_Rw 7, w ∈ k_ws := by
  show ∀ w ∈ ([(Jvm.Cond.laysFinal "TypeKernel$Rewriter" "TypeKernel$Rewriter" "rules" "[LTypeKernel$Rule;"), (Jvm.Cond.lays "TypeKernel$Rewriter" "TypeKernel$Rewriter" "ruleCount" "I"), (Jvm.Cond.lays "TypeKernel$Rewriter" "TypeKernel$Rewriter" "now" "LTypeKernel$Row;"), (Jvm.Cond.lays "TypeKernel$Rewriter" "TypeKernel$Rewriter" "next" "LTypeKernel$Row;"), (Jvm.Cond.laysFinal "TypeKernel$Rewriter" "TypeKernel$Rewriter" "matchStarts" "[I"), (Jvm.Cond.laysFinal "TypeKernel$Rewriter" "TypeKernel$Rewriter" "around" "LTypeKernel$Walk;"), (Jvm.Cond.laysFinal "TypeKernel$Rewriter" "TypeKernel$Rewriter" "inside" "LTypeKernel$Walk;")] : List Cond), w ∈ k_ws
  exact List.forall_mem_cons.mpr ⟨k_in 99 (by decide +kernel) rfl, List.forall_mem_cons.mpr ⟨k_in 101 (by decide +kernel) rfl, List.forall_mem_cons.mpr ⟨k_in 103 (by decide +kernel) rfl, List.forall_mem_cons.mpr ⟨k_in 105 (by decide +kernel) rfl, List.forall_mem_cons.mpr ⟨k_in 107 (by decide +kernel) rfl, List.forall_mem_cons.mpr ⟨k_in 109 (by decide +kernel) rfl, List.forall_mem_cons.mpr ⟨k_in 111 (by decide +kernel) rfl, fun _ h => absurd h List.not_mem_nil⟩⟩⟩⟩⟩⟩⟩
def R_TK : String := "TypeKernel"
def F_TK : u_T := fun k => match k with
  | 0 => ("TypeKernel", "stack", "[LTypeKernel$Judgement;", true)
  | 1 => ("TypeKernel", "judgementCount", "I", false)
  | 2 => ("TypeKernel", "context", "[LTypeKernel$Row;", true)
  | 3 => ("TypeKernel", "entryCount", "I", false)
  | 4 => ("TypeKernel", "constantTypes", "[LTypeKernel$Row;", true)
  | 5 => ("TypeKernel", "isDefinable", "[Z", true)
  | 6 => ("TypeKernel", "constantCount", "I", false)
  | 7 => ("TypeKernel", "rewriter", "LTypeKernel$Rewriter;", true)
  | 8 => ("TypeKernel", "lowerForm", "LTypeKernel$Row;", true)
  | 9 => ("TypeKernel", "upperForm", "LTypeKernel$Row;", true)
  | 10 => ("TypeKernel", "newTerm", "LTypeKernel$Row;", true)
  | _ => ("TypeKernel", "newType", "LTypeKernel$Row;", true)
def t_TK : Nat → FieldType := fun k => match k with
  | 0 => .array (.object "TypeKernel$Judgement")
  | 1 => .int
  | 2 => .array (.object "TypeKernel$Row")
  | 3 => .int
  | 4 => .array (.object "TypeKernel$Row")
  | 5 => .array .boolean
  | 6 => .int
  | 7 => .object "TypeKernel$Rewriter"
  | 8 => .object "TypeKernel$Row"
  | 9 => .object "TypeKernel$Row"
  | 10 => .object "TypeKernel$Row"
  | _ => .object "TypeKernel$Row"
theorem n_TK : ∀ a, a < 12 → ∀ b, b < 12 → a ≠ b → (F_TK a).2.1 ≠ (F_TK b).2.1 := by decide +kernel
theorem t_TK_ok : ∀ k, k < 12 → parseFieldDescriptor (F_TK k).2.2.1 = some (t_TK k) := by decide +kernel
theorem k_lay_TK : ∀ w ∈ u_ws R_TK F_TK 12, w ∈ k_ws := by
  show ∀ w ∈ ([(Jvm.Cond.laysFinal "TypeKernel" "TypeKernel" "stack" "[LTypeKernel$Judgement;"), (Jvm.Cond.lays "TypeKernel" "TypeKernel" "judgementCount" "I"), (Jvm.Cond.laysFinal "TypeKernel" "TypeKernel" "context" "[LTypeKernel$Row;"), (Jvm.Cond.lays "TypeKernel" "TypeKernel" "entryCount" "I"), (Jvm.Cond.laysFinal "TypeKernel" "TypeKernel" "constantTypes" "[LTypeKernel$Row;"), (Jvm.Cond.laysFinal "TypeKernel" "TypeKernel" "isDefinable" "[Z"), (Jvm.Cond.lays "TypeKernel" "TypeKernel" "constantCount" "I"), (Jvm.Cond.laysFinal "TypeKernel" "TypeKernel" "rewriter" "LTypeKernel$Rewriter;"), (Jvm.Cond.laysFinal "TypeKernel" "TypeKernel" "lowerForm" "LTypeKernel$Row;"), (Jvm.Cond.laysFinal "TypeKernel" "TypeKernel" "upperForm" "LTypeKernel$Row;"), (Jvm.Cond.laysFinal "TypeKernel" "TypeKernel" "newTerm" "LTypeKernel$Row;"), (Jvm.Cond.laysFinal "TypeKernel" "TypeKernel" "newType" "LTypeKernel$Row;")] : List Cond), w ∈ k_ws
  exact List.forall_mem_cons.mpr ⟨k_in 147 (by decide +kernel) rfl, List.forall_mem_cons.mpr ⟨k_in 149 (by decide +kernel) rfl, List.forall_mem_cons.mpr ⟨k_in 151 (by decide +kernel) rfl, List.forall_mem_cons.mpr ⟨k_in 153 (by decide +kernel) rfl, List.forall_mem_cons.mpr ⟨k_in 155 (by decide +kernel) rfl, List.forall_mem_cons.mpr ⟨k_in 157 (by decide +kernel) rfl, List.forall_mem_cons.mpr ⟨k_in 159 (by decide +kernel) rfl, List.forall_mem_cons.mpr ⟨k_in 161 (by decide +kernel) rfl, List.forall_mem_cons.mpr ⟨k_in 163 (by decide +kernel) rfl, List.forall_mem_cons.mpr ⟨k_in 165 (by decide +kernel) rfl, List.forall_mem_cons.mpr ⟨k_in 167 (by decide +kernel) rfl, List.forall_mem_cons.mpr ⟨k_in 169 (by decide +kernel) rfl, fun _ h => absurd h List.not_mem_nil⟩⟩⟩⟩⟩⟩⟩⟩⟩⟩⟩⟩
def R_Md : String := "TypeKernelModel"
def F_Md : u_T := fun k => match k with
  | 0 => ("TypeKernelModel", "thrown", "I", false)
  | 1 => ("TypeKernelModel", "cells", "[I", true)
  | 2 => ("TypeKernelModel", "size", "[I", true)
  | 3 => ("TypeKernelModel", "stack", "I", false)
  | 4 => ("TypeKernelModel", "madeWith", "[I", true)
  | 5 => ("TypeKernelModel", "context", "I", false)
  | 6 => ("TypeKernelModel", "constants", "I", false)
  | 7 => ("TypeKernelModel", "definable", "[Z", true)
  | 8 => ("TypeKernelModel", "rules", "I", false)
  | 9 => ("TypeKernelModel", "variables", "[I", true)
  | 10 => ("TypeKernelModel", "tooLong", "Z", false)
  | 11 => ("TypeKernelModel", "depth", "[I", true)
  | 12 => ("TypeKernelModel", "depthRight", "[I", true)
  | 13 => ("TypeKernelModel", "pending", "[I", true)
  | 14 => ("TypeKernelModel", "from", "[I", true)
  | _ => ("TypeKernelModel", "to", "[I", true)
def t_Md : Nat → FieldType := fun k => match k with
  | 0 => .int
  | 1 => .array .int
  | 2 => .array .int
  | 3 => .int
  | 4 => .array .int
  | 5 => .int
  | 6 => .int
  | 7 => .array .boolean
  | 8 => .int
  | 9 => .array .int
  | 10 => .boolean
  | 11 => .array .int
  | 12 => .array .int
  | 13 => .array .int
  | 14 => .array .int
  | _ => .array .int
theorem n_Md : ∀ a, a < 16 → ∀ b, b < 16 → a ≠ b → (F_Md a).2.1 ≠ (F_Md b).2.1 := by decide +kernel
theorem t_Md_ok : ∀ k, k < 16 → parseFieldDescriptor (F_Md k).2.2.1 = some (t_Md k) := by decide +kernel
theorem k_lay_Md : ∀ w ∈ u_ws R_Md F_Md 16, w ∈ k_ws := by
  show ∀ w ∈ ([(Jvm.Cond.lays "TypeKernelModel" "TypeKernelModel" "thrown" "I"), (Jvm.Cond.laysFinal "TypeKernelModel" "TypeKernelModel" "cells" "[I"), (Jvm.Cond.laysFinal "TypeKernelModel" "TypeKernelModel" "size" "[I"), (Jvm.Cond.lays "TypeKernelModel" "TypeKernelModel" "stack" "I"), (Jvm.Cond.laysFinal "TypeKernelModel" "TypeKernelModel" "madeWith" "[I"), (Jvm.Cond.lays "TypeKernelModel" "TypeKernelModel" "context" "I"), (Jvm.Cond.lays "TypeKernelModel" "TypeKernelModel" "constants" "I"), (Jvm.Cond.laysFinal "TypeKernelModel" "TypeKernelModel" "definable" "[Z"), (Jvm.Cond.lays "TypeKernelModel" "TypeKernelModel" "rules" "I"), (Jvm.Cond.laysFinal "TypeKernelModel" "TypeKernelModel" "variables" "[I"), (Jvm.Cond.lays "TypeKernelModel" "TypeKernelModel" "tooLong" "Z"), (Jvm.Cond.laysFinal "TypeKernelModel" "TypeKernelModel" "depth" "[I"), (Jvm.Cond.laysFinal "TypeKernelModel" "TypeKernelModel" "depthRight" "[I"), (Jvm.Cond.laysFinal "TypeKernelModel" "TypeKernelModel" "pending" "[I"), (Jvm.Cond.laysFinal "TypeKernelModel" "TypeKernelModel" "from" "[I"), (Jvm.Cond.laysFinal "TypeKernelModel" "TypeKernelModel" "to" "[I")] : List Cond), w ∈ k_ws
  exact List.forall_mem_cons.mpr ⟨k_in 611 (by decide +kernel) rfl, List.forall_mem_cons.mpr ⟨k_in 613 (by decide +kernel) rfl, List.forall_mem_cons.mpr ⟨k_in 615 (by decide +kernel) rfl, List.forall_mem_cons.mpr ⟨k_in 617 (by decide +kernel) rfl, List.forall_mem_cons.mpr ⟨k_in 619 (by decide +kernel) rfl, List.forall_mem_cons.mpr ⟨k_in 621 (by decide +kernel) rfl, List.forall_mem_cons.mpr ⟨k_in 623 (by decide +kernel) rfl, List.forall_mem_cons.mpr ⟨k_in 625 (by decide +kernel) rfl, List.forall_mem_cons.mpr ⟨k_in 627 (by decide +kernel) rfl, List.forall_mem_cons.mpr ⟨k_in 629 (by decide +kernel) rfl, List.forall_mem_cons.mpr ⟨k_in 631 (by decide +kernel) rfl, List.forall_mem_cons.mpr ⟨k_in 633 (by decide +kernel) rfl, List.forall_mem_cons.mpr ⟨k_in 635 (by decide +kernel) rfl, List.forall_mem_cons.mpr ⟨k_in 637 (by decide +kernel) rfl, List.forall_mem_cons.mpr ⟨k_in 639 (by decide +kernel) rfl, List.forall_mem_cons.mpr ⟨k_in 641 (by decide +kernel) rfl, fun _ h => absurd h List.not_mem_nil⟩⟩⟩⟩⟩⟩⟩⟩⟩⟩⟩⟩⟩⟩⟩⟩
abbrev k_cl : List vw_C := [(R_Row, F_Row, 2), (R_Jd, F_Jd, 3), (R_Ru, F_Ru, 3), (R_Wk, F_Wk, 2), (R_Rw, F_Rw, 7), (R_TK, F_TK, 12), (R_Md, F_Md, 16)]
/-- the constants of this claim -/
def z_ok (G : z_G) : Prop := G.Ts = k_ws ∧ G.cl = k_cl ∧ (G.cc = 1000 ∧ G.ss = 20000) ∧ ∃ c0 c1 c2 c3 c4 c5 : ClassId, G.tys = [(c0, .int), (c1, .long), (c2, .boolean), (c3, .object "TypeKernel$Row"), (c4, .object "TypeKernel$Judgement"), (c5, .object "TypeKernel$Rule")]
section ZN
variable {G : z_G}
theorem z_ok.mem (HG : z_ok G) {w : Cond} (h : w ∈ k_ws) : w ∈ G.Ts := by rw [HG.1]; exact h
theorem ty0 (HG : z_ok G) : G.tys[0]? = some (G.ca 0, .int) := by
  obtain ⟨-, -, -, c0, c1, c2, c3, c4, c5, h⟩ := HG
  simp [z_G.ca, h]
theorem ty1 (HG : z_ok G) : G.tys[1]? = some (G.ca 1, .long) := by
  obtain ⟨-, -, -, c0, c1, c2, c3, c4, c5, h⟩ := HG
  simp [z_G.ca, h]
theorem ty2 (HG : z_ok G) : G.tys[2]? = some (G.ca 2, .boolean) := by
  obtain ⟨-, -, -, c0, c1, c2, c3, c4, c5, h⟩ := HG
  simp [z_G.ca, h]
theorem ty3 (HG : z_ok G) : G.tys[3]? = some (G.ca 3, .object "TypeKernel$Row") := by
  obtain ⟨-, -, -, c0, c1, c2, c3, c4, c5, h⟩ := HG
  simp [z_G.ca, h]
theorem ty4 (HG : z_ok G) : G.tys[4]? = some (G.ca 4, .object "TypeKernel$Judgement") := by
  obtain ⟨-, -, -, c0, c1, c2, c3, c4, c5, h⟩ := HG
  simp [z_G.ca, h]
theorem ty5 (HG : z_ok G) : G.tys[5]? = some (G.ca 5, .object "TypeKernel$Rule") := by
  obtain ⟨-, -, -, c0, c1, c2, c3, c4, c5, h⟩ := HG
  simp [z_G.ca, h]
theorem cl_Row (HG : z_ok G) : G.cl[0]? = some (R_Row, F_Row, 2) := by rw [HG.2.1]; rfl
theorem K_Row (HG : z_ok G) : z_cls G 0 R_Row F_Row 2 t_Row := ⟨cl_Row HG, fun w h => HG.mem (k_lay_Row w h), t_Row_ok, n_Row⟩
theorem cl_Jd (HG : z_ok G) : G.cl[1]? = some (R_Jd, F_Jd, 3) := by rw [HG.2.1]; rfl
theorem K_Jd (HG : z_ok G) : z_cls G 1 R_Jd F_Jd 3 t_Jd := ⟨cl_Jd HG, fun w h => HG.mem (k_lay_Jd w h), t_Jd_ok, n_Jd⟩
theorem cl_Ru (HG : z_ok G) : G.cl[2]? = some (R_Ru, F_Ru, 3) := by rw [HG.2.1]; rfl
theorem K_Ru (HG : z_ok G) : z_cls G 2 R_Ru F_Ru 3 t_Ru := ⟨cl_Ru HG, fun w h => HG.mem (k_lay_Ru w h), t_Ru_ok, n_Ru⟩
theorem cl_Wk (HG : z_ok G) : G.cl[3]? = some (R_Wk, F_Wk, 2) := by rw [HG.2.1]; rfl
theorem K_Wk (HG : z_ok G) : z_cls G 3 R_Wk F_Wk 2 t_Wk := ⟨cl_Wk HG, fun w h => HG.mem (k_lay_Wk w h), t_Wk_ok, n_Wk⟩
theorem cl_Rw (HG : z_ok G) : G.cl[4]? = some (R_Rw, F_Rw, 7) := by rw [HG.2.1]; rfl
theorem K_Rw (HG : z_ok G) : z_cls G 4 R_Rw F_Rw 7 t_Rw := ⟨cl_Rw HG, fun w h => HG.mem (k_lay_Rw w h), t_Rw_ok, n_Rw⟩
theorem cl_TK (HG : z_ok G) : G.cl[5]? = some (R_TK, F_TK, 12) := by rw [HG.2.1]; rfl
theorem K_TK (HG : z_ok G) : z_cls G 5 R_TK F_TK 12 t_TK := ⟨cl_TK HG, fun w h => HG.mem (k_lay_TK w h), t_TK_ok, n_TK⟩
theorem cl_Md (HG : z_ok G) : G.cl[6]? = some (R_Md, F_Md, 16) := by rw [HG.2.1]; rfl
theorem K_Md (HG : z_ok G) : z_cls G 6 R_Md F_Md 16 t_Md := ⟨cl_Md HG, fun w h => HG.mem (k_lay_Md w h), t_Md_ok, n_Md⟩
abbrev m_TK_init : z_M := (({ cls := "TypeKernel", name := "<init>", desc := "()V" } : Jvm.MethodName), prog_1_method_1_code, 2, (Option.none : Option Jvm.ClassFile.FieldType), [])
theorem cd_TK_init (HG : z_ok G) : z_cd G m_TK_init := Or.inl ⟨rfl, HG.mem (k_in 21 (by decide +kernel) rfl)⟩
abbrev m_Rw_init : z_M := (({ cls := "TypeKernel$Rewriter", name := "<init>", desc := "()V" } : Jvm.MethodName), prog_3_method_1_code, 2, (Option.none : Option Jvm.ClassFile.FieldType), [])
theorem cd_Rw_init (HG : z_ok G) : z_cd G m_Rw_init := Or.inl ⟨rfl, HG.mem (k_in 33 (by decide +kernel) rfl)⟩
abbrev m_Row_init : z_M := (({ cls := "TypeKernel$Row", name := "<init>", desc := "()V" } : Jvm.MethodName), prog_4_method_1_code, 1, (Option.none : Option Jvm.ClassFile.FieldType), [])
theorem cd_Row_init (HG : z_ok G) : z_cd G m_Row_init := Or.inl ⟨rfl, HG.mem (k_in 41 (by decide +kernel) rfl)⟩
abbrev m_Wk_init : z_M := (({ cls := "TypeKernel$Walk", name := "<init>", desc := "()V" } : Jvm.MethodName), prog_6_method_1_code, 1, (Option.none : Option Jvm.ClassFile.FieldType), [])
theorem cd_Wk_init (HG : z_ok G) : z_cd G m_Wk_init := Or.inl ⟨rfl, HG.mem (k_in 58 (by decide +kernel) rfl)⟩
abbrev m_Ru_init : z_M := (({ cls := "TypeKernel$Rule", name := "<init>", desc := "()V" } : Jvm.MethodName), prog_5_method_1_code, 1, (Option.none : Option Jvm.ClassFile.FieldType), [])
theorem cd_Ru_init (HG : z_ok G) : z_cd G m_Ru_init := Or.inl ⟨rfl, HG.mem (k_in 70 (by decide +kernel) rfl)⟩
abbrev m_Jd_init : z_M := (({ cls := "TypeKernel$Judgement", name := "<init>", desc := "()V" } : Jvm.MethodName), prog_2_method_1_code, 1, (Option.none : Option Jvm.ClassFile.FieldType), [])
theorem cd_Jd_init (HG : z_ok G) : z_cd G m_Jd_init := Or.inl ⟨rfl, HG.mem (k_in 118 (by decide +kernel) rfl)⟩
abbrev m_TK_drop : z_M := (({ cls := "TypeKernel", name := "drop", desc := "()Z" } : Jvm.MethodName), prog_1_method_13_code, 1, (Option.some Jvm.ClassFile.FieldType.boolean), [])
theorem cd_TK_drop (HG : z_ok G) : z_cd G m_TK_drop := Or.inl ⟨rfl, HG.mem (k_in 175 (by decide +kernel) rfl)⟩
abbrev m_TK_leave : z_M := (({ cls := "TypeKernel", name := "leave", desc := "()Z" } : Jvm.MethodName), prog_1_method_14_code, 1, (Option.some Jvm.ClassFile.FieldType.boolean), [])
theorem cd_TK_leave (HG : z_ok G) : z_cd G m_TK_leave := Or.inl ⟨rfl, HG.mem (k_in 179 (by decide +kernel) rfl)⟩
abbrev m_TK_presentCount : z_M := (({ cls := "TypeKernel", name := "presentCount", desc := "()I" } : Jvm.MethodName), prog_1_method_30_code, 3, (Option.some Jvm.ClassFile.FieldType.int), [])
theorem cd_TK_presentCount (HG : z_ok G) : z_cd G m_TK_presentCount := Or.inl ⟨rfl, HG.mem (k_in 183 (by decide +kernel) rfl)⟩
abbrev m_TK_counts : z_M := (({ cls := "TypeKernel", name := "counts", desc := "()I" } : Jvm.MethodName), prog_1_method_15_code, 1, (Option.some Jvm.ClassFile.FieldType.int), [])
theorem cd_TK_counts (HG : z_ok G) : z_cd G m_TK_counts := Or.inl ⟨rfl, HG.mem (k_in 187 (by decide +kernel) rfl)⟩
abbrev m_TK_judgement : z_M := (({ cls := "TypeKernel", name := "judgement", desc := "(IZI)I" } : Jvm.MethodName), prog_1_method_16_code, 5, (Option.some Jvm.ClassFile.FieldType.int), [])
theorem cd_TK_judgement (HG : z_ok G) : z_cd G m_TK_judgement := Or.inl ⟨rfl, HG.mem (k_in 191 (by decide +kernel) rfl)⟩
abbrev m_TK_isJudgement : z_M := (({ cls := "TypeKernel", name := "isJudgement", desc := "(I)Z" } : Jvm.MethodName), prog_1_method_23_code, 2, (Option.some Jvm.ClassFile.FieldType.boolean), [])
theorem cd_TK_isJudgement (HG : z_ok G) : z_cd G m_TK_isJudgement := Or.inl ⟨rfl, HG.mem (k_in 195 (by decide +kernel) rfl)⟩
abbrev m_TK_judgementAt : z_M := (({ cls := "TypeKernel", name := "judgementAt", desc := "(I)LTypeKernel$Judgement;" } : Jvm.MethodName), prog_1_method_25_code, 2, (Option.some (Jvm.ClassFile.FieldType.object "TypeKernel$Judgement")), [])
theorem cd_TK_judgementAt (HG : z_ok G) : z_cd G m_TK_judgementAt := Or.inl ⟨rfl, HG.mem (k_in 199 (by decide +kernel) rfl)⟩
abbrev m_Row_at : z_M := (({ cls := "TypeKernel$Row", name := "at", desc := "(I)I" } : Jvm.MethodName), prog_4_method_2_code, 2, (Option.some Jvm.ClassFile.FieldType.int), [])
theorem cd_Row_at (HG : z_ok G) : z_cd G m_Row_at := Or.inl ⟨rfl, HG.mem (k_in 203 (by decide +kernel) rfl)⟩
abbrev m_TK_made : z_M := (({ cls := "TypeKernel", name := "made", desc := "(I)I" } : Jvm.MethodName), prog_1_method_17_code, 2, (Option.some Jvm.ClassFile.FieldType.int), [])
theorem cd_TK_made (HG : z_ok G) : z_cd G m_TK_made := Or.inl ⟨rfl, HG.mem (k_in 207 (by decide +kernel) rfl)⟩
abbrev m_TK_entry : z_M := (({ cls := "TypeKernel", name := "entry", desc := "(II)I" } : Jvm.MethodName), prog_1_method_18_code, 3, (Option.some Jvm.ClassFile.FieldType.int), [])
theorem cd_TK_entry (HG : z_ok G) : z_cd G m_TK_entry := Or.inl ⟨rfl, HG.mem (k_in 211 (by decide +kernel) rfl)⟩
abbrev m_TK_isEntry : z_M := (({ cls := "TypeKernel", name := "isEntry", desc := "(I)Z" } : Jvm.MethodName), prog_1_method_22_code, 2, (Option.some Jvm.ClassFile.FieldType.boolean), [])
theorem cd_TK_isEntry (HG : z_ok G) : z_cd G m_TK_isEntry := Or.inl ⟨rfl, HG.mem (k_in 215 (by decide +kernel) rfl)⟩
abbrev m_TK_entryAt : z_M := (({ cls := "TypeKernel", name := "entryAt", desc := "(I)LTypeKernel$Row;" } : Jvm.MethodName), prog_1_method_24_code, 2, (Option.some (Jvm.ClassFile.FieldType.object "TypeKernel$Row")), [])
theorem cd_TK_entryAt (HG : z_ok G) : z_cd G m_TK_entryAt := Or.inl ⟨rfl, HG.mem (k_in 219 (by decide +kernel) rfl)⟩
abbrev m_TK_type : z_M := (({ cls := "TypeKernel", name := "type", desc := "(II)I" } : Jvm.MethodName), prog_1_method_19_code, 3, (Option.some Jvm.ClassFile.FieldType.int), [])
theorem cd_TK_type (HG : z_ok G) : z_cd G m_TK_type := Or.inl ⟨rfl, HG.mem (k_in 223 (by decide +kernel) rfl)⟩
abbrev m_TK_isConstant : z_M := (({ cls := "TypeKernel", name := "isConstant", desc := "(I)Z" } : Jvm.MethodName), prog_1_method_21_code, 2, (Option.some Jvm.ClassFile.FieldType.boolean), [])
theorem cd_TK_isConstant (HG : z_ok G) : z_cd G m_TK_isConstant := Or.inl ⟨rfl, HG.mem (k_in 227 (by decide +kernel) rfl)⟩
abbrev m_TK_side : z_M := (({ cls := "TypeKernel", name := "side", desc := "(IZI)I" } : Jvm.MethodName), prog_1_method_20_code, 5, (Option.some Jvm.ClassFile.FieldType.int), [])
theorem cd_TK_side (HG : z_ok G) : z_cd G m_TK_side := Or.inl ⟨rfl, HG.mem (k_in 231 (by decide +kernel) rfl)⟩
abbrev m_Lw_sort : z_M := (({ cls := "TypeKernelLaw", name := "sort", desc := "(LTypeKernel;)I" } : Jvm.MethodName), method_3_code, 2, (Option.some Jvm.ClassFile.FieldType.int), [((0 : Nat), (4 : Nat), (7 : Nat), (12 : Nat))])
theorem cd_Lw_sort (HG : z_ok G) : z_cd G m_Lw_sort := Or.inr (HG.mem (k_in 234 (by decide +kernel) rfl))
abbrev m_TK_sort : z_M := (({ cls := "TypeKernel", name := "sort", desc := "()V" } : Jvm.MethodName), prog_1_method_2_code, 2, (Option.none : Option Jvm.ClassFile.FieldType), [])
theorem cd_TK_sort (HG : z_ok G) : z_cd G m_TK_sort := Or.inl ⟨rfl, HG.mem (k_in 239 (by decide +kernel) rfl)⟩
abbrev m_TK_addJudgement : z_M := (({ cls := "TypeKernel", name := "addJudgement", desc := "()LTypeKernel$Judgement;" } : Jvm.MethodName), prog_1_method_26_code, 2, (Option.some (Jvm.ClassFile.FieldType.object "TypeKernel$Judgement")), [])
theorem cd_TK_addJudgement (HG : z_ok G) : z_cd G m_TK_addJudgement := Or.inl ⟨rfl, HG.mem (k_in 243 (by decide +kernel) rfl)⟩
abbrev m_Row_become : z_M := (({ cls := "TypeKernel$Row", name := "become", desc := "(I)V" } : Jvm.MethodName), prog_4_method_7_code, 2, (Option.none : Option Jvm.ClassFile.FieldType), [])
theorem cd_Row_become (HG : z_ok G) : z_cd G m_Row_become := Or.inl ⟨rfl, HG.mem (k_in 312 (by decide +kernel) rfl)⟩
abbrev m_Row_clear : z_M := (({ cls := "TypeKernel$Row", name := "clear", desc := "()V" } : Jvm.MethodName), prog_4_method_4_code, 1, (Option.none : Option Jvm.ClassFile.FieldType), [])
theorem cd_Row_clear (HG : z_ok G) : z_cd G m_Row_clear := Or.inl ⟨rfl, HG.mem (k_in 316 (by decide +kernel) rfl)⟩
abbrev m_Row_append : z_M := (({ cls := "TypeKernel$Row", name := "append", desc := "(I)V" } : Jvm.MethodName), prog_4_method_5_code, 2, (Option.none : Option Jvm.ClassFile.FieldType), [])
theorem cd_Row_append (HG : z_ok G) : z_cd G m_Row_append := Or.inl ⟨rfl, HG.mem (k_in 320 (by decide +kernel) rfl)⟩
abbrev m_Lw_constant : z_M := (({ cls := "TypeKernelLaw", name := "constant", desc := "(LTypeKernel;I)I" } : Jvm.MethodName), method_4_code, 3, (Option.some Jvm.ClassFile.FieldType.int), [((0 : Nat), (5 : Nat), (8 : Nat), (18 : Nat)), ((0 : Nat), (5 : Nat), (11 : Nat), (12 : Nat))])
theorem cd_Lw_constant (HG : z_ok G) : z_cd G m_Lw_constant := Or.inr (HG.mem (k_in 338 (by decide +kernel) rfl))
abbrev m_TK_constant : z_M := (({ cls := "TypeKernel", name := "constant", desc := "(I)V" } : Jvm.MethodName), prog_1_method_3_code, 3, (Option.none : Option Jvm.ClassFile.FieldType), [])
theorem cd_TK_constant (HG : z_ok G) : z_cd G m_TK_constant := Or.inl ⟨rfl, HG.mem (k_in 343 (by decide +kernel) rfl)⟩
abbrev m_Row_copy : z_M := (({ cls := "TypeKernel$Row", name := "copy", desc := "(LTypeKernel$Row;)V" } : Jvm.MethodName), prog_4_method_8_code, 2, (Option.none : Option Jvm.ClassFile.FieldType), [])
theorem cd_Row_copy (HG : z_ok G) : z_cd G m_Row_copy := Or.inl ⟨rfl, HG.mem (k_in 362 (by decide +kernel) rfl)⟩
abbrev m_Lw_variable : z_M := (({ cls := "TypeKernelLaw", name := "variable", desc := "(LTypeKernel;I)I" } : Jvm.MethodName), method_5_code, 3, (Option.some Jvm.ClassFile.FieldType.int), [((0 : Nat), (5 : Nat), (8 : Nat), (18 : Nat)), ((0 : Nat), (5 : Nat), (11 : Nat), (12 : Nat))])
theorem cd_Lw_variable (HG : z_ok G) : z_cd G m_Lw_variable := Or.inr (HG.mem (k_in 368 (by decide +kernel) rfl))
abbrev m_TK_variable : z_M := (({ cls := "TypeKernel", name := "variable", desc := "(I)V" } : Jvm.MethodName), prog_1_method_4_code, 3, (Option.none : Option Jvm.ClassFile.FieldType), [])
theorem cd_TK_variable (HG : z_ok G) : z_cd G m_TK_variable := Or.inl ⟨rfl, HG.mem (k_in 372 (by decide +kernel) rfl)⟩
abbrev m_Rw_appendLifted : z_M := (({ cls := "TypeKernel$Rewriter", name := "appendLifted", desc := "(LTypeKernel$Row;IILTypeKernel$Row;)V" } : Jvm.MethodName), prog_3_method_11_code, 8, (Option.none : Option Jvm.ClassFile.FieldType), [])
theorem cd_Rw_appendLifted (HG : z_ok G) : z_cd G m_Rw_appendLifted := Or.inl ⟨rfl, HG.mem (k_in 377 (by decide +kernel) rfl)⟩
abbrev m_Wk_begin : z_M := (({ cls := "TypeKernel$Walk", name := "begin", desc := "()V" } : Jvm.MethodName), prog_6_method_2_code, 1, (Option.none : Option Jvm.ClassFile.FieldType), [])
theorem cd_Wk_begin (HG : z_ok G) : z_cd G m_Wk_begin := Or.inl ⟨rfl, HG.mem (k_in 381 (by decide +kernel) rfl)⟩
abbrev m_Wk_goesOn : z_M := (({ cls := "TypeKernel$Walk", name := "goesOn", desc := "()Z" } : Jvm.MethodName), prog_6_method_3_code, 1, (Option.some Jvm.ClassFile.FieldType.boolean), [])
theorem cd_Wk_goesOn (HG : z_ok G) : z_cd G m_Wk_goesOn := Or.inl ⟨rfl, HG.mem (k_in 385 (by decide +kernel) rfl)⟩
abbrev m_Wk_depthOf : z_M := (({ cls := "TypeKernel$Walk", name := "depthOf", desc := "(I)I" } : Jvm.MethodName), prog_6_method_4_code, 3, (Option.some Jvm.ClassFile.FieldType.int), [])
theorem cd_Wk_depthOf (HG : z_ok G) : z_cd G m_Wk_depthOf := Or.inl ⟨rfl, HG.mem (k_in 390 (by decide +kernel) rfl)⟩
abbrev m_Lw_apply : z_M := (({ cls := "TypeKernelLaw", name := "apply", desc := "(LTypeKernel;)I" } : Jvm.MethodName), method_6_code, 2, (Option.some Jvm.ClassFile.FieldType.int), [((0 : Nat), (4 : Nat), (7 : Nat), (26 : Nat)), ((0 : Nat), (4 : Nat), (10 : Nat), (28 : Nat)), ((0 : Nat), (4 : Nat), (13 : Nat), (30 : Nat))])
theorem cd_Lw_apply (HG : z_ok G) : z_cd G m_Lw_apply := Or.inr (HG.mem (k_in 394 (by decide +kernel) rfl))
abbrev m_TK_apply : z_M := (({ cls := "TypeKernel", name := "apply", desc := "()V" } : Jvm.MethodName), prog_1_method_5_code, 4, (Option.none : Option Jvm.ClassFile.FieldType), [])
theorem cd_TK_apply (HG : z_ok G) : z_cd G m_TK_apply := Or.inl ⟨rfl, HG.mem (k_in 401 (by decide +kernel) rfl)⟩
abbrev m_TK_presentJudgement : z_M := (({ cls := "TypeKernel", name := "presentJudgement", desc := "(I)LTypeKernel$Judgement;" } : Jvm.MethodName), prog_1_method_28_code, 3, (Option.some (Jvm.ClassFile.FieldType.object "TypeKernel$Judgement")), [])
theorem cd_TK_presentJudgement (HG : z_ok G) : z_cd G m_TK_presentJudgement := Or.inl ⟨rfl, HG.mem (k_in 405 (by decide +kernel) rfl)⟩
abbrev m_TK_neededJudgement : z_M := (({ cls := "TypeKernel", name := "neededJudgement", desc := "(I)LTypeKernel$Judgement;" } : Jvm.MethodName), prog_1_method_27_code, 2, (Option.some (Jvm.ClassFile.FieldType.object "TypeKernel$Judgement")), [])
theorem cd_TK_neededJudgement (HG : z_ok G) : z_cd G m_TK_neededJudgement := Or.inl ⟨rfl, HG.mem (k_in 409 (by decide +kernel) rfl)⟩
abbrev m_Rw_normalize : z_M := (({ cls := "TypeKernel$Rewriter", name := "normalize", desc := "(LTypeKernel$Row;LTypeKernel$Row;)I" } : Jvm.MethodName), prog_3_method_3_code, 4, (Option.some Jvm.ClassFile.FieldType.int), [])
theorem cd_Rw_normalize (HG : z_ok G) : z_cd G m_Rw_normalize := Or.inl ⟨rfl, HG.mem (k_in 428 (by decide +kernel) rfl)⟩
abbrev m_Rw_step : z_M := (({ cls := "TypeKernel$Rewriter", name := "step", desc := "()Z" } : Jvm.MethodName), prog_3_method_4_code, 3, (Option.some Jvm.ClassFile.FieldType.boolean), [])
theorem cd_Rw_step (HG : z_ok G) : z_cd G m_Rw_step := Or.inl ⟨rfl, HG.mem (k_in 433 (by decide +kernel) rfl)⟩
abbrev m_Rw_doLambda : z_M := (({ cls := "TypeKernel$Rewriter", name := "doLambda", desc := "(I)V" } : Jvm.MethodName), prog_3_method_5_code, 4, (Option.none : Option Jvm.ClassFile.FieldType), [])
theorem cd_Rw_doLambda (HG : z_ok G) : z_cd G m_Rw_doLambda := Or.inl ⟨rfl, HG.mem (k_in 437 (by decide +kernel) rfl)⟩
abbrev m_Row_endOf : z_M := (({ cls := "TypeKernel$Row", name := "endOf", desc := "(I)I" } : Jvm.MethodName), prog_4_method_10_code, 4, (Option.some Jvm.ClassFile.FieldType.int), [])
theorem cd_Row_endOf (HG : z_ok G) : z_cd G m_Row_endOf := Or.inl ⟨rfl, HG.mem (k_in 441 (by decide +kernel) rfl)⟩
abbrev m_Row_hasParts : z_M := (({ cls := "TypeKernel$Row", name := "hasParts", desc := "(I)Z" } : Jvm.MethodName), prog_4_method_15_code, 1, (Option.some Jvm.ClassFile.FieldType.boolean), [])
theorem cd_Row_hasParts (HG : z_ok G) : z_cd G m_Row_hasParts := Or.inl ⟨rfl, HG.mem (k_in 444 (by decide +kernel) rfl)⟩
abbrev m_Row_appendPart : z_M := (({ cls := "TypeKernel$Row", name := "appendPart", desc := "(LTypeKernel$Row;II)V" } : Jvm.MethodName), prog_4_method_6_code, 5, (Option.none : Option Jvm.ClassFile.FieldType), [])
theorem cd_Row_appendPart (HG : z_ok G) : z_cd G m_Row_appendPart := Or.inl ⟨rfl, HG.mem (k_in 449 (by decide +kernel) rfl)⟩
abbrev m_Rw_appendBodyWith : z_M := (({ cls := "TypeKernel$Rewriter", name := "appendBodyWith", desc := "(LTypeKernel$Row;ILTypeKernel$Row;ILTypeKernel$Row;)V" } : Jvm.MethodName), prog_3_method_10_code, 9, (Option.none : Option Jvm.ClassFile.FieldType), [])
theorem cd_Rw_appendBodyWith (HG : z_ok G) : z_cd G m_Rw_appendBodyWith := Or.inl ⟨rfl, HG.mem (k_in 454 (by decide +kernel) rfl)⟩
abbrev m_Rw_takeNext : z_M := (({ cls := "TypeKernel$Rewriter", name := "takeNext", desc := "()V" } : Jvm.MethodName), prog_3_method_7_code, 2, (Option.none : Option Jvm.ClassFile.FieldType), [])
theorem cd_Rw_takeNext (HG : z_ok G) : z_cd G m_Rw_takeNext := Or.inl ⟨rfl, HG.mem (k_in 459 (by decide +kernel) rfl)⟩
abbrev m_Rw_firstMatch : z_M := (({ cls := "TypeKernel$Rewriter", name := "firstMatch", desc := "(I)I" } : Jvm.MethodName), prog_3_method_8_code, 3, (Option.some Jvm.ClassFile.FieldType.int), [])
theorem cd_Rw_firstMatch (HG : z_ok G) : z_cd G m_Rw_firstMatch := Or.inl ⟨rfl, HG.mem (k_in 463 (by decide +kernel) rfl)⟩
abbrev m_Rw_matches : z_M := (({ cls := "TypeKernel$Rewriter", name := "matches", desc := "(LTypeKernel$Rule;I)Z" } : Jvm.MethodName), prog_3_method_9_code, 7, (Option.some Jvm.ClassFile.FieldType.boolean), [])
theorem cd_Rw_matches (HG : z_ok G) : z_cd G m_Rw_matches := Or.inl ⟨rfl, HG.mem (k_in 467 (by decide +kernel) rfl)⟩
abbrev m_Rw_doRule : z_M := (({ cls := "TypeKernel$Rewriter", name := "doRule", desc := "(LTypeKernel$Rule;I)V" } : Jvm.MethodName), prog_3_method_6_code, 7, (Option.none : Option Jvm.ClassFile.FieldType), [])
theorem cd_Rw_doRule (HG : z_ok G) : z_cd G m_Rw_doRule := Or.inl ⟨rfl, HG.mem (k_in 471 (by decide +kernel) rfl)⟩
abbrev m_Row_isPart : z_M := (({ cls := "TypeKernel$Row", name := "isPart", desc := "(LTypeKernel$Row;II)Z" } : Jvm.MethodName), prog_4_method_13_code, 5, (Option.some Jvm.ClassFile.FieldType.boolean), [])
theorem cd_Row_isPart (HG : z_ok G) : z_cd G m_Row_isPart := Or.inl ⟨rfl, HG.mem (k_in 493 (by decide +kernel) rfl)⟩
abbrev m_Row_join : z_M := (({ cls := "TypeKernel$Row", name := "join", desc := "(ILTypeKernel$Row;LTypeKernel$Row;)V" } : Jvm.MethodName), prog_4_method_9_code, 4, (Option.none : Option Jvm.ClassFile.FieldType), [])
theorem cd_Row_join (HG : z_ok G) : z_cd G m_Row_join := Or.inl ⟨rfl, HG.mem (k_in 497 (by decide +kernel) rfl)⟩
abbrev m_Lw_assume : z_M := (({ cls := "TypeKernelLaw", name := "assume", desc := "(LTypeKernel;)I" } : Jvm.MethodName), method_7_code, 2, (Option.some Jvm.ClassFile.FieldType.int), [((0 : Nat), (4 : Nat), (7 : Nat), (26 : Nat)), ((0 : Nat), (4 : Nat), (10 : Nat), (12 : Nat)), ((0 : Nat), (4 : Nat), (13 : Nat), (28 : Nat))])
theorem cd_Lw_assume (HG : z_ok G) : z_cd G m_Lw_assume := Or.inr (HG.mem (k_in 503 (by decide +kernel) rfl))
abbrev m_TK_assume : z_M := (({ cls := "TypeKernel", name := "assume", desc := "()V" } : Jvm.MethodName), prog_1_method_6_code, 2, (Option.none : Option Jvm.ClassFile.FieldType), [])
theorem cd_TK_assume (HG : z_ok G) : z_cd G m_TK_assume := Or.inl ⟨rfl, HG.mem (k_in 507 (by decide +kernel) rfl)⟩
abbrev m_Row_is : z_M := (({ cls := "TypeKernel$Row", name := "is", desc := "(I)Z" } : Jvm.MethodName), prog_4_method_3_code, 2, (Option.some Jvm.ClassFile.FieldType.boolean), [])
theorem cd_Row_is (HG : z_ok G) : z_cd G m_Row_is := Or.inl ⟨rfl, HG.mem (k_in 511 (by decide +kernel) rfl)⟩
abbrev m_Lw_lambda : z_M := (({ cls := "TypeKernelLaw", name := "lambda", desc := "(LTypeKernel;)I" } : Jvm.MethodName), method_8_code, 2, (Option.some Jvm.ClassFile.FieldType.int), [((0 : Nat), (4 : Nat), (7 : Nat), (26 : Nat)), ((0 : Nat), (4 : Nat), (10 : Nat), (28 : Nat)), ((0 : Nat), (4 : Nat), (13 : Nat), (30 : Nat))])
theorem cd_Lw_lambda (HG : z_ok G) : z_cd G m_Lw_lambda := Or.inr (HG.mem (k_in 514 (by decide +kernel) rfl))
abbrev m_TK_lambda : z_M := (({ cls := "TypeKernel", name := "lambda", desc := "()V" } : Jvm.MethodName), prog_1_method_7_code, 2, (Option.none : Option Jvm.ClassFile.FieldType), [])
theorem cd_TK_lambda (HG : z_ok G) : z_cd G m_TK_lambda := Or.inl ⟨rfl, HG.mem (k_in 518 (by decide +kernel) rfl)⟩
abbrev m_TK_onlyPresentJudgement : z_M := (({ cls := "TypeKernel", name := "onlyPresentJudgement", desc := "()LTypeKernel$Judgement;" } : Jvm.MethodName), prog_1_method_29_code, 2, (Option.some (Jvm.ClassFile.FieldType.object "TypeKernel$Judgement")), [])
theorem cd_TK_onlyPresentJudgement (HG : z_ok G) : z_cd G m_TK_onlyPresentJudgement := Or.inl ⟨rfl, HG.mem (k_in 522 (by decide +kernel) rfl)⟩
abbrev m_TK_bind : z_M := (({ cls := "TypeKernel", name := "bind", desc := "(LTypeKernel$Judgement;)V" } : Jvm.MethodName), prog_1_method_32_code, 2, (Option.none : Option Jvm.ClassFile.FieldType), [])
theorem cd_TK_bind (HG : z_ok G) : z_cd G m_TK_bind := Or.inl ⟨rfl, HG.mem (k_in 526 (by decide +kernel) rfl)⟩
abbrev m_Lw_product : z_M := (({ cls := "TypeKernelLaw", name := "product", desc := "(LTypeKernel;)I" } : Jvm.MethodName), method_9_code, 2, (Option.some Jvm.ClassFile.FieldType.int), [((0 : Nat), (4 : Nat), (7 : Nat), (26 : Nat)), ((0 : Nat), (4 : Nat), (10 : Nat), (28 : Nat)), ((0 : Nat), (4 : Nat), (13 : Nat), (30 : Nat))])
theorem cd_Lw_product (HG : z_ok G) : z_cd G m_Lw_product := Or.inr (HG.mem (k_in 529 (by decide +kernel) rfl))
abbrev m_TK_product : z_M := (({ cls := "TypeKernel", name := "product", desc := "()V" } : Jvm.MethodName), prog_1_method_8_code, 2, (Option.none : Option Jvm.ClassFile.FieldType), [])
theorem cd_TK_product (HG : z_ok G) : z_cd G m_TK_product := Or.inl ⟨rfl, HG.mem (k_in 533 (by decide +kernel) rfl)⟩
abbrev m_TK_hasSort : z_M := (({ cls := "TypeKernel", name := "hasSort", desc := "(LTypeKernel$Judgement;)Z" } : Jvm.MethodName), prog_1_method_31_code, 1, (Option.some Jvm.ClassFile.FieldType.boolean), [])
theorem cd_TK_hasSort (HG : z_ok G) : z_cd G m_TK_hasSort := Or.inl ⟨rfl, HG.mem (k_in 536 (by decide +kernel) rfl)⟩
abbrev m_Lw_declare : z_M := (({ cls := "TypeKernelLaw", name := "declare", desc := "(LTypeKernel;Z[J)I" } : Jvm.MethodName), method_10_code, 4, (Option.some Jvm.ClassFile.FieldType.int), [((0 : Nat), (9 : Nat), (12 : Nat), (26 : Nat)), ((0 : Nat), (9 : Nat), (15 : Nat), (12 : Nat)), ((0 : Nat), (9 : Nat), (18 : Nat), (28 : Nat))])
theorem cd_Lw_declare (HG : z_ok G) : z_cd G m_Lw_declare := Or.inr (HG.mem (k_in 539 (by decide +kernel) rfl))
abbrev m_TK_declare : z_M := (({ cls := "TypeKernel", name := "declare", desc := "(Z)I" } : Jvm.MethodName), prog_1_method_9_code, 3, (Option.some Jvm.ClassFile.FieldType.int), [])
theorem cd_TK_declare (HG : z_ok G) : z_cd G m_TK_declare := Or.inl ⟨rfl, HG.mem (k_in 543 (by decide +kernel) rfl)⟩
abbrev m_Lw_rule : z_M := (({ cls := "TypeKernelLaw", name := "rule", desc := "(LTypeKernel;[J)I" } : Jvm.MethodName), method_11_code, 3, (Option.some Jvm.ClassFile.FieldType.int), [((0 : Nat), (8 : Nat), (11 : Nat), (26 : Nat)), ((0 : Nat), (8 : Nat), (14 : Nat), (12 : Nat)), ((0 : Nat), (8 : Nat), (17 : Nat), (28 : Nat)), ((0 : Nat), (8 : Nat), (20 : Nat), (30 : Nat))])
theorem cd_Lw_rule (HG : z_ok G) : z_cd G m_Lw_rule := Or.inr (HG.mem (k_in 546 (by decide +kernel) rfl))
abbrev m_TK_rule : z_M := (({ cls := "TypeKernel", name := "rule", desc := "()I" } : Jvm.MethodName), prog_1_method_10_code, 3, (Option.some Jvm.ClassFile.FieldType.int), [])
theorem cd_TK_rule (HG : z_ok G) : z_cd G m_TK_rule := Or.inl ⟨rfl, HG.mem (k_in 550 (by decide +kernel) rfl)⟩
abbrev m_TK_isLeftSide : z_M := (({ cls := "TypeKernel", name := "isLeftSide", desc := "(LTypeKernel$Row;)Z" } : Jvm.MethodName), prog_1_method_33_code, 4, (Option.some Jvm.ClassFile.FieldType.boolean), [])
theorem cd_TK_isLeftSide (HG : z_ok G) : z_cd G m_TK_isLeftSide := Or.inl ⟨rfl, HG.mem (k_in 554 (by decide +kernel) rfl)⟩
abbrev m_Row_headOf : z_M := (({ cls := "TypeKernel$Row", name := "headOf", desc := "(I)I" } : Jvm.MethodName), prog_4_method_11_code, 3, (Option.some Jvm.ClassFile.FieldType.int), [])
theorem cd_Row_headOf (HG : z_ok G) : z_cd G m_Row_headOf := Or.inl ⟨rfl, HG.mem (k_in 558 (by decide +kernel) rfl)⟩
abbrev m_TK_mayStandInPattern : z_M := (({ cls := "TypeKernel", name := "mayStandInPattern", desc := "(LTypeKernel$Row;I)Z" } : Jvm.MethodName), prog_1_method_34_code, 3, (Option.some Jvm.ClassFile.FieldType.boolean), [])
theorem cd_TK_mayStandInPattern (HG : z_ok G) : z_cd G m_TK_mayStandInPattern := Or.inl ⟨rfl, HG.mem (k_in 561 (by decide +kernel) rfl)⟩
abbrev m_Row_countOf : z_M := (({ cls := "TypeKernel$Row", name := "countOf", desc := "(I)I" } : Jvm.MethodName), prog_4_method_12_code, 4, (Option.some Jvm.ClassFile.FieldType.int), [])
theorem cd_Row_countOf (HG : z_ok G) : z_cd G m_Row_countOf := Or.inl ⟨rfl, HG.mem (k_in 565 (by decide +kernel) rfl)⟩
abbrev m_Row_equalsRow : z_M := (({ cls := "TypeKernel$Row", name := "equalsRow", desc := "(LTypeKernel$Row;)Z" } : Jvm.MethodName), prog_4_method_14_code, 2, (Option.some Jvm.ClassFile.FieldType.boolean), [])
theorem cd_Row_equalsRow (HG : z_ok G) : z_cd G m_Row_equalsRow := Or.inl ⟨rfl, HG.mem (k_in 569 (by decide +kernel) rfl)⟩
abbrev m_Rw_addRule : z_M := (({ cls := "TypeKernel$Rewriter", name := "addRule", desc := "(LTypeKernel$Row;LTypeKernel$Row;I)V" } : Jvm.MethodName), prog_3_method_2_code, 5, (Option.none : Option Jvm.ClassFile.FieldType), [])
theorem cd_Rw_addRule (HG : z_ok G) : z_cd G m_Rw_addRule := Or.inl ⟨rfl, HG.mem (k_in 574 (by decide +kernel) rfl)⟩
abbrev m_Lw_normal : z_M := (({ cls := "TypeKernelLaw", name := "normal", desc := "(LTypeKernel;[J)I" } : Jvm.MethodName), method_12_code, 3, (Option.some Jvm.ClassFile.FieldType.int), [((0 : Nat), (8 : Nat), (11 : Nat), (26 : Nat)), ((0 : Nat), (8 : Nat), (14 : Nat), (30 : Nat))])
theorem cd_Lw_normal (HG : z_ok G) : z_cd G m_Lw_normal := Or.inr (HG.mem (k_in 577 (by decide +kernel) rfl))
abbrev m_TK_normal : z_M := (({ cls := "TypeKernel", name := "normal", desc := "()I" } : Jvm.MethodName), prog_1_method_11_code, 3, (Option.some Jvm.ClassFile.FieldType.int), [])
theorem cd_TK_normal (HG : z_ok G) : z_cd G m_TK_normal := Or.inl ⟨rfl, HG.mem (k_in 581 (by decide +kernel) rfl)⟩
abbrev m_Lw_same : z_M := (({ cls := "TypeKernelLaw", name := "same", desc := "(LTypeKernel;[J)I" } : Jvm.MethodName), method_13_code, 3, (Option.some Jvm.ClassFile.FieldType.int), [((0 : Nat), (15 : Nat), (18 : Nat), (26 : Nat)), ((0 : Nat), (15 : Nat), (21 : Nat), (30 : Nat))])
theorem cd_Lw_same (HG : z_ok G) : z_cd G m_Lw_same := Or.inr (HG.mem (k_in 584 (by decide +kernel) rfl))
abbrev m_TK_same : z_M := (({ cls := "TypeKernel", name := "same", desc := "()Z" } : Jvm.MethodName), prog_1_method_12_code, 3, (Option.some Jvm.ClassFile.FieldType.boolean), [])
theorem cd_TK_same (HG : z_ok G) : z_cd G m_TK_same := Or.inl ⟨rfl, HG.mem (k_in 588 (by decide +kernel) rfl)⟩
abbrev m_Md_init : z_M := (({ cls := "TypeKernelModel", name := "<init>", desc := "()V" } : Jvm.MethodName), prog_8_method_1_code, 1, (Option.none : Option Jvm.ClassFile.FieldType), [])
theorem cd_Md_init (HG : z_ok G) : z_cd G m_Md_init := Or.inl ⟨rfl, HG.mem (k_in 593 (by decide +kernel) rfl)⟩
abbrev m_Md_thrown : z_M := (({ cls := "TypeKernelModel", name := "thrown", desc := "()I" } : Jvm.MethodName), prog_8_method_2_code, 1, (Option.some Jvm.ClassFile.FieldType.int), [])
theorem cd_Md_thrown (HG : z_ok G) : z_cd G m_Md_thrown := Or.inl ⟨rfl, HG.mem (k_in 647 (by decide +kernel) rfl)⟩
abbrev m_Md_sort : z_M := (({ cls := "TypeKernelModel", name := "sort", desc := "()V" } : Jvm.MethodName), prog_8_method_24_code, 1, (Option.none : Option Jvm.ClassFile.FieldType), [])
theorem cd_Md_sort (HG : z_ok G) : z_cd G m_Md_sort := Or.inl ⟨rfl, HG.mem (k_in 651 (by decide +kernel) rfl)⟩
abbrev m_Md_push : z_M := (({ cls := "TypeKernelModel", name := "push", desc := "()Z" } : Jvm.MethodName), prog_8_method_23_code, 1, (Option.some Jvm.ClassFile.FieldType.boolean), [])
theorem cd_Md_push (HG : z_ok G) : z_cd G m_Md_push := Or.inl ⟨rfl, HG.mem (k_in 655 (by decide +kernel) rfl)⟩
abbrev m_Md_add : z_M := (({ cls := "TypeKernelModel", name := "add", desc := "(II)V" } : Jvm.MethodName), prog_8_method_5_code, 3, (Option.none : Option Jvm.ClassFile.FieldType), [])
theorem cd_Md_add (HG : z_ok G) : z_cd G m_Md_add := Or.inl ⟨rfl, HG.mem (k_in 659 (by decide +kernel) rfl)⟩
abbrev m_Md_constant : z_M := (({ cls := "TypeKernelModel", name := "constant", desc := "(I)V" } : Jvm.MethodName), prog_8_method_25_code, 2, (Option.none : Option Jvm.ClassFile.FieldType), [])
theorem cd_Md_constant (HG : z_ok G) : z_cd G m_Md_constant := Or.inl ⟨rfl, HG.mem (k_in 663 (by decide +kernel) rfl)⟩
abbrev m_Md_addRow : z_M := (({ cls := "TypeKernelModel", name := "addRow", desc := "(II)V" } : Jvm.MethodName), prog_8_method_6_code, 4, (Option.none : Option Jvm.ClassFile.FieldType), [])
theorem cd_Md_addRow (HG : z_ok G) : z_cd G m_Md_addRow := Or.inl ⟨rfl, HG.mem (k_in 667 (by decide +kernel) rfl)⟩
abbrev m_Md_at : z_M := (({ cls := "TypeKernelModel", name := "at", desc := "(II)I" } : Jvm.MethodName), prog_8_method_4_code, 3, (Option.some Jvm.ClassFile.FieldType.int), [])
theorem cd_Md_at (HG : z_ok G) : z_cd G m_Md_at := Or.inl ⟨rfl, HG.mem (k_in 671 (by decide +kernel) rfl)⟩
abbrev m_Md_variable : z_M := (({ cls := "TypeKernelModel", name := "variable", desc := "(I)V" } : Jvm.MethodName), prog_8_method_26_code, 3, (Option.none : Option Jvm.ClassFile.FieldType), [])
theorem cd_Md_variable (HG : z_ok G) : z_cd G m_Md_variable := Or.inl ⟨rfl, HG.mem (k_in 675 (by decide +kernel) rfl)⟩
abbrev m_Md_measure : z_M := (({ cls := "TypeKernelModel", name := "measure", desc := "(IZ)V" } : Jvm.MethodName), prog_8_method_12_code, 7, (Option.none : Option Jvm.ClassFile.FieldType), [])
theorem cd_Md_measure (HG : z_ok G) : z_cd G m_Md_measure := Or.inl ⟨rfl, HG.mem (k_in 679 (by decide +kernel) rfl)⟩
abbrev m_Md_isPair : z_M := (({ cls := "TypeKernelModel", name := "isPair", desc := "(I)Z" } : Jvm.MethodName), prog_8_method_10_code, 1, (Option.some Jvm.ClassFile.FieldType.boolean), [])
theorem cd_Md_isPair (HG : z_ok G) : z_cd G m_Md_isPair := Or.inl ⟨rfl, HG.mem (k_in 682 (by decide +kernel) rfl)⟩
abbrev m_Md_addShifted : z_M := (({ cls := "TypeKernelModel", name := "addShifted", desc := "(IIIII)V" } : Jvm.MethodName), prog_8_method_13_code, 8, (Option.none : Option Jvm.ClassFile.FieldType), [])
theorem cd_Md_addShifted (HG : z_ok G) : z_cd G m_Md_addShifted := Or.inl ⟨rfl, HG.mem (k_in 686 (by decide +kernel) rfl)⟩
abbrev m_Md_apply : z_M := (({ cls := "TypeKernelModel", name := "apply", desc := "()V" } : Jvm.MethodName), prog_8_method_29_code, 1, (Option.none : Option Jvm.ClassFile.FieldType), [])
theorem cd_Md_apply (HG : z_ok G) : z_cd G m_Md_apply := Or.inl ⟨rfl, HG.mem (k_in 690 (by decide +kernel) rfl)⟩
abbrev m_Md_applied : z_M := (({ cls := "TypeKernelModel", name := "applied", desc := "()I" } : Jvm.MethodName), prog_8_method_27_code, 8, (Option.some Jvm.ClassFile.FieldType.int), [])
theorem cd_Md_applied (HG : z_ok G) : z_cd G m_Md_applied := Or.inl ⟨rfl, HG.mem (k_in 694 (by decide +kernel) rfl)⟩
abbrev m_Md_present : z_M := (({ cls := "TypeKernelModel", name := "present", desc := "(I)Z" } : Jvm.MethodName), prog_8_method_21_code, 2, (Option.some Jvm.ClassFile.FieldType.boolean), [])
theorem cd_Md_present (HG : z_ok G) : z_cd G m_Md_present := Or.inl ⟨rfl, HG.mem (k_in 698 (by decide +kernel) rfl)⟩
abbrev m_Md_normalOf : z_M := (({ cls := "TypeKernelModel", name := "normalOf", desc := "(I)I" } : Jvm.MethodName), prog_8_method_20_code, 2, (Option.some Jvm.ClassFile.FieldType.int), [])
theorem cd_Md_normalOf (HG : z_ok G) : z_cd G m_Md_normalOf := Or.inl ⟨rfl, HG.mem (k_in 702 (by decide +kernel) rfl)⟩
abbrev m_Md_copy : z_M := (({ cls := "TypeKernelModel", name := "copy", desc := "(II)V" } : Jvm.MethodName), prog_8_method_7_code, 3, (Option.none : Option Jvm.ClassFile.FieldType), [])
theorem cd_Md_copy (HG : z_ok G) : z_cd G m_Md_copy := Or.inl ⟨rfl, HG.mem (k_in 706 (by decide +kernel) rfl)⟩
abbrev m_Md_normalise : z_M := (({ cls := "TypeKernelModel", name := "normalise", desc := "()I" } : Jvm.MethodName), prog_8_method_19_code, 4, (Option.some Jvm.ClassFile.FieldType.int), [])
theorem cd_Md_normalise (HG : z_ok G) : z_cd G m_Md_normalise := Or.inl ⟨rfl, HG.mem (k_in 710 (by decide +kernel) rfl)⟩
abbrev m_Md_redex : z_M := (({ cls := "TypeKernelModel", name := "redex", desc := "(I)I" } : Jvm.MethodName), prog_8_method_17_code, 3, (Option.some Jvm.ClassFile.FieldType.int), [])
theorem cd_Md_redex (HG : z_ok G) : z_cd G m_Md_redex := Or.inl ⟨rfl, HG.mem (k_in 714 (by decide +kernel) rfl)⟩
abbrev m_Md_matches : z_M := (({ cls := "TypeKernelModel", name := "matches", desc := "(II)Z" } : Jvm.MethodName), prog_8_method_15_code, 6, (Option.some Jvm.ClassFile.FieldType.boolean), [])
theorem cd_Md_matches (HG : z_ok G) : z_cd G m_Md_matches := Or.inl ⟨rfl, HG.mem (k_in 718 (by decide +kernel) rfl)⟩
abbrev m_Md_end : z_M := (({ cls := "TypeKernelModel", name := "end", desc := "(II)I" } : Jvm.MethodName), prog_8_method_11_code, 5, (Option.some Jvm.ClassFile.FieldType.int), [])
theorem cd_Md_end (HG : z_ok G) : z_cd G m_Md_end := Or.inl ⟨rfl, HG.mem (k_in 722 (by decide +kernel) rfl)⟩
abbrev m_Md_step : z_M := (({ cls := "TypeKernelModel", name := "step", desc := "(II)V" } : Jvm.MethodName), prog_8_method_18_code, 6, (Option.none : Option Jvm.ClassFile.FieldType), [])
theorem cd_Md_step (HG : z_ok G) : z_cd G m_Md_step := Or.inl ⟨rfl, HG.mem (k_in 726 (by decide +kernel) rfl)⟩
abbrev m_Md_addPut : z_M := (({ cls := "TypeKernelModel", name := "addPut", desc := "(IIIIII)V" } : Jvm.MethodName), prog_8_method_14_code, 10, (Option.none : Option Jvm.ClassFile.FieldType), [])
theorem cd_Md_addPut (HG : z_ok G) : z_cd G m_Md_addPut := Or.inl ⟨rfl, HG.mem (k_in 730 (by decide +kernel) rfl)⟩
abbrev m_Md_addResult : z_M := (({ cls := "TypeKernelModel", name := "addResult", desc := "(I)V" } : Jvm.MethodName), prog_8_method_16_code, 6, (Option.none : Option Jvm.ClassFile.FieldType), [])
theorem cd_Md_addResult (HG : z_ok G) : z_cd G m_Md_addResult := Or.inl ⟨rfl, HG.mem (k_in 734 (by decide +kernel) rfl)⟩
abbrev m_Md_putTerm : z_M := (({ cls := "TypeKernelModel", name := "putTerm", desc := "(II)V" } : Jvm.MethodName), prog_8_method_28_code, 6, (Option.none : Option Jvm.ClassFile.FieldType), [])
theorem cd_Md_putTerm (HG : z_ok G) : z_cd G m_Md_putTerm := Or.inl ⟨rfl, HG.mem (k_in 738 (by decide +kernel) rfl)⟩
abbrev m_Md_assume : z_M := (({ cls := "TypeKernelModel", name := "assume", desc := "()V" } : Jvm.MethodName), prog_8_method_30_code, 2, (Option.none : Option Jvm.ClassFile.FieldType), [])
theorem cd_Md_assume (HG : z_ok G) : z_cd G m_Md_assume := Or.inl ⟨rfl, HG.mem (k_in 742 (by decide +kernel) rfl)⟩
abbrev m_Md_isOne : z_M := (({ cls := "TypeKernelModel", name := "isOne", desc := "(II)Z" } : Jvm.MethodName), prog_8_method_9_code, 3, (Option.some Jvm.ClassFile.FieldType.boolean), [])
theorem cd_Md_isOne (HG : z_ok G) : z_cd G m_Md_isOne := Or.inl ⟨rfl, HG.mem (k_in 746 (by decide +kernel) rfl)⟩
abbrev m_Md_lambda : z_M := (({ cls := "TypeKernelModel", name := "lambda", desc := "()V" } : Jvm.MethodName), prog_8_method_34_code, 3, (Option.none : Option Jvm.ClassFile.FieldType), [])
theorem cd_Md_lambda (HG : z_ok G) : z_cd G m_Md_lambda := Or.inl ⟨rfl, HG.mem (k_in 750 (by decide +kernel) rfl)⟩
abbrev m_Md_canBind : z_M := (({ cls := "TypeKernelModel", name := "canBind", desc := "()Z" } : Jvm.MethodName), prog_8_method_32_code, 1, (Option.some Jvm.ClassFile.FieldType.boolean), [])
theorem cd_Md_canBind (HG : z_ok G) : z_cd G m_Md_canBind := Or.inl ⟨rfl, HG.mem (k_in 754 (by decide +kernel) rfl)⟩
abbrev m_Md_alone : z_M := (({ cls := "TypeKernelModel", name := "alone", desc := "()Z" } : Jvm.MethodName), prog_8_method_22_code, 3, (Option.some Jvm.ClassFile.FieldType.boolean), [])
theorem cd_Md_alone (HG : z_ok G) : z_cd G m_Md_alone := Or.inl ⟨rfl, HG.mem (k_in 758 (by decide +kernel) rfl)⟩
abbrev m_Md_binds : z_M := (({ cls := "TypeKernelModel", name := "binds", desc := "(II)Z" } : Jvm.MethodName), prog_8_method_31_code, 3, (Option.some Jvm.ClassFile.FieldType.boolean), [])
theorem cd_Md_binds (HG : z_ok G) : z_cd G m_Md_binds := Or.inl ⟨rfl, HG.mem (k_in 762 (by decide +kernel) rfl)⟩
abbrev m_Md_close : z_M := (({ cls := "TypeKernelModel", name := "close", desc := "()V" } : Jvm.MethodName), prog_8_method_33_code, 1, (Option.none : Option Jvm.ClassFile.FieldType), [])
theorem cd_Md_close (HG : z_ok G) : z_cd G m_Md_close := Or.inl ⟨rfl, HG.mem (k_in 766 (by decide +kernel) rfl)⟩
abbrev m_Md_product : z_M := (({ cls := "TypeKernelModel", name := "product", desc := "()V" } : Jvm.MethodName), prog_8_method_35_code, 2, (Option.none : Option Jvm.ClassFile.FieldType), [])
theorem cd_Md_product (HG : z_ok G) : z_cd G m_Md_product := Or.inl ⟨rfl, HG.mem (k_in 770 (by decide +kernel) rfl)⟩
abbrev m_Md_declare : z_M := (({ cls := "TypeKernelModel", name := "declare", desc := "(Z)I" } : Jvm.MethodName), prog_8_method_36_code, 3, (Option.some Jvm.ClassFile.FieldType.int), [])
theorem cd_Md_declare (HG : z_ok G) : z_cd G m_Md_declare := Or.inl ⟨rfl, HG.mem (k_in 774 (by decide +kernel) rfl)⟩
abbrev m_Md_rule : z_M := (({ cls := "TypeKernelModel", name := "rule", desc := "()I" } : Jvm.MethodName), prog_8_method_39_code, 1, (Option.some Jvm.ClassFile.FieldType.int), [])
theorem cd_Md_rule (HG : z_ok G) : z_cd G m_Md_rule := Or.inl ⟨rfl, HG.mem (k_in 778 (by decide +kernel) rfl)⟩
abbrev m_Md_ruled : z_M := (({ cls := "TypeKernelModel", name := "ruled", desc := "()I" } : Jvm.MethodName), prog_8_method_38_code, 3, (Option.some Jvm.ClassFile.FieldType.int), [])
theorem cd_Md_ruled (HG : z_ok G) : z_cd G m_Md_ruled := Or.inl ⟨rfl, HG.mem (k_in 782 (by decide +kernel) rfl)⟩
abbrev m_Md_isLeft : z_M := (({ cls := "TypeKernelModel", name := "isLeft", desc := "(I)Z" } : Jvm.MethodName), prog_8_method_37_code, 9, (Option.some Jvm.ClassFile.FieldType.boolean), [])
theorem cd_Md_isLeft (HG : z_ok G) : z_cd G m_Md_isLeft := Or.inl ⟨rfl, HG.mem (k_in 786 (by decide +kernel) rfl)⟩
abbrev m_Md_equal : z_M := (({ cls := "TypeKernelModel", name := "equal", desc := "(II)Z" } : Jvm.MethodName), prog_8_method_8_code, 5, (Option.some Jvm.ClassFile.FieldType.boolean), [])
theorem cd_Md_equal (HG : z_ok G) : z_cd G m_Md_equal := Or.inl ⟨rfl, HG.mem (k_in 790 (by decide +kernel) rfl)⟩
abbrev m_Md_normal : z_M := (({ cls := "TypeKernelModel", name := "normal", desc := "()I" } : Jvm.MethodName), prog_8_method_40_code, 2, (Option.some Jvm.ClassFile.FieldType.int), [])
theorem cd_Md_normal (HG : z_ok G) : z_cd G m_Md_normal := Or.inl ⟨rfl, HG.mem (k_in 794 (by decide +kernel) rfl)⟩
abbrev m_Md_raise : z_M := (({ cls := "TypeKernelModel", name := "raise", desc := "(I)I" } : Jvm.MethodName), prog_8_method_3_code, 2, (Option.some Jvm.ClassFile.FieldType.int), [])
theorem cd_Md_raise (HG : z_ok G) : z_cd G m_Md_raise := Or.inl ⟨rfl, HG.mem (k_in 798 (by decide +kernel) rfl)⟩
abbrev m_Md_same : z_M := (({ cls := "TypeKernelModel", name := "same", desc := "()Z" } : Jvm.MethodName), prog_8_method_41_code, 3, (Option.some Jvm.ClassFile.FieldType.boolean), [])
theorem cd_Md_same (HG : z_ok G) : z_cd G m_Md_same := Or.inl ⟨rfl, HG.mem (k_in 802 (by decide +kernel) rfl)⟩
abbrev m_Md_drop : z_M := (({ cls := "TypeKernelModel", name := "drop", desc := "()Z" } : Jvm.MethodName), prog_8_method_42_code, 1, (Option.some Jvm.ClassFile.FieldType.boolean), [])
theorem cd_Md_drop (HG : z_ok G) : z_cd G m_Md_drop := Or.inl ⟨rfl, HG.mem (k_in 806 (by decide +kernel) rfl)⟩
abbrev m_Md_leave : z_M := (({ cls := "TypeKernelModel", name := "leave", desc := "()Z" } : Jvm.MethodName), prog_8_method_43_code, 1, (Option.some Jvm.ClassFile.FieldType.boolean), [])
theorem cd_Md_leave (HG : z_ok G) : z_cd G m_Md_leave := Or.inl ⟨rfl, HG.mem (k_in 810 (by decide +kernel) rfl)⟩
abbrev m_Md_counts : z_M := (({ cls := "TypeKernelModel", name := "counts", desc := "()I" } : Jvm.MethodName), prog_8_method_44_code, 1, (Option.some Jvm.ClassFile.FieldType.int), [])
theorem cd_Md_counts (HG : z_ok G) : z_cd G m_Md_counts := Or.inl ⟨rfl, HG.mem (k_in 814 (by decide +kernel) rfl)⟩
abbrev m_Md_judgement : z_M := (({ cls := "TypeKernelModel", name := "judgement", desc := "(IZI)I" } : Jvm.MethodName), prog_8_method_46_code, 4, (Option.some Jvm.ClassFile.FieldType.int), [])
theorem cd_Md_judgement (HG : z_ok G) : z_cd G m_Md_judgement := Or.inl ⟨rfl, HG.mem (k_in 818 (by decide +kernel) rfl)⟩
abbrev m_Md_seen : z_M := (({ cls := "TypeKernelModel", name := "seen", desc := "(II)I" } : Jvm.MethodName), prog_8_method_45_code, 3, (Option.some Jvm.ClassFile.FieldType.int), [])
theorem cd_Md_seen (HG : z_ok G) : z_cd G m_Md_seen := Or.inl ⟨rfl, HG.mem (k_in 822 (by decide +kernel) rfl)⟩
abbrev m_Md_made : z_M := (({ cls := "TypeKernelModel", name := "made", desc := "(I)I" } : Jvm.MethodName), prog_8_method_47_code, 2, (Option.some Jvm.ClassFile.FieldType.int), [])
theorem cd_Md_made (HG : z_ok G) : z_cd G m_Md_made := Or.inl ⟨rfl, HG.mem (k_in 826 (by decide +kernel) rfl)⟩
abbrev m_Md_entry : z_M := (({ cls := "TypeKernelModel", name := "entry", desc := "(II)I" } : Jvm.MethodName), prog_8_method_48_code, 3, (Option.some Jvm.ClassFile.FieldType.int), [])
theorem cd_Md_entry (HG : z_ok G) : z_cd G m_Md_entry := Or.inl ⟨rfl, HG.mem (k_in 830 (by decide +kernel) rfl)⟩
abbrev m_Md_type : z_M := (({ cls := "TypeKernelModel", name := "type", desc := "(II)I" } : Jvm.MethodName), prog_8_method_49_code, 3, (Option.some Jvm.ClassFile.FieldType.int), [])
theorem cd_Md_type (HG : z_ok G) : z_cd G m_Md_type := Or.inl ⟨rfl, HG.mem (k_in 834 (by decide +kernel) rfl)⟩
abbrev m_Md_side : z_M := (({ cls := "TypeKernelModel", name := "side", desc := "(IZI)I" } : Jvm.MethodName), prog_8_method_50_code, 4, (Option.some Jvm.ClassFile.FieldType.int), [])
theorem cd_Md_side (HG : z_ok G) : z_cd G m_Md_side := Or.inl ⟨rfl, HG.mem (k_in 838 (by decide +kernel) rfl)⟩
abbrev m_Lw_law : z_M := (x, code, maxLocals, ret, [])
theorem L_TK_11 (HG : z_ok G) : z_lnk G "TypeKernel" 11 F_TK 0 := Or.inl (HG.mem (k_in 135 (by decide +kernel) rfl))
theorem L_TK_11K (HG : z_ok G) : z_cls G 5 R_TK F_TK 12 t_TK := K_TK HG
theorem L_TK_15 (HG : z_ok G) : z_lnk G "TypeKernel" 15 F_TK 1 := Or.inl (HG.mem (k_in 136 (by decide +kernel) rfl))
theorem L_TK_15K (HG : z_ok G) : z_cls G 5 R_TK F_TK 12 t_TK := K_TK HG
theorem L_TK_21 (HG : z_ok G) : z_lnk G "TypeKernel" 21 F_TK 2 := Or.inl (HG.mem (k_in 137 (by decide +kernel) rfl))
theorem L_TK_21K (HG : z_ok G) : z_cls G 5 R_TK F_TK 12 t_TK := K_TK HG
theorem L_TK_25 (HG : z_ok G) : z_lnk G "TypeKernel" 25 F_TK 3 := Or.inl (HG.mem (k_in 138 (by decide +kernel) rfl))
theorem L_TK_25K (HG : z_ok G) : z_cls G 5 R_TK F_TK 12 t_TK := K_TK HG
theorem L_TK_28 (HG : z_ok G) : z_lnk G "TypeKernel" 28 F_TK 4 := Or.inl (HG.mem (k_in 139 (by decide +kernel) rfl))
theorem L_TK_28K (HG : z_ok G) : z_cls G 5 R_TK F_TK 12 t_TK := K_TK HG
theorem L_TK_31 (HG : z_ok G) : z_lnk G "TypeKernel" 31 F_TK 5 := Or.inl (HG.mem (k_in 140 (by decide +kernel) rfl))
theorem L_TK_31K (HG : z_ok G) : z_cls G 5 R_TK F_TK 12 t_TK := K_TK HG
theorem L_TK_35 (HG : z_ok G) : z_lnk G "TypeKernel" 35 F_TK 6 := Or.inl (HG.mem (k_in 141 (by decide +kernel) rfl))
theorem L_TK_35K (HG : z_ok G) : z_cls G 5 R_TK F_TK 12 t_TK := K_TK HG
theorem Y_TK_40 (HG : z_ok G) : z_Yi G "TypeKernel" 40 m_Rw_init := ⟨⟨cd_Rw_init HG, by decide +kernel, by decide, ⟨⟨by decide +kernel, by decide +kernel⟩, by decide +kernel⟩, Or.inl (HG.mem (k_in 31 (by decide +kernel) rfl))⟩, rfl, rfl, rfl, HG.mem (k_in 33 (by decide +kernel) rfl), HG.mem (k_in 32 (by decide +kernel) rfl)⟩
theorem L_TK_41 (HG : z_ok G) : z_lnk G "TypeKernel" 41 F_TK 7 := Or.inl (HG.mem (k_in 142 (by decide +kernel) rfl))
theorem L_TK_41K (HG : z_ok G) : z_cls G 5 R_TK F_TK 12 t_TK := K_TK HG
theorem Y_TK_45 (HG : z_ok G) : z_Yi G "TypeKernel" 45 m_Row_init := ⟨⟨cd_Row_init HG, by decide +kernel, by decide, ⟨⟨by decide +kernel, by decide +kernel⟩, by decide +kernel⟩, Or.inr ⟨_, HG.mem (k_in 114 (by decide +kernel) rfl)⟩⟩, rfl, rfl, rfl, HG.mem (k_in 41 (by decide +kernel) rfl), HG.mem (k_in 40 (by decide +kernel) rfl)⟩
theorem L_TK_46 (HG : z_ok G) : z_lnk G "TypeKernel" 46 F_TK 8 := Or.inl (HG.mem (k_in 143 (by decide +kernel) rfl))
theorem L_TK_46K (HG : z_ok G) : z_cls G 5 R_TK F_TK 12 t_TK := K_TK HG
theorem L_TK_50 (HG : z_ok G) : z_lnk G "TypeKernel" 50 F_TK 9 := Or.inl (HG.mem (k_in 144 (by decide +kernel) rfl))
theorem L_TK_50K (HG : z_ok G) : z_cls G 5 R_TK F_TK 12 t_TK := K_TK HG
theorem L_TK_53 (HG : z_ok G) : z_lnk G "TypeKernel" 53 F_TK 10 := Or.inl (HG.mem (k_in 145 (by decide +kernel) rfl))
theorem L_TK_53K (HG : z_ok G) : z_cls G 5 R_TK F_TK 12 t_TK := K_TK HG
theorem L_TK_56 (HG : z_ok G) : z_lnk G "TypeKernel" 56 F_TK 11 := Or.inl (HG.mem (k_in 146 (by decide +kernel) rfl))
theorem L_TK_56K (HG : z_ok G) : z_cls G 5 R_TK F_TK 12 t_TK := K_TK HG
theorem Y_TK_59 (HG : z_ok G) : z_Yi G "TypeKernel" 59 m_Jd_init := ⟨⟨cd_Jd_init HG, by decide +kernel, by decide, ⟨⟨by decide +kernel, by decide +kernel⟩, by decide +kernel⟩, Or.inr ⟨_, HG.mem (k_in 116 (by decide +kernel) rfl)⟩⟩, rfl, rfl, rfl, HG.mem (k_in 118 (by decide +kernel) rfl), HG.mem (k_in 117 (by decide +kernel) rfl)⟩
theorem Y_TK_60 (HG : z_ok G) : z_Yv G "TypeKernel" 60 m_TK_addJudgement 0 := ⟨⟨cd_TK_addJudgement HG, by decide +kernel, by decide, ⟨⟨by decide +kernel, by decide +kernel⟩, by decide +kernel⟩, Or.inl (HG.mem (k_in 240 (by decide +kernel) rfl))⟩, HG.mem (k_in 242 (by decide +kernel) rfl), HG.mem (k_inp 6 (by decide +kernel))⟩
theorem L_TK_64 (HG : z_ok G) : z_lnk G "TypeKernel" 64 F_Jd 0 := Or.inr ⟨_, HG.mem (k_in 123 (by decide +kernel) rfl)⟩
theorem L_TK_64K (HG : z_ok G) : z_cls G 1 R_Jd F_Jd 3 t_Jd := K_Jd HG
theorem Y_TK_67 (HG : z_ok G) : z_Yv G "TypeKernel" 67 m_Row_become 1 := ⟨⟨cd_Row_become HG, by decide +kernel, by decide, ⟨⟨by decide +kernel, by decide +kernel⟩, by decide +kernel⟩, Or.inl (HG.mem (k_in 309 (by decide +kernel) rfl))⟩, HG.mem (k_in 310 (by decide +kernel) rfl), HG.mem (k_in 311 (by decide +kernel) rfl)⟩
theorem L_TK_71 (HG : z_ok G) : z_lnk G "TypeKernel" 71 F_Jd 1 := Or.inr ⟨_, HG.mem (k_in 125 (by decide +kernel) rfl)⟩
theorem L_TK_71K (HG : z_ok G) : z_cls G 1 R_Jd F_Jd 3 t_Jd := K_Jd HG
theorem Y_TK_74 (HG : z_ok G) : z_Yv G "TypeKernel" 74 m_TK_isConstant 1 := ⟨⟨cd_TK_isConstant HG, by decide +kernel, by decide, ⟨⟨by decide +kernel, by decide +kernel⟩, by decide +kernel⟩, Or.inl (HG.mem (k_in 224 (by decide +kernel) rfl))⟩, HG.mem (k_in 226 (by decide +kernel) rfl), HG.mem (k_inp 5 (by decide +kernel))⟩
theorem Y_TK_81 (HG : z_ok G) : z_Yv G "TypeKernel" 81 m_Row_copy 1 := ⟨⟨cd_Row_copy HG, by decide +kernel, by decide, ⟨⟨by decide +kernel, by decide +kernel⟩, by decide +kernel⟩, Or.inl (HG.mem (k_in 359 (by decide +kernel) rfl))⟩, HG.mem (k_in 360 (by decide +kernel) rfl), HG.mem (k_in 361 (by decide +kernel) rfl)⟩
theorem Y_TK_85 (HG : z_ok G) : z_Yv G "TypeKernel" 85 m_TK_isEntry 1 := ⟨⟨cd_TK_isEntry HG, by decide +kernel, by decide, ⟨⟨by decide +kernel, by decide +kernel⟩, by decide +kernel⟩, Or.inl (HG.mem (k_in 212 (by decide +kernel) rfl))⟩, HG.mem (k_in 214 (by decide +kernel) rfl), HG.mem (k_inp 3 (by decide +kernel))⟩
theorem Y_TK_88 (HG : z_ok G) : z_Yv G "TypeKernel" 88 m_Row_clear 0 := ⟨⟨cd_Row_clear HG, by decide +kernel, by decide, ⟨⟨by decide +kernel, by decide +kernel⟩, by decide +kernel⟩, Or.inl (HG.mem (k_in 373 (by decide +kernel) rfl))⟩, HG.mem (k_in 314 (by decide +kernel) rfl), HG.mem (k_in 315 (by decide +kernel) rfl)⟩
theorem Y_TK_91 (HG : z_ok G) : z_Yv G "TypeKernel" 91 m_TK_entryAt 1 := ⟨⟨cd_TK_entryAt HG, by decide +kernel, by decide, ⟨⟨by decide +kernel, by decide +kernel⟩, by decide +kernel⟩, Or.inl (HG.mem (k_in 216 (by decide +kernel) rfl))⟩, HG.mem (k_in 218 (by decide +kernel) rfl), HG.mem (k_inp 4 (by decide +kernel))⟩
theorem Y_TK_95 (HG : z_ok G) : z_Yv G "TypeKernel" 95 m_Rw_appendLifted 4 := ⟨⟨cd_Rw_appendLifted HG, by decide +kernel, by decide, ⟨⟨by decide +kernel, by decide +kernel⟩, by decide +kernel⟩, Or.inl (HG.mem (k_in 374 (by decide +kernel) rfl))⟩, HG.mem (k_in 375 (by decide +kernel) rfl), HG.mem (k_in 376 (by decide +kernel) rfl)⟩
theorem Y_TK_99 (HG : z_ok G) : z_Yv G "TypeKernel" 99 m_TK_presentJudgement 1 := ⟨⟨cd_TK_presentJudgement HG, by decide +kernel, by decide, ⟨⟨by decide +kernel, by decide +kernel⟩, by decide +kernel⟩, Or.inl (HG.mem (k_in 402 (by decide +kernel) rfl))⟩, HG.mem (k_in 404 (by decide +kernel) rfl), HG.mem (k_inp 8 (by decide +kernel))⟩
theorem Y_TK_103 (HG : z_ok G) : z_Yv G "TypeKernel" 103 m_Rw_normalize 2 := ⟨⟨cd_Rw_normalize HG, by decide +kernel, by decide, ⟨⟨by decide +kernel, by decide +kernel⟩, by decide +kernel⟩, Or.inl (HG.mem (k_in 425 (by decide +kernel) rfl))⟩, HG.mem (k_in 426 (by decide +kernel) rfl), HG.mem (k_in 427 (by decide +kernel) rfl)⟩
theorem Y_TK_107 (HG : z_ok G) : z_Yv G "TypeKernel" 107 m_Row_at 1 := ⟨⟨cd_Row_at HG, by decide +kernel, by decide, ⟨⟨by decide +kernel, by decide +kernel⟩, by decide +kernel⟩, Or.inl (HG.mem (k_in 200 (by decide +kernel) rfl))⟩, HG.mem (k_in 201 (by decide +kernel) rfl), HG.mem (k_in 202 (by decide +kernel) rfl)⟩
theorem Y_TK_114 (HG : z_ok G) : z_Yv G "TypeKernel" 114 m_Row_endOf 1 := ⟨⟨cd_Row_endOf HG, by decide +kernel, by decide, ⟨⟨by decide +kernel, by decide +kernel⟩, by decide +kernel⟩, Or.inl (HG.mem (k_in 489 (by decide +kernel) rfl))⟩, HG.mem (k_in 439 (by decide +kernel) rfl), HG.mem (k_in 440 (by decide +kernel) rfl)⟩
theorem Y_TK_117 (HG : z_ok G) : z_Yv G "TypeKernel" 117 m_Row_isPart 3 := ⟨⟨cd_Row_isPart HG, by decide +kernel, by decide, ⟨⟨by decide +kernel, by decide +kernel⟩, by decide +kernel⟩, Or.inl (HG.mem (k_in 490 (by decide +kernel) rfl))⟩, HG.mem (k_in 491 (by decide +kernel) rfl), HG.mem (k_in 492 (by decide +kernel) rfl)⟩
theorem Y_TK_121 (HG : z_ok G) : z_Yv G "TypeKernel" 121 m_Row_join 3 := ⟨⟨cd_Row_join HG, by decide +kernel, by decide, ⟨⟨by decide +kernel, by decide +kernel⟩, by decide +kernel⟩, Or.inl (HG.mem (k_in 494 (by decide +kernel) rfl))⟩, HG.mem (k_in 495 (by decide +kernel) rfl), HG.mem (k_in 496 (by decide +kernel) rfl)⟩
theorem Y_TK_125 (HG : z_ok G) : z_Yv G "TypeKernel" 125 m_Rw_appendBodyWith 5 := ⟨⟨cd_Rw_appendBodyWith HG, by decide +kernel, by decide, ⟨⟨by decide +kernel, by decide +kernel⟩, by decide +kernel⟩, Or.inl (HG.mem (k_in 500 (by decide +kernel) rfl))⟩, HG.mem (k_in 452 (by decide +kernel) rfl), HG.mem (k_in 453 (by decide +kernel) rfl)⟩
theorem Y_TK_132 (HG : z_ok G) : z_Yv G "TypeKernel" 132 m_Row_is 1 := ⟨⟨cd_Row_is HG, by decide +kernel, by decide, ⟨⟨by decide +kernel, by decide +kernel⟩, by decide +kernel⟩, Or.inl (HG.mem (k_in 508 (by decide +kernel) rfl))⟩, HG.mem (k_in 509 (by decide +kernel) rfl), HG.mem (k_in 510 (by decide +kernel) rfl)⟩
theorem Y_TK_135 (HG : z_ok G) : z_Yv G "TypeKernel" 135 m_TK_onlyPresentJudgement 0 := ⟨⟨cd_TK_onlyPresentJudgement HG, by decide +kernel, by decide, ⟨⟨by decide +kernel, by decide +kernel⟩, by decide +kernel⟩, Or.inl (HG.mem (k_in 519 (by decide +kernel) rfl))⟩, HG.mem (k_in 521 (by decide +kernel) rfl), HG.mem (k_inp 16 (by decide +kernel))⟩
theorem Y_TK_138 (HG : z_ok G) : z_Yv G "TypeKernel" 138 m_TK_bind 1 := ⟨⟨cd_TK_bind HG, by decide +kernel, by decide, ⟨⟨by decide +kernel, by decide +kernel⟩, by decide +kernel⟩, Or.inl (HG.mem (k_in 523 (by decide +kernel) rfl))⟩, HG.mem (k_in 525 (by decide +kernel) rfl), HG.mem (k_inp 17 (by decide +kernel))⟩
theorem Y_TK_142 (HG : z_ok G) : z_Ys G "TypeKernel" 142 m_TK_hasSort 1 := ⟨⟨cd_TK_hasSort HG, by decide +kernel, by decide, ⟨⟨by decide +kernel, by decide +kernel⟩, by decide +kernel⟩, Or.inl (HG.mem (k_in 534 (by decide +kernel) rfl))⟩, HG.mem (k_in 535 (by decide +kernel) rfl), HG.mem (k_in 1 (by decide +kernel) rfl)⟩
theorem L_TK_149 (HG : z_ok G) : z_lnk G "TypeKernel" 149 F_Rw 1 := Or.inr ⟨_, HG.mem (k_in 93 (by decide +kernel) rfl)⟩
theorem L_TK_149K (HG : z_ok G) : z_cls G 4 R_Rw F_Rw 7 t_Rw := K_Rw HG
theorem Y_TK_152 (HG : z_ok G) : z_Yv G "TypeKernel" 152 m_TK_isLeftSide 1 := ⟨⟨cd_TK_isLeftSide HG, by decide +kernel, by decide, ⟨⟨by decide +kernel, by decide +kernel⟩, by decide +kernel⟩, Or.inl (HG.mem (k_in 551 (by decide +kernel) rfl))⟩, HG.mem (k_in 553 (by decide +kernel) rfl), HG.mem (k_inp 18 (by decide +kernel))⟩
theorem Y_TK_156 (HG : z_ok G) : z_Yv G "TypeKernel" 156 m_Row_equalsRow 1 := ⟨⟨cd_Row_equalsRow HG, by decide +kernel, by decide, ⟨⟨by decide +kernel, by decide +kernel⟩, by decide +kernel⟩, Or.inl (HG.mem (k_in 566 (by decide +kernel) rfl))⟩, HG.mem (k_in 567 (by decide +kernel) rfl), HG.mem (k_in 568 (by decide +kernel) rfl)⟩
theorem Y_TK_159 (HG : z_ok G) : z_Yv G "TypeKernel" 159 m_Rw_addRule 3 := ⟨⟨cd_Rw_addRule HG, by decide +kernel, by decide, ⟨⟨by decide +kernel, by decide +kernel⟩, by decide +kernel⟩, Or.inl (HG.mem (k_in 571 (by decide +kernel) rfl))⟩, HG.mem (k_in 572 (by decide +kernel) rfl), HG.mem (k_in 573 (by decide +kernel) rfl)⟩
theorem Y_TK_163 (HG : z_ok G) : z_Yv G "TypeKernel" 163 m_TK_neededJudgement 1 := ⟨⟨cd_TK_neededJudgement HG, by decide +kernel, by decide, ⟨⟨by decide +kernel, by decide +kernel⟩, by decide +kernel⟩, Or.inl (HG.mem (k_in 406 (by decide +kernel) rfl))⟩, HG.mem (k_in 408 (by decide +kernel) rfl), HG.mem (k_inp 9 (by decide +kernel))⟩
theorem L_TK_166 (HG : z_ok G) : z_lnk G "TypeKernel" 166 F_Jd 2 := Or.inr ⟨_, HG.mem (k_in 127 (by decide +kernel) rfl)⟩
theorem L_TK_166K (HG : z_ok G) : z_cls G 1 R_Jd F_Jd 3 t_Jd := K_Jd HG
theorem Y_TK_169 (HG : z_ok G) : z_Yv G "TypeKernel" 169 m_TK_presentCount 0 := ⟨⟨cd_TK_presentCount HG, by decide +kernel, by decide, ⟨⟨by decide +kernel, by decide +kernel⟩, by decide +kernel⟩, Or.inl (HG.mem (k_in 180 (by decide +kernel) rfl))⟩, HG.mem (k_in 182 (by decide +kernel) rfl), HG.mem (k_inp 0 (by decide +kernel))⟩
theorem Y_TK_173 (HG : z_ok G) : z_Yv G "TypeKernel" 173 m_TK_isJudgement 1 := ⟨⟨cd_TK_isJudgement HG, by decide +kernel, by decide, ⟨⟨by decide +kernel, by decide +kernel⟩, by decide +kernel⟩, Or.inl (HG.mem (k_in 192 (by decide +kernel) rfl))⟩, HG.mem (k_in 194 (by decide +kernel) rfl), HG.mem (k_inp 1 (by decide +kernel))⟩
theorem Y_TK_176 (HG : z_ok G) : z_Yv G "TypeKernel" 176 m_TK_judgementAt 1 := ⟨⟨cd_TK_judgementAt HG, by decide +kernel, by decide, ⟨⟨by decide +kernel, by decide +kernel⟩, by decide +kernel⟩, Or.inl (HG.mem (k_in 196 (by decide +kernel) rfl))⟩, HG.mem (k_in 198 (by decide +kernel) rfl), HG.mem (k_inp 2 (by decide +kernel))⟩
theorem L_TK_179 (HG : z_ok G) : z_lnk G "TypeKernel" 179 F_Rw 0 := Or.inr ⟨_, HG.mem (k_in 91 (by decide +kernel) rfl)⟩
theorem L_TK_179K (HG : z_ok G) : z_cls G 4 R_Rw F_Rw 7 t_Rw := K_Rw HG
theorem L_TK_183 (HG : z_ok G) : z_lnk G "TypeKernel" 183 F_Ru 2 := Or.inr ⟨_, HG.mem (k_in 82 (by decide +kernel) rfl)⟩
theorem L_TK_183K (HG : z_ok G) : z_cls G 2 R_Ru F_Ru 3 t_Ru := K_Ru HG
theorem L_TK_188 (HG : z_ok G) : z_lnk G "TypeKernel" 188 F_Ru 1 := Or.inr ⟨_, HG.mem (k_in 79 (by decide +kernel) rfl)⟩
theorem L_TK_188K (HG : z_ok G) : z_cls G 2 R_Ru F_Ru 3 t_Ru := K_Ru HG
theorem L_TK_191 (HG : z_ok G) : z_lnk G "TypeKernel" 191 F_Ru 0 := Or.inr ⟨_, HG.mem (k_in 76 (by decide +kernel) rfl)⟩
theorem L_TK_191K (HG : z_ok G) : z_cls G 2 R_Ru F_Ru 3 t_Ru := K_Ru HG
theorem Y_TK_194 (HG : z_ok G) : z_Yv G "TypeKernel" 194 m_Row_headOf 1 := ⟨⟨cd_Row_headOf HG, by decide +kernel, by decide, ⟨⟨by decide +kernel, by decide +kernel⟩, by decide +kernel⟩, Or.inl (HG.mem (k_in 555 (by decide +kernel) rfl))⟩, HG.mem (k_in 556 (by decide +kernel) rfl), HG.mem (k_in 557 (by decide +kernel) rfl)⟩
theorem L_TK_197 (HG : z_ok G) : z_lnk G "TypeKernel" 197 F_Row 1 := Or.inr ⟨_, HG.mem (k_in 46 (by decide +kernel) rfl)⟩
theorem L_TK_197K (HG : z_ok G) : z_cls G 0 R_Row F_Row 2 t_Row := K_Row HG
theorem Y_TK_200 (HG : z_ok G) : z_Ys G "TypeKernel" 200 m_TK_mayStandInPattern 2 := ⟨⟨cd_TK_mayStandInPattern HG, by decide +kernel, by decide, ⟨⟨by decide +kernel, by decide +kernel⟩, by decide +kernel⟩, Or.inl (HG.mem (k_in 559 (by decide +kernel) rfl))⟩, HG.mem (k_in 560 (by decide +kernel) rfl), HG.mem (k_in 1 (by decide +kernel) rfl)⟩
theorem Y_TK_204 (HG : z_ok G) : z_Yv G "TypeKernel" 204 m_Row_countOf 1 := ⟨⟨cd_Row_countOf HG, by decide +kernel, by decide, ⟨⟨by decide +kernel, by decide +kernel⟩, by decide +kernel⟩, Or.inl (HG.mem (k_in 562 (by decide +kernel) rfl))⟩, HG.mem (k_in 563 (by decide +kernel) rfl), HG.mem (k_in 564 (by decide +kernel) rfl)⟩
theorem L_Md_7 (HG : z_ok G) : z_lnk G "TypeKernelModel" 7 F_Md 1 := Or.inl (HG.mem (k_in 596 (by decide +kernel) rfl))
theorem L_Md_7K (HG : z_ok G) : z_cls G 6 R_Md F_Md 16 t_Md := K_Md HG
theorem L_Md_13 (HG : z_ok G) : z_lnk G "TypeKernelModel" 13 F_Md 2 := Or.inl (HG.mem (k_in 597 (by decide +kernel) rfl))
theorem L_Md_13K (HG : z_ok G) : z_cls G 6 R_Md F_Md 16 t_Md := K_Md HG
theorem L_Md_16 (HG : z_ok G) : z_lnk G "TypeKernelModel" 16 F_Md 4 := Or.inl (HG.mem (k_in 599 (by decide +kernel) rfl))
theorem L_Md_16K (HG : z_ok G) : z_cls G 6 R_Md F_Md 16 t_Md := K_Md HG
theorem L_Md_19 (HG : z_ok G) : z_lnk G "TypeKernelModel" 19 F_Md 7 := Or.inl (HG.mem (k_in 602 (by decide +kernel) rfl))
theorem L_Md_19K (HG : z_ok G) : z_cls G 6 R_Md F_Md 16 t_Md := K_Md HG
theorem L_Md_23 (HG : z_ok G) : z_lnk G "TypeKernelModel" 23 F_Md 9 := Or.inl (HG.mem (k_in 604 (by decide +kernel) rfl))
theorem L_Md_23K (HG : z_ok G) : z_cls G 6 R_Md F_Md 16 t_Md := K_Md HG
theorem L_Md_26 (HG : z_ok G) : z_lnk G "TypeKernelModel" 26 F_Md 11 := Or.inl (HG.mem (k_in 606 (by decide +kernel) rfl))
theorem L_Md_26K (HG : z_ok G) : z_cls G 6 R_Md F_Md 16 t_Md := K_Md HG
theorem L_Md_29 (HG : z_ok G) : z_lnk G "TypeKernelModel" 29 F_Md 12 := Or.inl (HG.mem (k_in 607 (by decide +kernel) rfl))
theorem L_Md_29K (HG : z_ok G) : z_cls G 6 R_Md F_Md 16 t_Md := K_Md HG
theorem L_Md_32 (HG : z_ok G) : z_lnk G "TypeKernelModel" 32 F_Md 13 := Or.inl (HG.mem (k_in 608 (by decide +kernel) rfl))
theorem L_Md_32K (HG : z_ok G) : z_cls G 6 R_Md F_Md 16 t_Md := K_Md HG
theorem L_Md_35 (HG : z_ok G) : z_lnk G "TypeKernelModel" 35 F_Md 14 := Or.inl (HG.mem (k_in 609 (by decide +kernel) rfl))
theorem L_Md_35K (HG : z_ok G) : z_cls G 6 R_Md F_Md 16 t_Md := K_Md HG
theorem L_Md_38 (HG : z_ok G) : z_lnk G "TypeKernelModel" 38 F_Md 15 := Or.inl (HG.mem (k_in 610 (by decide +kernel) rfl))
theorem L_Md_38K (HG : z_ok G) : z_cls G 6 R_Md F_Md 16 t_Md := K_Md HG
theorem L_Md_41 (HG : z_ok G) : z_lnk G "TypeKernelModel" 41 F_Md 0 := Or.inl (HG.mem (k_in 595 (by decide +kernel) rfl))
theorem L_Md_41K (HG : z_ok G) : z_cls G 6 R_Md F_Md 16 t_Md := K_Md HG
theorem L_Md_45 (HG : z_ok G) : z_lnk G "TypeKernelModel" 45 F_Md 10 := Or.inl (HG.mem (k_in 605 (by decide +kernel) rfl))
theorem L_Md_45K (HG : z_ok G) : z_cls G 6 R_Md F_Md 16 t_Md := K_Md HG
theorem Y_Md_49 (HG : z_ok G) : z_Yv G "TypeKernelModel" 49 m_Md_at 2 := ⟨⟨cd_Md_at HG, by decide +kernel, by decide, ⟨⟨by decide +kernel, by decide +kernel⟩, by decide +kernel⟩, Or.inl (HG.mem (k_in 668 (by decide +kernel) rfl))⟩, HG.mem (k_in 670 (by decide +kernel) rfl), HG.mem (k_inp 22 (by decide +kernel))⟩
theorem Y_Md_53 (HG : z_ok G) : z_Yv G "TypeKernelModel" 53 m_Md_add 2 := ⟨⟨cd_Md_add HG, by decide +kernel, by decide, ⟨⟨by decide +kernel, by decide +kernel⟩, by decide +kernel⟩, Or.inl (HG.mem (k_in 656 (by decide +kernel) rfl))⟩, HG.mem (k_in 658 (by decide +kernel) rfl), HG.mem (k_inp 20 (by decide +kernel))⟩
theorem Y_Md_57 (HG : z_ok G) : z_Yv G "TypeKernelModel" 57 m_Md_addRow 2 := ⟨⟨cd_Md_addRow HG, by decide +kernel, by decide, ⟨⟨by decide +kernel, by decide +kernel⟩, by decide +kernel⟩, Or.inl (HG.mem (k_in 664 (by decide +kernel) rfl))⟩, HG.mem (k_in 666 (by decide +kernel) rfl), HG.mem (k_inp 21 (by decide +kernel))⟩
theorem Y_Md_60 (HG : z_ok G) : z_Ys G "TypeKernelModel" 60 m_Md_isPair 1 := ⟨⟨cd_Md_isPair HG, by decide +kernel, by decide, ⟨⟨by decide +kernel, by decide +kernel⟩, by decide +kernel⟩, Or.inl (HG.mem (k_in 680 (by decide +kernel) rfl))⟩, HG.mem (k_in 681 (by decide +kernel) rfl), HG.mem (k_in 7 (by decide +kernel) rfl)⟩
theorem Y_Md_64 (HG : z_ok G) : z_Yv G "TypeKernelModel" 64 m_Md_addShifted 5 := ⟨⟨cd_Md_addShifted HG, by decide +kernel, by decide, ⟨⟨by decide +kernel, by decide +kernel⟩, by decide +kernel⟩, Or.inl (HG.mem (k_in 683 (by decide +kernel) rfl))⟩, HG.mem (k_in 685 (by decide +kernel) rfl), HG.mem (k_inp 24 (by decide +kernel))⟩
theorem Y_Md_68 (HG : z_ok G) : z_Yv G "TypeKernelModel" 68 m_Md_end 2 := ⟨⟨cd_Md_end HG, by decide +kernel, by decide, ⟨⟨by decide +kernel, by decide +kernel⟩, by decide +kernel⟩, Or.inl (HG.mem (k_in 719 (by decide +kernel) rfl))⟩, HG.mem (k_in 721 (by decide +kernel) rfl), HG.mem (k_inp 32 (by decide +kernel))⟩
theorem Y_Md_71 (HG : z_ok G) : z_Yv G "TypeKernelModel" 71 m_Md_measure 2 := ⟨⟨cd_Md_measure HG, by decide +kernel, by decide, ⟨⟨by decide +kernel, by decide +kernel⟩, by decide +kernel⟩, Or.inl (HG.mem (k_in 676 (by decide +kernel) rfl))⟩, HG.mem (k_in 678 (by decide +kernel) rfl), HG.mem (k_inp 23 (by decide +kernel))⟩
theorem L_Md_75 (HG : z_ok G) : z_lnk G "TypeKernelModel" 75 F_Md 8 := Or.inl (HG.mem (k_in 603 (by decide +kernel) rfl))
theorem L_Md_75K (HG : z_ok G) : z_cls G 6 R_Md F_Md 16 t_Md := K_Md HG
theorem Y_Md_78 (HG : z_ok G) : z_Yv G "TypeKernelModel" 78 m_Md_matches 2 := ⟨⟨cd_Md_matches HG, by decide +kernel, by decide, ⟨⟨by decide +kernel, by decide +kernel⟩, by decide +kernel⟩, Or.inl (HG.mem (k_in 715 (by decide +kernel) rfl))⟩, HG.mem (k_in 717 (by decide +kernel) rfl), HG.mem (k_inp 31 (by decide +kernel))⟩
theorem Y_Md_82 (HG : z_ok G) : z_Yv G "TypeKernelModel" 82 m_Md_addPut 6 := ⟨⟨cd_Md_addPut HG, by decide +kernel, by decide, ⟨⟨by decide +kernel, by decide +kernel⟩, by decide +kernel⟩, Or.inl (HG.mem (k_in 727 (by decide +kernel) rfl))⟩, HG.mem (k_in 729 (by decide +kernel) rfl), HG.mem (k_inp 34 (by decide +kernel))⟩
theorem Y_Md_86 (HG : z_ok G) : z_Yv G "TypeKernelModel" 86 m_Md_addResult 1 := ⟨⟨cd_Md_addResult HG, by decide +kernel, by decide, ⟨⟨by decide +kernel, by decide +kernel⟩, by decide +kernel⟩, Or.inl (HG.mem (k_in 731 (by decide +kernel) rfl))⟩, HG.mem (k_in 733 (by decide +kernel) rfl), HG.mem (k_inp 35 (by decide +kernel))⟩
theorem Y_Md_90 (HG : z_ok G) : z_Yv G "TypeKernelModel" 90 m_Md_copy 2 := ⟨⟨cd_Md_copy HG, by decide +kernel, by decide, ⟨⟨by decide +kernel, by decide +kernel⟩, by decide +kernel⟩, Or.inl (HG.mem (k_in 703 (by decide +kernel) rfl))⟩, HG.mem (k_in 705 (by decide +kernel) rfl), HG.mem (k_inp 28 (by decide +kernel))⟩
theorem Y_Md_93 (HG : z_ok G) : z_Yv G "TypeKernelModel" 93 m_Md_redex 1 := ⟨⟨cd_Md_redex HG, by decide +kernel, by decide, ⟨⟨by decide +kernel, by decide +kernel⟩, by decide +kernel⟩, Or.inl (HG.mem (k_in 711 (by decide +kernel) rfl))⟩, HG.mem (k_in 713 (by decide +kernel) rfl), HG.mem (k_inp 30 (by decide +kernel))⟩
theorem Y_Md_97 (HG : z_ok G) : z_Yv G "TypeKernelModel" 97 m_Md_step 2 := ⟨⟨cd_Md_step HG, by decide +kernel, by decide, ⟨⟨by decide +kernel, by decide +kernel⟩, by decide +kernel⟩, Or.inl (HG.mem (k_in 723 (by decide +kernel) rfl))⟩, HG.mem (k_in 725 (by decide +kernel) rfl), HG.mem (k_inp 33 (by decide +kernel))⟩
theorem Y_Md_100 (HG : z_ok G) : z_Yv G "TypeKernelModel" 100 m_Md_normalise 0 := ⟨⟨cd_Md_normalise HG, by decide +kernel, by decide, ⟨⟨by decide +kernel, by decide +kernel⟩, by decide +kernel⟩, Or.inl (HG.mem (k_in 707 (by decide +kernel) rfl))⟩, HG.mem (k_in 709 (by decide +kernel) rfl), HG.mem (k_inp 29 (by decide +kernel))⟩
theorem L_Md_104 (HG : z_ok G) : z_lnk G "TypeKernelModel" 104 F_Md 5 := Or.inl (HG.mem (k_in 600 (by decide +kernel) rfl))
theorem L_Md_104K (HG : z_ok G) : z_cls G 6 R_Md F_Md 16 t_Md := K_Md HG
theorem L_Md_107 (HG : z_ok G) : z_lnk G "TypeKernelModel" 107 F_Md 3 := Or.inl (HG.mem (k_in 598 (by decide +kernel) rfl))
theorem L_Md_107K (HG : z_ok G) : z_cls G 6 R_Md F_Md 16 t_Md := K_Md HG
theorem Y_Md_110 (HG : z_ok G) : z_Yv G "TypeKernelModel" 110 m_Md_present 1 := ⟨⟨cd_Md_present HG, by decide +kernel, by decide, ⟨⟨by decide +kernel, by decide +kernel⟩, by decide +kernel⟩, Or.inl (HG.mem (k_in 695 (by decide +kernel) rfl))⟩, HG.mem (k_in 697 (by decide +kernel) rfl), HG.mem (k_inp 26 (by decide +kernel))⟩
theorem Y_Md_113 (HG : z_ok G) : z_Yv G "TypeKernelModel" 113 m_Md_push 0 := ⟨⟨cd_Md_push HG, by decide +kernel, by decide, ⟨⟨by decide +kernel, by decide +kernel⟩, by decide +kernel⟩, Or.inl (HG.mem (k_in 652 (by decide +kernel) rfl))⟩, HG.mem (k_in 654 (by decide +kernel) rfl), HG.mem (k_inp 19 (by decide +kernel))⟩
theorem L_Md_117 (HG : z_ok G) : z_lnk G "TypeKernelModel" 117 F_Md 6 := Or.inl (HG.mem (k_in 601 (by decide +kernel) rfl))
theorem L_Md_117K (HG : z_ok G) : z_cls G 6 R_Md F_Md 16 t_Md := K_Md HG
theorem Y_Md_120 (HG : z_ok G) : z_Yv G "TypeKernelModel" 120 m_Md_normalOf 1 := ⟨⟨cd_Md_normalOf HG, by decide +kernel, by decide, ⟨⟨by decide +kernel, by decide +kernel⟩, by decide +kernel⟩, Or.inl (HG.mem (k_in 699 (by decide +kernel) rfl))⟩, HG.mem (k_in 701 (by decide +kernel) rfl), HG.mem (k_inp 27 (by decide +kernel))⟩
theorem Y_Md_123 (HG : z_ok G) : z_Yv G "TypeKernelModel" 123 m_Md_putTerm 2 := ⟨⟨cd_Md_putTerm HG, by decide +kernel, by decide, ⟨⟨by decide +kernel, by decide +kernel⟩, by decide +kernel⟩, Or.inl (HG.mem (k_in 735 (by decide +kernel) rfl))⟩, HG.mem (k_in 737 (by decide +kernel) rfl), HG.mem (k_inp 36 (by decide +kernel))⟩
theorem Y_Md_126 (HG : z_ok G) : z_Yv G "TypeKernelModel" 126 m_Md_applied 0 := ⟨⟨cd_Md_applied HG, by decide +kernel, by decide, ⟨⟨by decide +kernel, by decide +kernel⟩, by decide +kernel⟩, Or.inl (HG.mem (k_in 691 (by decide +kernel) rfl))⟩, HG.mem (k_in 693 (by decide +kernel) rfl), HG.mem (k_inp 25 (by decide +kernel))⟩
theorem Y_Md_129 (HG : z_ok G) : z_Yv G "TypeKernelModel" 129 m_Md_isOne 2 := ⟨⟨cd_Md_isOne HG, by decide +kernel, by decide, ⟨⟨by decide +kernel, by decide +kernel⟩, by decide +kernel⟩, Or.inl (HG.mem (k_in 743 (by decide +kernel) rfl))⟩, HG.mem (k_in 745 (by decide +kernel) rfl), HG.mem (k_inp 37 (by decide +kernel))⟩
theorem Y_Md_132 (HG : z_ok G) : z_Yv G "TypeKernelModel" 132 m_Md_alone 0 := ⟨⟨cd_Md_alone HG, by decide +kernel, by decide, ⟨⟨by decide +kernel, by decide +kernel⟩, by decide +kernel⟩, Or.inl (HG.mem (k_in 755 (by decide +kernel) rfl))⟩, HG.mem (k_in 757 (by decide +kernel) rfl), HG.mem (k_inp 39 (by decide +kernel))⟩
theorem Y_Md_135 (HG : z_ok G) : z_Yv G "TypeKernelModel" 135 m_Md_canBind 0 := ⟨⟨cd_Md_canBind HG, by decide +kernel, by decide, ⟨⟨by decide +kernel, by decide +kernel⟩, by decide +kernel⟩, Or.inl (HG.mem (k_in 751 (by decide +kernel) rfl))⟩, HG.mem (k_in 753 (by decide +kernel) rfl), HG.mem (k_inp 38 (by decide +kernel))⟩
theorem Y_Md_138 (HG : z_ok G) : z_Yv G "TypeKernelModel" 138 m_Md_binds 2 := ⟨⟨cd_Md_binds HG, by decide +kernel, by decide, ⟨⟨by decide +kernel, by decide +kernel⟩, by decide +kernel⟩, Or.inl (HG.mem (k_in 759 (by decide +kernel) rfl))⟩, HG.mem (k_in 761 (by decide +kernel) rfl), HG.mem (k_inp 40 (by decide +kernel))⟩
theorem Y_Md_141 (HG : z_ok G) : z_Yv G "TypeKernelModel" 141 m_Md_close 0 := ⟨⟨cd_Md_close HG, by decide +kernel, by decide, ⟨⟨by decide +kernel, by decide +kernel⟩, by decide +kernel⟩, Or.inl (HG.mem (k_in 763 (by decide +kernel) rfl))⟩, HG.mem (k_in 765 (by decide +kernel) rfl), HG.mem (k_inp 41 (by decide +kernel))⟩
theorem Y_Md_144 (HG : z_ok G) : z_Yv G "TypeKernelModel" 144 m_Md_isLeft 1 := ⟨⟨cd_Md_isLeft HG, by decide +kernel, by decide, ⟨⟨by decide +kernel, by decide +kernel⟩, by decide +kernel⟩, Or.inl (HG.mem (k_in 783 (by decide +kernel) rfl))⟩, HG.mem (k_in 785 (by decide +kernel) rfl), HG.mem (k_inp 43 (by decide +kernel))⟩
theorem Y_Md_147 (HG : z_ok G) : z_Yv G "TypeKernelModel" 147 m_Md_equal 2 := ⟨⟨cd_Md_equal HG, by decide +kernel, by decide, ⟨⟨by decide +kernel, by decide +kernel⟩, by decide +kernel⟩, Or.inl (HG.mem (k_in 787 (by decide +kernel) rfl))⟩, HG.mem (k_in 789 (by decide +kernel) rfl), HG.mem (k_inp 44 (by decide +kernel))⟩
theorem Y_Md_150 (HG : z_ok G) : z_Yv G "TypeKernelModel" 150 m_Md_ruled 0 := ⟨⟨cd_Md_ruled HG, by decide +kernel, by decide, ⟨⟨by decide +kernel, by decide +kernel⟩, by decide +kernel⟩, Or.inl (HG.mem (k_in 779 (by decide +kernel) rfl))⟩, HG.mem (k_in 781 (by decide +kernel) rfl), HG.mem (k_inp 42 (by decide +kernel))⟩
theorem Y_Md_153 (HG : z_ok G) : z_Yv G "TypeKernelModel" 153 m_Md_raise 1 := ⟨⟨cd_Md_raise HG, by decide +kernel, by decide, ⟨⟨by decide +kernel, by decide +kernel⟩, by decide +kernel⟩, Or.inl (HG.mem (k_in 795 (by decide +kernel) rfl))⟩, HG.mem (k_in 797 (by decide +kernel) rfl), HG.mem (k_inp 45 (by decide +kernel))⟩
theorem Y_Md_156 (HG : z_ok G) : z_Yv G "TypeKernelModel" 156 m_Md_seen 2 := ⟨⟨cd_Md_seen HG, by decide +kernel, by decide, ⟨⟨by decide +kernel, by decide +kernel⟩, by decide +kernel⟩, Or.inl (HG.mem (k_in 819 (by decide +kernel) rfl))⟩, HG.mem (k_in 821 (by decide +kernel) rfl), HG.mem (k_inp 46 (by decide +kernel))⟩
theorem Y_Jd_9 (HG : z_ok G) : z_Yi G "TypeKernel$Judgement" 9 m_Row_init := ⟨⟨cd_Row_init HG, by decide +kernel, by decide, ⟨⟨by decide +kernel, by decide +kernel⟩, by decide +kernel⟩, Or.inr ⟨_, HG.mem (k_in 121 (by decide +kernel) rfl)⟩⟩, rfl, rfl, rfl, HG.mem (k_in 41 (by decide +kernel) rfl), HG.mem (k_in 40 (by decide +kernel) rfl)⟩
theorem L_Jd_10 (HG : z_ok G) : z_lnk G "TypeKernel$Judgement" 10 F_Jd 0 := Or.inl (HG.mem (k_in 122 (by decide +kernel) rfl))
theorem L_Jd_10K (HG : z_ok G) : z_cls G 1 R_Jd F_Jd 3 t_Jd := K_Jd HG
theorem L_Jd_16 (HG : z_ok G) : z_lnk G "TypeKernel$Judgement" 16 F_Jd 1 := Or.inl (HG.mem (k_in 124 (by decide +kernel) rfl))
theorem L_Jd_16K (HG : z_ok G) : z_cls G 1 R_Jd F_Jd 3 t_Jd := K_Jd HG
theorem L_Jd_19 (HG : z_ok G) : z_lnk G "TypeKernel$Judgement" 19 F_Jd 2 := Or.inl (HG.mem (k_in 126 (by decide +kernel) rfl))
theorem L_Jd_19K (HG : z_ok G) : z_cls G 1 R_Jd F_Jd 3 t_Jd := K_Jd HG
theorem L_Rw_11 (HG : z_ok G) : z_lnk G "TypeKernel$Rewriter" 11 F_Rw 0 := Or.inl (HG.mem (k_in 90 (by decide +kernel) rfl))
theorem L_Rw_11K (HG : z_ok G) : z_cls G 4 R_Rw F_Rw 7 t_Rw := K_Rw HG
theorem L_Rw_17 (HG : z_ok G) : z_lnk G "TypeKernel$Rewriter" 17 F_Rw 1 := Or.inl (HG.mem (k_in 92 (by decide +kernel) rfl))
theorem L_Rw_17K (HG : z_ok G) : z_cls G 4 R_Rw F_Rw 7 t_Rw := K_Rw HG
theorem Y_Rw_23 (HG : z_ok G) : z_Yi G "TypeKernel$Rewriter" 23 m_Row_init := ⟨⟨cd_Row_init HG, by decide +kernel, by decide, ⟨⟨by decide +kernel, by decide +kernel⟩, by decide +kernel⟩, Or.inr ⟨_, HG.mem (k_in 39 (by decide +kernel) rfl)⟩⟩, rfl, rfl, rfl, HG.mem (k_in 41 (by decide +kernel) rfl), HG.mem (k_in 40 (by decide +kernel) rfl)⟩
theorem L_Rw_24 (HG : z_ok G) : z_lnk G "TypeKernel$Rewriter" 24 F_Rw 2 := Or.inl (HG.mem (k_in 94 (by decide +kernel) rfl))
theorem L_Rw_24K (HG : z_ok G) : z_cls G 4 R_Rw F_Rw 7 t_Rw := K_Rw HG
theorem L_Rw_28 (HG : z_ok G) : z_lnk G "TypeKernel$Rewriter" 28 F_Rw 3 := Or.inl (HG.mem (k_in 95 (by decide +kernel) rfl))
theorem L_Rw_28K (HG : z_ok G) : z_cls G 4 R_Rw F_Rw 7 t_Rw := K_Rw HG
theorem L_Rw_31 (HG : z_ok G) : z_lnk G "TypeKernel$Rewriter" 31 F_Rw 4 := Or.inl (HG.mem (k_in 96 (by decide +kernel) rfl))
theorem L_Rw_31K (HG : z_ok G) : z_cls G 4 R_Rw F_Rw 7 t_Rw := K_Rw HG
theorem Y_Rw_37 (HG : z_ok G) : z_Yi G "TypeKernel$Rewriter" 37 m_Wk_init := ⟨⟨cd_Wk_init HG, by decide +kernel, by decide, ⟨⟨by decide +kernel, by decide +kernel⟩, by decide +kernel⟩, Or.inr ⟨_, HG.mem (k_in 56 (by decide +kernel) rfl)⟩⟩, rfl, rfl, rfl, HG.mem (k_in 58 (by decide +kernel) rfl), HG.mem (k_in 57 (by decide +kernel) rfl)⟩
theorem L_Rw_38 (HG : z_ok G) : z_lnk G "TypeKernel$Rewriter" 38 F_Rw 5 := Or.inl (HG.mem (k_in 97 (by decide +kernel) rfl))
theorem L_Rw_38K (HG : z_ok G) : z_cls G 4 R_Rw F_Rw 7 t_Rw := K_Rw HG
theorem L_Rw_42 (HG : z_ok G) : z_lnk G "TypeKernel$Rewriter" 42 F_Rw 6 := Or.inl (HG.mem (k_in 98 (by decide +kernel) rfl))
theorem L_Rw_42K (HG : z_ok G) : z_cls G 4 R_Rw F_Rw 7 t_Rw := K_Rw HG
theorem Y_Rw_45 (HG : z_ok G) : z_Yi G "TypeKernel$Rewriter" 45 m_Ru_init := ⟨⟨cd_Ru_init HG, by decide +kernel, by decide, ⟨⟨by decide +kernel, by decide +kernel⟩, by decide +kernel⟩, Or.inr ⟨_, HG.mem (k_in 68 (by decide +kernel) rfl)⟩⟩, rfl, rfl, rfl, HG.mem (k_in 70 (by decide +kernel) rfl), HG.mem (k_in 69 (by decide +kernel) rfl)⟩
theorem L_Rw_46 (HG : z_ok G) : z_lnk G "TypeKernel$Rewriter" 46 F_Ru 0 := Or.inr ⟨_, HG.mem (k_in 75 (by decide +kernel) rfl)⟩
theorem L_Rw_46K (HG : z_ok G) : z_cls G 2 R_Ru F_Ru 3 t_Ru := K_Ru HG
theorem Y_Rw_49 (HG : z_ok G) : z_Yv G "TypeKernel$Rewriter" 49 m_Row_copy 1 := ⟨⟨cd_Row_copy HG, by decide +kernel, by decide, ⟨⟨by decide +kernel, by decide +kernel⟩, by decide +kernel⟩, Or.inl (HG.mem (k_in 429 (by decide +kernel) rfl))⟩, HG.mem (k_in 360 (by decide +kernel) rfl), HG.mem (k_in 361 (by decide +kernel) rfl)⟩
theorem L_Rw_53 (HG : z_ok G) : z_lnk G "TypeKernel$Rewriter" 53 F_Ru 1 := Or.inr ⟨_, HG.mem (k_in 78 (by decide +kernel) rfl)⟩
theorem L_Rw_53K (HG : z_ok G) : z_cls G 2 R_Ru F_Ru 3 t_Ru := K_Ru HG
theorem L_Rw_56 (HG : z_ok G) : z_lnk G "TypeKernel$Rewriter" 56 F_Ru 2 := Or.inr ⟨_, HG.mem (k_in 81 (by decide +kernel) rfl)⟩
theorem L_Rw_56K (HG : z_ok G) : z_cls G 2 R_Ru F_Ru 3 t_Ru := K_Ru HG
theorem Y_Rw_59 (HG : z_ok G) : z_Yv G "TypeKernel$Rewriter" 59 m_Rw_step 0 := ⟨⟨cd_Rw_step HG, by decide +kernel, by decide, ⟨⟨by decide +kernel, by decide +kernel⟩, by decide +kernel⟩, Or.inl (HG.mem (k_in 430 (by decide +kernel) rfl))⟩, HG.mem (k_in 432 (by decide +kernel) rfl), HG.mem (k_inp 10 (by decide +kernel))⟩
theorem L_Rw_66 (HG : z_ok G) : z_lnk G "TypeKernel$Rewriter" 66 F_Row 1 := Or.inr ⟨_, HG.mem (k_in 45 (by decide +kernel) rfl)⟩
theorem L_Rw_66K (HG : z_ok G) : z_cls G 0 R_Row F_Row 2 t_Row := K_Row HG
theorem Y_Rw_69 (HG : z_ok G) : z_Yv G "TypeKernel$Rewriter" 69 m_Row_at 1 := ⟨⟨cd_Row_at HG, by decide +kernel, by decide, ⟨⟨by decide +kernel, by decide +kernel⟩, by decide +kernel⟩, Or.inl (HG.mem (k_in 386 (by decide +kernel) rfl))⟩, HG.mem (k_in 201 (by decide +kernel) rfl), HG.mem (k_in 202 (by decide +kernel) rfl)⟩
theorem Y_Rw_73 (HG : z_ok G) : z_Yv G "TypeKernel$Rewriter" 73 m_Rw_doLambda 1 := ⟨⟨cd_Rw_doLambda HG, by decide +kernel, by decide, ⟨⟨by decide +kernel, by decide +kernel⟩, by decide +kernel⟩, Or.inl (HG.mem (k_in 434 (by decide +kernel) rfl))⟩, HG.mem (k_in 436 (by decide +kernel) rfl), HG.mem (k_inp 11 (by decide +kernel))⟩
theorem Y_Rw_77 (HG : z_ok G) : z_Yv G "TypeKernel$Rewriter" 77 m_Rw_firstMatch 1 := ⟨⟨cd_Rw_firstMatch HG, by decide +kernel, by decide, ⟨⟨by decide +kernel, by decide +kernel⟩, by decide +kernel⟩, Or.inl (HG.mem (k_in 460 (by decide +kernel) rfl))⟩, HG.mem (k_in 462 (by decide +kernel) rfl), HG.mem (k_inp 13 (by decide +kernel))⟩
theorem Y_Rw_80 (HG : z_ok G) : z_Yv G "TypeKernel$Rewriter" 80 m_Rw_doRule 2 := ⟨⟨cd_Rw_doRule HG, by decide +kernel, by decide, ⟨⟨by decide +kernel, by decide +kernel⟩, by decide +kernel⟩, Or.inl (HG.mem (k_in 468 (by decide +kernel) rfl))⟩, HG.mem (k_in 470 (by decide +kernel) rfl), HG.mem (k_inp 15 (by decide +kernel))⟩
theorem Y_Rw_84 (HG : z_ok G) : z_Yv G "TypeKernel$Rewriter" 84 m_Row_endOf 1 := ⟨⟨cd_Row_endOf HG, by decide +kernel, by decide, ⟨⟨by decide +kernel, by decide +kernel⟩, by decide +kernel⟩, Or.inl (HG.mem (k_in 438 (by decide +kernel) rfl))⟩, HG.mem (k_in 439 (by decide +kernel) rfl), HG.mem (k_in 440 (by decide +kernel) rfl)⟩
theorem Y_Rw_87 (HG : z_ok G) : z_Yv G "TypeKernel$Rewriter" 87 m_Row_clear 0 := ⟨⟨cd_Row_clear HG, by decide +kernel, by decide, ⟨⟨by decide +kernel, by decide +kernel⟩, by decide +kernel⟩, Or.inl (HG.mem (k_in 445 (by decide +kernel) rfl))⟩, HG.mem (k_in 314 (by decide +kernel) rfl), HG.mem (k_in 315 (by decide +kernel) rfl)⟩
theorem Y_Rw_90 (HG : z_ok G) : z_Yv G "TypeKernel$Rewriter" 90 m_Row_appendPart 3 := ⟨⟨cd_Row_appendPart HG, by decide +kernel, by decide, ⟨⟨by decide +kernel, by decide +kernel⟩, by decide +kernel⟩, Or.inl (HG.mem (k_in 446 (by decide +kernel) rfl))⟩, HG.mem (k_in 447 (by decide +kernel) rfl), HG.mem (k_in 448 (by decide +kernel) rfl)⟩
theorem Y_Rw_94 (HG : z_ok G) : z_Yv G "TypeKernel$Rewriter" 94 m_Rw_appendBodyWith 5 := ⟨⟨cd_Rw_appendBodyWith HG, by decide +kernel, by decide, ⟨⟨by decide +kernel, by decide +kernel⟩, by decide +kernel⟩, Or.inl (HG.mem (k_in 451 (by decide +kernel) rfl))⟩, HG.mem (k_in 452 (by decide +kernel) rfl), HG.mem (k_in 453 (by decide +kernel) rfl)⟩
theorem Y_Rw_98 (HG : z_ok G) : z_Yv G "TypeKernel$Rewriter" 98 m_Rw_takeNext 0 := ⟨⟨cd_Rw_takeNext HG, by decide +kernel, by decide, ⟨⟨by decide +kernel, by decide +kernel⟩, by decide +kernel⟩, Or.inl (HG.mem (k_in 456 (by decide +kernel) rfl))⟩, HG.mem (k_in 458 (by decide +kernel) rfl), HG.mem (k_inp 12 (by decide +kernel))⟩
theorem Y_Rw_101 (HG : z_ok G) : z_Yv G "TypeKernel$Rewriter" 101 m_Wk_begin 0 := ⟨⟨cd_Wk_begin HG, by decide +kernel, by decide, ⟨⟨by decide +kernel, by decide +kernel⟩, by decide +kernel⟩, Or.inl (HG.mem (k_in 378 (by decide +kernel) rfl))⟩, HG.mem (k_in 379 (by decide +kernel) rfl), HG.mem (k_in 380 (by decide +kernel) rfl)⟩
theorem Y_Rw_104 (HG : z_ok G) : z_Yv G "TypeKernel$Rewriter" 104 m_Wk_goesOn 0 := ⟨⟨cd_Wk_goesOn HG, by decide +kernel, by decide, ⟨⟨by decide +kernel, by decide +kernel⟩, by decide +kernel⟩, Or.inl (HG.mem (k_in 382 (by decide +kernel) rfl))⟩, HG.mem (k_in 383 (by decide +kernel) rfl), HG.mem (k_in 384 (by decide +kernel) rfl)⟩
theorem Y_Rw_107 (HG : z_ok G) : z_Yv G "TypeKernel$Rewriter" 107 m_Wk_depthOf 1 := ⟨⟨cd_Wk_depthOf HG, by decide +kernel, by decide, ⟨⟨by decide +kernel, by decide +kernel⟩, by decide +kernel⟩, Or.inl (HG.mem (k_in 387 (by decide +kernel) rfl))⟩, HG.mem (k_in 388 (by decide +kernel) rfl), HG.mem (k_in 389 (by decide +kernel) rfl)⟩
theorem Y_Rw_110 (HG : z_ok G) : z_Yv G "TypeKernel$Rewriter" 110 m_Rw_appendLifted 4 := ⟨⟨cd_Rw_appendLifted HG, by decide +kernel, by decide, ⟨⟨by decide +kernel, by decide +kernel⟩, by decide +kernel⟩, Or.inl (HG.mem (k_in 455 (by decide +kernel) rfl))⟩, HG.mem (k_in 375 (by decide +kernel) rfl), HG.mem (k_in 376 (by decide +kernel) rfl)⟩
theorem Y_Rw_114 (HG : z_ok G) : z_Yv G "TypeKernel$Rewriter" 114 m_Row_append 1 := ⟨⟨cd_Row_append HG, by decide +kernel, by decide, ⟨⟨by decide +kernel, by decide +kernel⟩, by decide +kernel⟩, Or.inl (HG.mem (k_in 391 (by decide +kernel) rfl))⟩, HG.mem (k_in 318 (by decide +kernel) rfl), HG.mem (k_in 319 (by decide +kernel) rfl)⟩
theorem Y_Rw_117 (HG : z_ok G) : z_Yv G "TypeKernel$Rewriter" 117 m_Rw_matches 2 := ⟨⟨cd_Rw_matches HG, by decide +kernel, by decide, ⟨⟨by decide +kernel, by decide +kernel⟩, by decide +kernel⟩, Or.inl (HG.mem (k_in 464 (by decide +kernel) rfl))⟩, HG.mem (k_in 466 (by decide +kernel) rfl), HG.mem (k_inp 14 (by decide +kernel))⟩
theorem L_Row_9 (HG : z_ok G) : z_lnk G "TypeKernel$Row" 9 F_Row 0 := Or.inl (HG.mem (k_in 43 (by decide +kernel) rfl))
theorem L_Row_9K (HG : z_ok G) : z_cls G 0 R_Row F_Row 2 t_Row := K_Row HG
theorem L_Row_15 (HG : z_ok G) : z_lnk G "TypeKernel$Row" 15 F_Row 1 := Or.inl (HG.mem (k_in 44 (by decide +kernel) rfl))
theorem L_Row_15K (HG : z_ok G) : z_cls G 0 R_Row F_Row 2 t_Row := K_Row HG
theorem Y_Row_22 (HG : z_ok G) : z_Yv G "TypeKernel$Row" 22 m_Row_at 1 := ⟨⟨cd_Row_at HG, by decide +kernel, by decide, ⟨⟨by decide +kernel, by decide +kernel⟩, by decide +kernel⟩, Or.inl (HG.mem (k_in 450 (by decide +kernel) rfl))⟩, HG.mem (k_in 201 (by decide +kernel) rfl), HG.mem (k_in 202 (by decide +kernel) rfl)⟩
theorem Y_Row_26 (HG : z_ok G) : z_Yv G "TypeKernel$Row" 26 m_Row_append 1 := ⟨⟨cd_Row_append HG, by decide +kernel, by decide, ⟨⟨by decide +kernel, by decide +kernel⟩, by decide +kernel⟩, Or.inl (HG.mem (k_in 317 (by decide +kernel) rfl))⟩, HG.mem (k_in 318 (by decide +kernel) rfl), HG.mem (k_in 319 (by decide +kernel) rfl)⟩
theorem Y_Row_30 (HG : z_ok G) : z_Yv G "TypeKernel$Row" 30 m_Row_clear 0 := ⟨⟨cd_Row_clear HG, by decide +kernel, by decide, ⟨⟨by decide +kernel, by decide +kernel⟩, by decide +kernel⟩, Or.inl (HG.mem (k_in 313 (by decide +kernel) rfl))⟩, HG.mem (k_in 314 (by decide +kernel) rfl), HG.mem (k_in 315 (by decide +kernel) rfl)⟩
theorem Y_Row_39 (HG : z_ok G) : z_Yv G "TypeKernel$Row" 39 m_Row_become 1 := ⟨⟨cd_Row_become HG, by decide +kernel, by decide, ⟨⟨by decide +kernel, by decide +kernel⟩, by decide +kernel⟩, Or.inl (HG.mem (k_in 498 (by decide +kernel) rfl))⟩, HG.mem (k_in 310 (by decide +kernel) rfl), HG.mem (k_in 311 (by decide +kernel) rfl)⟩
theorem Y_Row_42 (HG : z_ok G) : z_Yv G "TypeKernel$Row" 42 m_Row_appendPart 3 := ⟨⟨cd_Row_appendPart HG, by decide +kernel, by decide, ⟨⟨by decide +kernel, by decide +kernel⟩, by decide +kernel⟩, Or.inl (HG.mem (k_in 499 (by decide +kernel) rfl))⟩, HG.mem (k_in 447 (by decide +kernel) rfl), HG.mem (k_in 448 (by decide +kernel) rfl)⟩
theorem Y_Row_46 (HG : z_ok G) : z_Ys G "TypeKernel$Row" 46 m_Row_hasParts 1 := ⟨⟨cd_Row_hasParts HG, by decide +kernel, by decide, ⟨⟨by decide +kernel, by decide +kernel⟩, by decide +kernel⟩, Or.inl (HG.mem (k_in 442 (by decide +kernel) rfl))⟩, HG.mem (k_in 443 (by decide +kernel) rfl), HG.mem (k_in 3 (by decide +kernel) rfl)⟩
theorem Y_Row_50 (HG : z_ok G) : z_Yv G "TypeKernel$Row" 50 m_Row_isPart 3 := ⟨⟨cd_Row_isPart HG, by decide +kernel, by decide, ⟨⟨by decide +kernel, by decide +kernel⟩, by decide +kernel⟩, Or.inl (HG.mem (k_in 570 (by decide +kernel) rfl))⟩, HG.mem (k_in 491 (by decide +kernel) rfl), HG.mem (k_in 492 (by decide +kernel) rfl)⟩
theorem Y_Ru_9 (HG : z_ok G) : z_Yi G "TypeKernel$Rule" 9 m_Row_init := ⟨⟨cd_Row_init HG, by decide +kernel, by decide, ⟨⟨by decide +kernel, by decide +kernel⟩, by decide +kernel⟩, Or.inr ⟨_, HG.mem (k_in 73 (by decide +kernel) rfl)⟩⟩, rfl, rfl, rfl, HG.mem (k_in 41 (by decide +kernel) rfl), HG.mem (k_in 40 (by decide +kernel) rfl)⟩
theorem L_Ru_10 (HG : z_ok G) : z_lnk G "TypeKernel$Rule" 10 F_Ru 0 := Or.inl (HG.mem (k_in 74 (by decide +kernel) rfl))
theorem L_Ru_10K (HG : z_ok G) : z_cls G 2 R_Ru F_Ru 3 t_Ru := K_Ru HG
theorem L_Ru_16 (HG : z_ok G) : z_lnk G "TypeKernel$Rule" 16 F_Ru 1 := Or.inl (HG.mem (k_in 77 (by decide +kernel) rfl))
theorem L_Ru_16K (HG : z_ok G) : z_cls G 2 R_Ru F_Ru 3 t_Ru := K_Ru HG
theorem L_Ru_19 (HG : z_ok G) : z_lnk G "TypeKernel$Rule" 19 F_Ru 2 := Or.inl (HG.mem (k_in 80 (by decide +kernel) rfl))
theorem L_Ru_19K (HG : z_ok G) : z_cls G 2 R_Ru F_Ru 3 t_Ru := K_Ru HG
theorem L_Wk_9 (HG : z_ok G) : z_lnk G "TypeKernel$Walk" 9 F_Wk 0 := Or.inl (HG.mem (k_in 60 (by decide +kernel) rfl))
theorem L_Wk_9K (HG : z_ok G) : z_cls G 3 R_Wk F_Wk 2 t_Wk := K_Wk HG
theorem L_Wk_15 (HG : z_ok G) : z_lnk G "TypeKernel$Walk" 15 F_Wk 1 := Or.inl (HG.mem (k_in 61 (by decide +kernel) rfl))
theorem L_Wk_15K (HG : z_ok G) : z_cls G 3 R_Wk F_Wk 2 t_Wk := K_Wk HG
theorem Y_Lw_7 (HG : z_ok G) : z_Yv G "TypeKernelLaw" 7 m_TK_sort 0 := ⟨⟨cd_TK_sort HG, by decide +kernel, by decide, ⟨⟨by decide +kernel, by decide +kernel⟩, by decide +kernel⟩, Or.inl (HG.mem (k_in 236 (by decide +kernel) rfl))⟩, HG.mem (k_in 237 (by decide +kernel) rfl), HG.mem (k_in 238 (by decide +kernel) rfl)⟩
theorem Y_Lw_14 (HG : z_ok G) : z_Yv G "TypeKernelLaw" 14 m_TK_constant 1 := ⟨⟨cd_TK_constant HG, by decide +kernel, by decide, ⟨⟨by decide +kernel, by decide +kernel⟩, by decide +kernel⟩, Or.inl (HG.mem (k_in 340 (by decide +kernel) rfl))⟩, HG.mem (k_in 341 (by decide +kernel) rfl), HG.mem (k_in 342 (by decide +kernel) rfl)⟩
theorem Y_Lw_20 (HG : z_ok G) : z_Yv G "TypeKernelLaw" 20 m_TK_variable 1 := ⟨⟨cd_TK_variable HG, by decide +kernel, by decide, ⟨⟨by decide +kernel, by decide +kernel⟩, by decide +kernel⟩, Or.inl (HG.mem (k_in 369 (by decide +kernel) rfl))⟩, HG.mem (k_in 370 (by decide +kernel) rfl), HG.mem (k_in 371 (by decide +kernel) rfl)⟩
theorem Y_Lw_23 (HG : z_ok G) : z_Yv G "TypeKernelLaw" 23 m_TK_apply 0 := ⟨⟨cd_TK_apply HG, by decide +kernel, by decide, ⟨⟨by decide +kernel, by decide +kernel⟩, by decide +kernel⟩, Or.inl (HG.mem (k_in 398 (by decide +kernel) rfl))⟩, HG.mem (k_in 399 (by decide +kernel) rfl), HG.mem (k_in 400 (by decide +kernel) rfl)⟩
theorem Y_Lw_32 (HG : z_ok G) : z_Yv G "TypeKernelLaw" 32 m_TK_assume 0 := ⟨⟨cd_TK_assume HG, by decide +kernel, by decide, ⟨⟨by decide +kernel, by decide +kernel⟩, by decide +kernel⟩, Or.inl (HG.mem (k_in 504 (by decide +kernel) rfl))⟩, HG.mem (k_in 505 (by decide +kernel) rfl), HG.mem (k_in 506 (by decide +kernel) rfl)⟩
theorem Y_Lw_35 (HG : z_ok G) : z_Yv G "TypeKernelLaw" 35 m_TK_lambda 0 := ⟨⟨cd_TK_lambda HG, by decide +kernel, by decide, ⟨⟨by decide +kernel, by decide +kernel⟩, by decide +kernel⟩, Or.inl (HG.mem (k_in 515 (by decide +kernel) rfl))⟩, HG.mem (k_in 516 (by decide +kernel) rfl), HG.mem (k_in 517 (by decide +kernel) rfl)⟩
theorem Y_Lw_38 (HG : z_ok G) : z_Yv G "TypeKernelLaw" 38 m_TK_product 0 := ⟨⟨cd_TK_product HG, by decide +kernel, by decide, ⟨⟨by decide +kernel, by decide +kernel⟩, by decide +kernel⟩, Or.inl (HG.mem (k_in 530 (by decide +kernel) rfl))⟩, HG.mem (k_in 531 (by decide +kernel) rfl), HG.mem (k_in 532 (by decide +kernel) rfl)⟩
theorem Y_Lw_41 (HG : z_ok G) : z_Yv G "TypeKernelLaw" 41 m_TK_declare 1 := ⟨⟨cd_TK_declare HG, by decide +kernel, by decide, ⟨⟨by decide +kernel, by decide +kernel⟩, by decide +kernel⟩, Or.inl (HG.mem (k_in 540 (by decide +kernel) rfl))⟩, HG.mem (k_in 541 (by decide +kernel) rfl), HG.mem (k_in 542 (by decide +kernel) rfl)⟩
theorem Y_Lw_45 (HG : z_ok G) : z_Yv G "TypeKernelLaw" 45 m_TK_rule 0 := ⟨⟨cd_TK_rule HG, by decide +kernel, by decide, ⟨⟨by decide +kernel, by decide +kernel⟩, by decide +kernel⟩, Or.inl (HG.mem (k_in 547 (by decide +kernel) rfl))⟩, HG.mem (k_in 548 (by decide +kernel) rfl), HG.mem (k_in 549 (by decide +kernel) rfl)⟩
theorem Y_Lw_49 (HG : z_ok G) : z_Yv G "TypeKernelLaw" 49 m_TK_normal 0 := ⟨⟨cd_TK_normal HG, by decide +kernel, by decide, ⟨⟨by decide +kernel, by decide +kernel⟩, by decide +kernel⟩, Or.inl (HG.mem (k_in 578 (by decide +kernel) rfl))⟩, HG.mem (k_in 579 (by decide +kernel) rfl), HG.mem (k_in 580 (by decide +kernel) rfl)⟩
theorem Y_Lw_52 (HG : z_ok G) : z_Yv G "TypeKernelLaw" 52 m_TK_same 0 := ⟨⟨cd_TK_same HG, by decide +kernel, by decide, ⟨⟨by decide +kernel, by decide +kernel⟩, by decide +kernel⟩, Or.inl (HG.mem (k_in 585 (by decide +kernel) rfl))⟩, HG.mem (k_in 586 (by decide +kernel) rfl), HG.mem (k_in 587 (by decide +kernel) rfl)⟩
theorem Y_Lw_56 (HG : z_ok G) : z_Yi G "TypeKernelLaw" 56 m_TK_init := ⟨⟨cd_TK_init HG, by decide +kernel, by decide, ⟨⟨by decide +kernel, by decide +kernel⟩, by decide +kernel⟩, Or.inl (HG.mem (k_in 19 (by decide +kernel) rfl))⟩, rfl, rfl, rfl, HG.mem (k_in 21 (by decide +kernel) rfl), HG.mem (k_in 20 (by decide +kernel) rfl)⟩
theorem Y_Lw_59 (HG : z_ok G) : z_Yi G "TypeKernelLaw" 59 m_Md_init := ⟨⟨cd_Md_init HG, by decide +kernel, by decide, ⟨⟨by decide +kernel, by decide +kernel⟩, by decide +kernel⟩, Or.inl (HG.mem (k_in 591 (by decide +kernel) rfl))⟩, rfl, rfl, rfl, HG.mem (k_in 593 (by decide +kernel) rfl), HG.mem (k_in 592 (by decide +kernel) rfl)⟩
theorem Y_Lw_60 (HG : z_ok G) : z_Ys G "TypeKernelLaw" 60 m_Lw_sort 1 := ⟨⟨cd_Lw_sort HG, by decide +kernel, by decide, ⟨⟨by decide +kernel, by decide +kernel⟩, by decide +kernel⟩, Or.inl (HG.mem (k_in 232 (by decide +kernel) rfl))⟩, HG.mem (k_in 233 (by decide +kernel) rfl), HG.mem (k_in 0 (by decide +kernel) rfl)⟩
theorem Y_Lw_65 (HG : z_ok G) : z_Yv G "TypeKernelLaw" 65 m_Md_sort 0 := ⟨⟨cd_Md_sort HG, by decide +kernel, by decide, ⟨⟨by decide +kernel, by decide +kernel⟩, by decide +kernel⟩, Or.inl (HG.mem (k_in 648 (by decide +kernel) rfl))⟩, HG.mem (k_in 649 (by decide +kernel) rfl), HG.mem (k_in 650 (by decide +kernel) rfl)⟩
theorem Y_Lw_66 (HG : z_ok G) : z_Yv G "TypeKernelLaw" 66 m_Md_thrown 0 := ⟨⟨cd_Md_thrown HG, by decide +kernel, by decide, ⟨⟨by decide +kernel, by decide +kernel⟩, by decide +kernel⟩, Or.inl (HG.mem (k_in 644 (by decide +kernel) rfl))⟩, HG.mem (k_in 645 (by decide +kernel) rfl), HG.mem (k_in 646 (by decide +kernel) rfl)⟩
theorem Y_Lw_69 (HG : z_ok G) : z_Ys G "TypeKernelLaw" 69 m_Lw_constant 2 := ⟨⟨cd_Lw_constant HG, by decide +kernel, by decide, ⟨⟨by decide +kernel, by decide +kernel⟩, by decide +kernel⟩, Or.inl (HG.mem (k_in 336 (by decide +kernel) rfl))⟩, HG.mem (k_in 337 (by decide +kernel) rfl), HG.mem (k_in 0 (by decide +kernel) rfl)⟩
theorem Y_Lw_72 (HG : z_ok G) : z_Yv G "TypeKernelLaw" 72 m_Md_constant 1 := ⟨⟨cd_Md_constant HG, by decide +kernel, by decide, ⟨⟨by decide +kernel, by decide +kernel⟩, by decide +kernel⟩, Or.inl (HG.mem (k_in 660 (by decide +kernel) rfl))⟩, HG.mem (k_in 661 (by decide +kernel) rfl), HG.mem (k_in 662 (by decide +kernel) rfl)⟩
theorem Y_Lw_73 (HG : z_ok G) : z_Ys G "TypeKernelLaw" 73 m_Lw_variable 2 := ⟨⟨cd_Lw_variable HG, by decide +kernel, by decide, ⟨⟨by decide +kernel, by decide +kernel⟩, by decide +kernel⟩, Or.inl (HG.mem (k_in 366 (by decide +kernel) rfl))⟩, HG.mem (k_in 367 (by decide +kernel) rfl), HG.mem (k_in 0 (by decide +kernel) rfl)⟩
theorem Y_Lw_75 (HG : z_ok G) : z_Yv G "TypeKernelLaw" 75 m_Md_variable 1 := ⟨⟨cd_Md_variable HG, by decide +kernel, by decide, ⟨⟨by decide +kernel, by decide +kernel⟩, by decide +kernel⟩, Or.inl (HG.mem (k_in 672 (by decide +kernel) rfl))⟩, HG.mem (k_in 673 (by decide +kernel) rfl), HG.mem (k_in 674 (by decide +kernel) rfl)⟩
theorem Y_Lw_76 (HG : z_ok G) : z_Ys G "TypeKernelLaw" 76 m_Lw_apply 1 := ⟨⟨cd_Lw_apply HG, by decide +kernel, by decide, ⟨⟨by decide +kernel, by decide +kernel⟩, by decide +kernel⟩, Or.inl (HG.mem (k_in 392 (by decide +kernel) rfl))⟩, HG.mem (k_in 393 (by decide +kernel) rfl), HG.mem (k_in 0 (by decide +kernel) rfl)⟩
theorem Y_Lw_78 (HG : z_ok G) : z_Yv G "TypeKernelLaw" 78 m_Md_apply 0 := ⟨⟨cd_Md_apply HG, by decide +kernel, by decide, ⟨⟨by decide +kernel, by decide +kernel⟩, by decide +kernel⟩, Or.inl (HG.mem (k_in 687 (by decide +kernel) rfl))⟩, HG.mem (k_in 688 (by decide +kernel) rfl), HG.mem (k_in 689 (by decide +kernel) rfl)⟩
theorem Y_Lw_79 (HG : z_ok G) : z_Ys G "TypeKernelLaw" 79 m_Lw_assume 1 := ⟨⟨cd_Lw_assume HG, by decide +kernel, by decide, ⟨⟨by decide +kernel, by decide +kernel⟩, by decide +kernel⟩, Or.inl (HG.mem (k_in 501 (by decide +kernel) rfl))⟩, HG.mem (k_in 502 (by decide +kernel) rfl), HG.mem (k_in 0 (by decide +kernel) rfl)⟩
theorem Y_Lw_81 (HG : z_ok G) : z_Yv G "TypeKernelLaw" 81 m_Md_assume 0 := ⟨⟨cd_Md_assume HG, by decide +kernel, by decide, ⟨⟨by decide +kernel, by decide +kernel⟩, by decide +kernel⟩, Or.inl (HG.mem (k_in 739 (by decide +kernel) rfl))⟩, HG.mem (k_in 740 (by decide +kernel) rfl), HG.mem (k_in 741 (by decide +kernel) rfl)⟩
theorem Y_Lw_82 (HG : z_ok G) : z_Ys G "TypeKernelLaw" 82 m_Lw_lambda 1 := ⟨⟨cd_Lw_lambda HG, by decide +kernel, by decide, ⟨⟨by decide +kernel, by decide +kernel⟩, by decide +kernel⟩, Or.inl (HG.mem (k_in 512 (by decide +kernel) rfl))⟩, HG.mem (k_in 513 (by decide +kernel) rfl), HG.mem (k_in 0 (by decide +kernel) rfl)⟩
theorem Y_Lw_84 (HG : z_ok G) : z_Yv G "TypeKernelLaw" 84 m_Md_lambda 0 := ⟨⟨cd_Md_lambda HG, by decide +kernel, by decide, ⟨⟨by decide +kernel, by decide +kernel⟩, by decide +kernel⟩, Or.inl (HG.mem (k_in 747 (by decide +kernel) rfl))⟩, HG.mem (k_in 748 (by decide +kernel) rfl), HG.mem (k_in 749 (by decide +kernel) rfl)⟩
theorem Y_Lw_85 (HG : z_ok G) : z_Ys G "TypeKernelLaw" 85 m_Lw_product 1 := ⟨⟨cd_Lw_product HG, by decide +kernel, by decide, ⟨⟨by decide +kernel, by decide +kernel⟩, by decide +kernel⟩, Or.inl (HG.mem (k_in 527 (by decide +kernel) rfl))⟩, HG.mem (k_in 528 (by decide +kernel) rfl), HG.mem (k_in 0 (by decide +kernel) rfl)⟩
theorem Y_Lw_87 (HG : z_ok G) : z_Yv G "TypeKernelLaw" 87 m_Md_product 0 := ⟨⟨cd_Md_product HG, by decide +kernel, by decide, ⟨⟨by decide +kernel, by decide +kernel⟩, by decide +kernel⟩, Or.inl (HG.mem (k_in 767 (by decide +kernel) rfl))⟩, HG.mem (k_in 768 (by decide +kernel) rfl), HG.mem (k_in 769 (by decide +kernel) rfl)⟩
theorem Y_Lw_88 (HG : z_ok G) : z_Ys G "TypeKernelLaw" 88 m_Lw_declare 3 := ⟨⟨cd_Lw_declare HG, by decide +kernel, by decide, ⟨⟨by decide +kernel, by decide +kernel⟩, by decide +kernel⟩, Or.inl (HG.mem (k_in 537 (by decide +kernel) rfl))⟩, HG.mem (k_in 538 (by decide +kernel) rfl), HG.mem (k_in 0 (by decide +kernel) rfl)⟩
theorem Y_Lw_91 (HG : z_ok G) : z_Yv G "TypeKernelLaw" 91 m_Md_declare 1 := ⟨⟨cd_Md_declare HG, by decide +kernel, by decide, ⟨⟨by decide +kernel, by decide +kernel⟩, by decide +kernel⟩, Or.inl (HG.mem (k_in 771 (by decide +kernel) rfl))⟩, HG.mem (k_in 772 (by decide +kernel) rfl), HG.mem (k_in 773 (by decide +kernel) rfl)⟩
theorem Y_Lw_92 (HG : z_ok G) : z_Ys G "TypeKernelLaw" 92 m_Lw_rule 2 := ⟨⟨cd_Lw_rule HG, by decide +kernel, by decide, ⟨⟨by decide +kernel, by decide +kernel⟩, by decide +kernel⟩, Or.inl (HG.mem (k_in 544 (by decide +kernel) rfl))⟩, HG.mem (k_in 545 (by decide +kernel) rfl), HG.mem (k_in 0 (by decide +kernel) rfl)⟩
theorem Y_Lw_95 (HG : z_ok G) : z_Yv G "TypeKernelLaw" 95 m_Md_rule 0 := ⟨⟨cd_Md_rule HG, by decide +kernel, by decide, ⟨⟨by decide +kernel, by decide +kernel⟩, by decide +kernel⟩, Or.inl (HG.mem (k_in 775 (by decide +kernel) rfl))⟩, HG.mem (k_in 776 (by decide +kernel) rfl), HG.mem (k_in 777 (by decide +kernel) rfl)⟩
theorem Y_Lw_96 (HG : z_ok G) : z_Ys G "TypeKernelLaw" 96 m_Lw_normal 2 := ⟨⟨cd_Lw_normal HG, by decide +kernel, by decide, ⟨⟨by decide +kernel, by decide +kernel⟩, by decide +kernel⟩, Or.inl (HG.mem (k_in 575 (by decide +kernel) rfl))⟩, HG.mem (k_in 576 (by decide +kernel) rfl), HG.mem (k_in 0 (by decide +kernel) rfl)⟩
theorem Y_Lw_98 (HG : z_ok G) : z_Yv G "TypeKernelLaw" 98 m_Md_normal 0 := ⟨⟨cd_Md_normal HG, by decide +kernel, by decide, ⟨⟨by decide +kernel, by decide +kernel⟩, by decide +kernel⟩, Or.inl (HG.mem (k_in 791 (by decide +kernel) rfl))⟩, HG.mem (k_in 792 (by decide +kernel) rfl), HG.mem (k_in 793 (by decide +kernel) rfl)⟩
theorem Y_Lw_99 (HG : z_ok G) : z_Ys G "TypeKernelLaw" 99 m_Lw_same 2 := ⟨⟨cd_Lw_same HG, by decide +kernel, by decide, ⟨⟨by decide +kernel, by decide +kernel⟩, by decide +kernel⟩, Or.inl (HG.mem (k_in 582 (by decide +kernel) rfl))⟩, HG.mem (k_in 583 (by decide +kernel) rfl), HG.mem (k_in 0 (by decide +kernel) rfl)⟩
theorem Y_Lw_101 (HG : z_ok G) : z_Yv G "TypeKernelLaw" 101 m_Md_same 0 := ⟨⟨cd_Md_same HG, by decide +kernel, by decide, ⟨⟨by decide +kernel, by decide +kernel⟩, by decide +kernel⟩, Or.inl (HG.mem (k_in 799 (by decide +kernel) rfl))⟩, HG.mem (k_in 800 (by decide +kernel) rfl), HG.mem (k_in 801 (by decide +kernel) rfl)⟩
theorem Y_Lw_102 (HG : z_ok G) : z_Yv G "TypeKernelLaw" 102 m_TK_drop 0 := ⟨⟨cd_TK_drop HG, by decide +kernel, by decide, ⟨⟨by decide +kernel, by decide +kernel⟩, by decide +kernel⟩, Or.inl (HG.mem (k_in 172 (by decide +kernel) rfl))⟩, HG.mem (k_in 173 (by decide +kernel) rfl), HG.mem (k_in 174 (by decide +kernel) rfl)⟩
theorem Y_Lw_105 (HG : z_ok G) : z_Yv G "TypeKernelLaw" 105 m_Md_drop 0 := ⟨⟨cd_Md_drop HG, by decide +kernel, by decide, ⟨⟨by decide +kernel, by decide +kernel⟩, by decide +kernel⟩, Or.inl (HG.mem (k_in 803 (by decide +kernel) rfl))⟩, HG.mem (k_in 804 (by decide +kernel) rfl), HG.mem (k_in 805 (by decide +kernel) rfl)⟩
theorem Y_Lw_106 (HG : z_ok G) : z_Yv G "TypeKernelLaw" 106 m_TK_leave 0 := ⟨⟨cd_TK_leave HG, by decide +kernel, by decide, ⟨⟨by decide +kernel, by decide +kernel⟩, by decide +kernel⟩, Or.inl (HG.mem (k_in 176 (by decide +kernel) rfl))⟩, HG.mem (k_in 177 (by decide +kernel) rfl), HG.mem (k_in 178 (by decide +kernel) rfl)⟩
theorem Y_Lw_109 (HG : z_ok G) : z_Yv G "TypeKernelLaw" 109 m_Md_leave 0 := ⟨⟨cd_Md_leave HG, by decide +kernel, by decide, ⟨⟨by decide +kernel, by decide +kernel⟩, by decide +kernel⟩, Or.inl (HG.mem (k_in 807 (by decide +kernel) rfl))⟩, HG.mem (k_in 808 (by decide +kernel) rfl), HG.mem (k_in 809 (by decide +kernel) rfl)⟩
theorem Y_Lw_110 (HG : z_ok G) : z_Yv G "TypeKernelLaw" 110 m_TK_counts 0 := ⟨⟨cd_TK_counts HG, by decide +kernel, by decide, ⟨⟨by decide +kernel, by decide +kernel⟩, by decide +kernel⟩, Or.inl (HG.mem (k_in 184 (by decide +kernel) rfl))⟩, HG.mem (k_in 185 (by decide +kernel) rfl), HG.mem (k_in 186 (by decide +kernel) rfl)⟩
theorem Y_Lw_113 (HG : z_ok G) : z_Yv G "TypeKernelLaw" 113 m_Md_counts 0 := ⟨⟨cd_Md_counts HG, by decide +kernel, by decide, ⟨⟨by decide +kernel, by decide +kernel⟩, by decide +kernel⟩, Or.inl (HG.mem (k_in 811 (by decide +kernel) rfl))⟩, HG.mem (k_in 812 (by decide +kernel) rfl), HG.mem (k_in 813 (by decide +kernel) rfl)⟩
theorem Y_Lw_114 (HG : z_ok G) : z_Yv G "TypeKernelLaw" 114 m_TK_judgement 3 := ⟨⟨cd_TK_judgement HG, by decide +kernel, by decide, ⟨⟨by decide +kernel, by decide +kernel⟩, by decide +kernel⟩, Or.inl (HG.mem (k_in 188 (by decide +kernel) rfl))⟩, HG.mem (k_in 189 (by decide +kernel) rfl), HG.mem (k_in 190 (by decide +kernel) rfl)⟩
theorem Y_Lw_118 (HG : z_ok G) : z_Yv G "TypeKernelLaw" 118 m_Md_judgement 3 := ⟨⟨cd_Md_judgement HG, by decide +kernel, by decide, ⟨⟨by decide +kernel, by decide +kernel⟩, by decide +kernel⟩, Or.inl (HG.mem (k_in 815 (by decide +kernel) rfl))⟩, HG.mem (k_in 816 (by decide +kernel) rfl), HG.mem (k_in 817 (by decide +kernel) rfl)⟩
theorem Y_Lw_119 (HG : z_ok G) : z_Yv G "TypeKernelLaw" 119 m_TK_made 1 := ⟨⟨cd_TK_made HG, by decide +kernel, by decide, ⟨⟨by decide +kernel, by decide +kernel⟩, by decide +kernel⟩, Or.inl (HG.mem (k_in 204 (by decide +kernel) rfl))⟩, HG.mem (k_in 205 (by decide +kernel) rfl), HG.mem (k_in 206 (by decide +kernel) rfl)⟩
theorem Y_Lw_123 (HG : z_ok G) : z_Yv G "TypeKernelLaw" 123 m_Md_made 1 := ⟨⟨cd_Md_made HG, by decide +kernel, by decide, ⟨⟨by decide +kernel, by decide +kernel⟩, by decide +kernel⟩, Or.inl (HG.mem (k_in 823 (by decide +kernel) rfl))⟩, HG.mem (k_in 824 (by decide +kernel) rfl), HG.mem (k_in 825 (by decide +kernel) rfl)⟩
theorem Y_Lw_124 (HG : z_ok G) : z_Yv G "TypeKernelLaw" 124 m_TK_entry 2 := ⟨⟨cd_TK_entry HG, by decide +kernel, by decide, ⟨⟨by decide +kernel, by decide +kernel⟩, by decide +kernel⟩, Or.inl (HG.mem (k_in 208 (by decide +kernel) rfl))⟩, HG.mem (k_in 209 (by decide +kernel) rfl), HG.mem (k_in 210 (by decide +kernel) rfl)⟩
theorem Y_Lw_128 (HG : z_ok G) : z_Yv G "TypeKernelLaw" 128 m_Md_entry 2 := ⟨⟨cd_Md_entry HG, by decide +kernel, by decide, ⟨⟨by decide +kernel, by decide +kernel⟩, by decide +kernel⟩, Or.inl (HG.mem (k_in 827 (by decide +kernel) rfl))⟩, HG.mem (k_in 828 (by decide +kernel) rfl), HG.mem (k_in 829 (by decide +kernel) rfl)⟩
theorem Y_Lw_129 (HG : z_ok G) : z_Yv G "TypeKernelLaw" 129 m_TK_type 2 := ⟨⟨cd_TK_type HG, by decide +kernel, by decide, ⟨⟨by decide +kernel, by decide +kernel⟩, by decide +kernel⟩, Or.inl (HG.mem (k_in 220 (by decide +kernel) rfl))⟩, HG.mem (k_in 221 (by decide +kernel) rfl), HG.mem (k_in 222 (by decide +kernel) rfl)⟩
theorem Y_Lw_132 (HG : z_ok G) : z_Yv G "TypeKernelLaw" 132 m_Md_type 2 := ⟨⟨cd_Md_type HG, by decide +kernel, by decide, ⟨⟨by decide +kernel, by decide +kernel⟩, by decide +kernel⟩, Or.inl (HG.mem (k_in 831 (by decide +kernel) rfl))⟩, HG.mem (k_in 832 (by decide +kernel) rfl), HG.mem (k_in 833 (by decide +kernel) rfl)⟩
theorem Y_Lw_133 (HG : z_ok G) : z_Yv G "TypeKernelLaw" 133 m_TK_side 3 := ⟨⟨cd_TK_side HG, by decide +kernel, by decide, ⟨⟨by decide +kernel, by decide +kernel⟩, by decide +kernel⟩, Or.inl (HG.mem (k_in 228 (by decide +kernel) rfl))⟩, HG.mem (k_in 229 (by decide +kernel) rfl), HG.mem (k_in 230 (by decide +kernel) rfl)⟩
theorem Y_Lw_136 (HG : z_ok G) : z_Yv G "TypeKernelLaw" 136 m_Md_side 3 := ⟨⟨cd_Md_side HG, by decide +kernel, by decide, ⟨⟨by decide +kernel, by decide +kernel⟩, by decide +kernel⟩, Or.inl (HG.mem (k_in 835 (by decide +kernel) rfl))⟩, HG.mem (k_in 836 (by decide +kernel) rfl), HG.mem (k_in 837 (by decide +kernel) rfl)⟩
theorem t_TK_78 (HG : z_ok G) : ∀ w ∈ z_thr "TypeKernel" 78 80 "java/lang/IndexOutOfBoundsException", w ∈ G.Ts := fun w h => HG.mem (of_decide_eq_true (List.all_eq_true.mp (by decide +kernel : (z_thr "TypeKernel" 78 80 "java/lang/IndexOutOfBoundsException").all (fun w => decide (w ∈ k_ws)) = true) w h))
theorem t_TK_111 (HG : z_ok G) : ∀ w ∈ z_thr "TypeKernel" 111 113 "java/lang/IllegalArgumentException", w ∈ G.Ts := fun w h => HG.mem (of_decide_eq_true (List.all_eq_true.mp (by decide +kernel : (z_thr "TypeKernel" 111 113 "java/lang/IllegalArgumentException").all (fun w => decide (w ∈ k_ws)) = true) w h))
theorem t_TK_129 (HG : z_ok G) : ∀ w ∈ z_thr "TypeKernel" 129 131 "java/lang/UnsupportedOperationException", w ∈ G.Ts := fun w h => HG.mem (of_decide_eq_true (List.all_eq_true.mp (by decide +kernel : (z_thr "TypeKernel" 129 131 "java/lang/UnsupportedOperationException").all (fun w => decide (w ∈ k_ws)) = true) w h))
theorem t_TK_146 (HG : z_ok G) : ∀ w ∈ z_thr "TypeKernel" 146 148 "java/lang/IllegalStateException", w ∈ G.Ts := fun w h => HG.mem (of_decide_eq_true (List.all_eq_true.mp (by decide +kernel : (z_thr "TypeKernel" 146 148 "java/lang/IllegalStateException").all (fun w => decide (w ∈ k_ws)) = true) w h))
theorem t_Rw_63 (HG : z_ok G) : ∀ w ∈ z_thr "TypeKernel$Rewriter" 63 65 "java/lang/ArithmeticException", w ∈ G.Ts := fun w h => HG.mem (of_decide_eq_true (List.all_eq_true.mp (by decide +kernel : (z_thr "TypeKernel$Rewriter" 63 65 "java/lang/ArithmeticException").all (fun w => decide (w ∈ k_ws)) = true) w h))
theorem t_Row_19 (HG : z_ok G) : ∀ w ∈ z_thr "TypeKernel$Row" 19 21 "java/lang/ArithmeticException", w ∈ G.Ts := fun w h => HG.mem (of_decide_eq_true (List.all_eq_true.mp (by decide +kernel : (z_thr "TypeKernel$Row" 19 21 "java/lang/ArithmeticException").all (fun w => decide (w ∈ k_ws)) = true) w h))
end ZN
end
section
theorem d_Row_init_0 : decode m_Row_init.2.1 0 = .ok (.aload_n 0, 1) := by decide +kernel
theorem d_Row_init_1 : decode m_Row_init.2.1 1 = .ok (.invokespecial 3, 3) := by decide +kernel
theorem d_Row_init_4 : decode m_Row_init.2.1 4 = .ok (.aload_n 0, 1) := by decide +kernel
theorem d_Row_init_5 : decode m_Row_init.2.1 5 = .ok (.bipush 40, 2) := by decide +kernel
theorem d_Row_init_7 : decode m_Row_init.2.1 7 = .ok (.newarray .int, 2) := by decide +kernel
theorem d_Row_init_9 : decode m_Row_init.2.1 9 = .ok (.putfield 9, 3) := by decide +kernel
theorem d_Row_init_12 : decode m_Row_init.2.1 12 = .ok (.aload_n 0, 1) := by decide +kernel
theorem d_Row_init_13 : decode m_Row_init.2.1 13 = .ok (.iconst 0, 1) := by decide +kernel
theorem d_Row_init_14 : decode m_Row_init.2.1 14 = .ok (.putfield 15, 3) := by decide +kernel
theorem d_Row_init_17 : decode m_Row_init.2.1 17 = .ok (.return_, 1) := by decide +kernel
theorem d_Row_at_0 : decode m_Row_at.2.1 0 = .ok (.iload_n 1, 1) := by decide +kernel
theorem d_Row_at_1 : decode m_Row_at.2.1 1 = .ok (.ifCond .lt 20, 3) := by decide +kernel
theorem d_Row_at_4 : decode m_Row_at.2.1 4 = .ok (.iload_n 1, 1) := by decide +kernel
theorem d_Row_at_5 : decode m_Row_at.2.1 5 = .ok (.aload_n 0, 1) := by decide +kernel
theorem d_Row_at_6 : decode m_Row_at.2.1 6 = .ok (.getfield 15, 3) := by decide +kernel
theorem d_Row_at_9 : decode m_Row_at.2.1 9 = .ok (.if_icmp .ge 12, 3) := by decide +kernel
theorem d_Row_at_12 : decode m_Row_at.2.1 12 = .ok (.aload_n 0, 1) := by decide +kernel
theorem d_Row_at_13 : decode m_Row_at.2.1 13 = .ok (.getfield 9, 3) := by decide +kernel
theorem d_Row_at_16 : decode m_Row_at.2.1 16 = .ok (.iload_n 1, 1) := by decide +kernel
theorem d_Row_at_17 : decode m_Row_at.2.1 17 = .ok (.iaload, 1) := by decide +kernel
theorem d_Row_at_18 : decode m_Row_at.2.1 18 = .ok (.goto 4, 3) := by decide +kernel
theorem d_Row_at_21 : decode m_Row_at.2.1 21 = .ok (.iconst (-1), 1) := by decide +kernel
theorem d_Row_at_22 : decode m_Row_at.2.1 22 = .ok (.ireturn, 1) := by decide +kernel
theorem d_Row_is_0 : decode m_Row_is.2.1 0 = .ok (.aload_n 0, 1) := by decide +kernel
theorem d_Row_is_1 : decode m_Row_is.2.1 1 = .ok (.getfield 15, 3) := by decide +kernel
theorem d_Row_is_4 : decode m_Row_is.2.1 4 = .ok (.iconst 1, 1) := by decide +kernel
theorem d_Row_is_5 : decode m_Row_is.2.1 5 = .ok (.if_icmp .ne 17, 3) := by decide +kernel
theorem d_Row_is_8 : decode m_Row_is.2.1 8 = .ok (.aload_n 0, 1) := by decide +kernel
theorem d_Row_is_9 : decode m_Row_is.2.1 9 = .ok (.getfield 9, 3) := by decide +kernel
theorem d_Row_is_12 : decode m_Row_is.2.1 12 = .ok (.iconst 0, 1) := by decide +kernel
theorem d_Row_is_13 : decode m_Row_is.2.1 13 = .ok (.iaload, 1) := by decide +kernel
theorem d_Row_is_14 : decode m_Row_is.2.1 14 = .ok (.iload_n 1, 1) := by decide +kernel
theorem d_Row_is_15 : decode m_Row_is.2.1 15 = .ok (.if_icmp .ne 7, 3) := by decide +kernel
theorem d_Row_is_18 : decode m_Row_is.2.1 18 = .ok (.iconst 1, 1) := by decide +kernel
theorem d_Row_is_19 : decode m_Row_is.2.1 19 = .ok (.goto 4, 3) := by decide +kernel
theorem d_Row_is_22 : decode m_Row_is.2.1 22 = .ok (.iconst 0, 1) := by decide +kernel
theorem d_Row_is_23 : decode m_Row_is.2.1 23 = .ok (.ireturn, 1) := by decide +kernel
theorem d_Row_clear_0 : decode m_Row_clear.2.1 0 = .ok (.aload_n 0, 1) := by decide +kernel
theorem d_Row_clear_1 : decode m_Row_clear.2.1 1 = .ok (.iconst 0, 1) := by decide +kernel
theorem d_Row_clear_2 : decode m_Row_clear.2.1 2 = .ok (.putfield 15, 3) := by decide +kernel
theorem d_Row_clear_5 : decode m_Row_clear.2.1 5 = .ok (.return_, 1) := by decide +kernel
theorem d_Row_append_0 : decode m_Row_append.2.1 0 = .ok (.aload_n 0, 1) := by decide +kernel
theorem d_Row_append_1 : decode m_Row_append.2.1 1 = .ok (.getfield 15, 3) := by decide +kernel
theorem d_Row_append_4 : decode m_Row_append.2.1 4 = .ok (.bipush 40, 2) := by decide +kernel
theorem d_Row_append_6 : decode m_Row_append.2.1 6 = .ok (.if_icmp .ne 11, 3) := by decide +kernel
theorem d_Row_append_9 : decode m_Row_append.2.1 9 = .ok (.new 19, 3) := by decide +kernel
theorem d_Row_append_12 : decode m_Row_append.2.1 12 = .ok (.dup, 1) := by decide +kernel
theorem d_Row_append_13 : decode m_Row_append.2.1 13 = .ok (.invokespecial 21, 3) := by decide +kernel
theorem d_Row_append_16 : decode m_Row_append.2.1 16 = .ok (.athrow, 1) := by decide +kernel
theorem d_Row_append_17 : decode m_Row_append.2.1 17 = .ok (.aload_n 0, 1) := by decide +kernel
theorem d_Row_append_18 : decode m_Row_append.2.1 18 = .ok (.getfield 9, 3) := by decide +kernel
theorem d_Row_append_21 : decode m_Row_append.2.1 21 = .ok (.aload_n 0, 1) := by decide +kernel
theorem d_Row_append_22 : decode m_Row_append.2.1 22 = .ok (.getfield 15, 3) := by decide +kernel
theorem d_Row_append_25 : decode m_Row_append.2.1 25 = .ok (.iload_n 1, 1) := by decide +kernel
theorem d_Row_append_26 : decode m_Row_append.2.1 26 = .ok (.iastore, 1) := by decide +kernel
theorem d_Row_append_27 : decode m_Row_append.2.1 27 = .ok (.aload_n 0, 1) := by decide +kernel
theorem d_Row_append_28 : decode m_Row_append.2.1 28 = .ok (.dup, 1) := by decide +kernel
theorem d_Row_append_29 : decode m_Row_append.2.1 29 = .ok (.getfield 15, 3) := by decide +kernel
theorem d_Row_append_32 : decode m_Row_append.2.1 32 = .ok (.iconst 1, 1) := by decide +kernel
theorem d_Row_append_33 : decode m_Row_append.2.1 33 = .ok (.iadd, 1) := by decide +kernel
theorem d_Row_append_34 : decode m_Row_append.2.1 34 = .ok (.putfield 15, 3) := by decide +kernel
theorem d_Row_append_37 : decode m_Row_append.2.1 37 = .ok (.return_, 1) := by decide +kernel
theorem d_Row_appendPart_0 : decode m_Row_appendPart.2.1 0 = .ok (.iload_n 2, 1) := by decide +kernel
theorem d_Row_appendPart_1 : decode m_Row_appendPart.2.1 1 = .ok (.istore 4, 2) := by decide +kernel
theorem d_Row_appendPart_3 : decode m_Row_appendPart.2.1 3 = .ok (.iload 4, 2) := by decide +kernel
theorem d_Row_appendPart_5 : decode m_Row_appendPart.2.1 5 = .ok (.iload_n 3, 1) := by decide +kernel
theorem d_Row_appendPart_6 : decode m_Row_appendPart.2.1 6 = .ok (.if_icmp .ge 19, 3) := by decide +kernel
theorem d_Row_appendPart_9 : decode m_Row_appendPart.2.1 9 = .ok (.aload_n 0, 1) := by decide +kernel
theorem d_Row_appendPart_10 : decode m_Row_appendPart.2.1 10 = .ok (.aload_n 1, 1) := by decide +kernel
theorem d_Row_appendPart_11 : decode m_Row_appendPart.2.1 11 = .ok (.iload 4, 2) := by decide +kernel
theorem d_Row_appendPart_13 : decode m_Row_appendPart.2.1 13 = .ok (.invokevirtual 22, 3) := by decide +kernel
theorem d_Row_appendPart_16 : decode m_Row_appendPart.2.1 16 = .ok (.invokevirtual 26, 3) := by decide +kernel
theorem d_Row_appendPart_19 : decode m_Row_appendPart.2.1 19 = .ok (.iinc 4 1, 3) := by decide +kernel
theorem d_Row_appendPart_22 : decode m_Row_appendPart.2.1 22 = .ok (.goto (-19), 3) := by decide +kernel
theorem d_Row_appendPart_25 : decode m_Row_appendPart.2.1 25 = .ok (.return_, 1) := by decide +kernel
theorem d_Row_become_0 : decode m_Row_become.2.1 0 = .ok (.aload_n 0, 1) := by decide +kernel
theorem d_Row_become_1 : decode m_Row_become.2.1 1 = .ok (.invokevirtual 30, 3) := by decide +kernel
theorem d_Row_become_4 : decode m_Row_become.2.1 4 = .ok (.aload_n 0, 1) := by decide +kernel
theorem d_Row_become_5 : decode m_Row_become.2.1 5 = .ok (.iload_n 1, 1) := by decide +kernel
theorem d_Row_become_6 : decode m_Row_become.2.1 6 = .ok (.invokevirtual 26, 3) := by decide +kernel
theorem d_Row_become_9 : decode m_Row_become.2.1 9 = .ok (.return_, 1) := by decide +kernel
theorem d_Row_copy_0 : decode m_Row_copy.2.1 0 = .ok (.aload_n 1, 1) := by decide +kernel
theorem d_Row_copy_1 : decode m_Row_copy.2.1 1 = .ok (.getfield 9, 3) := by decide +kernel
theorem d_Row_copy_4 : decode m_Row_copy.2.1 4 = .ok (.iconst 0, 1) := by decide +kernel
theorem d_Row_copy_5 : decode m_Row_copy.2.1 5 = .ok (.aload_n 0, 1) := by decide +kernel
theorem d_Row_copy_6 : decode m_Row_copy.2.1 6 = .ok (.getfield 9, 3) := by decide +kernel
theorem d_Row_copy_9 : decode m_Row_copy.2.1 9 = .ok (.iconst 0, 1) := by decide +kernel
theorem d_Row_copy_10 : decode m_Row_copy.2.1 10 = .ok (.aload_n 1, 1) := by decide +kernel
theorem d_Row_copy_11 : decode m_Row_copy.2.1 11 = .ok (.getfield 15, 3) := by decide +kernel
theorem d_Row_copy_14 : decode m_Row_copy.2.1 14 = .ok (.invokestatic 33, 3) := by decide +kernel
theorem d_Row_copy_17 : decode m_Row_copy.2.1 17 = .ok (.aload_n 0, 1) := by decide +kernel
theorem d_Row_copy_18 : decode m_Row_copy.2.1 18 = .ok (.aload_n 1, 1) := by decide +kernel
theorem d_Row_copy_19 : decode m_Row_copy.2.1 19 = .ok (.getfield 15, 3) := by decide +kernel
theorem d_Row_copy_22 : decode m_Row_copy.2.1 22 = .ok (.putfield 15, 3) := by decide +kernel
theorem d_Row_copy_25 : decode m_Row_copy.2.1 25 = .ok (.return_, 1) := by decide +kernel
theorem d_Row_join_0 : decode m_Row_join.2.1 0 = .ok (.aload_n 0, 1) := by decide +kernel
theorem d_Row_join_1 : decode m_Row_join.2.1 1 = .ok (.iload_n 1, 1) := by decide +kernel
theorem d_Row_join_2 : decode m_Row_join.2.1 2 = .ok (.invokevirtual 39, 3) := by decide +kernel
theorem d_Row_join_5 : decode m_Row_join.2.1 5 = .ok (.aload_n 0, 1) := by decide +kernel
theorem d_Row_join_6 : decode m_Row_join.2.1 6 = .ok (.aload_n 2, 1) := by decide +kernel
theorem d_Row_join_7 : decode m_Row_join.2.1 7 = .ok (.iconst 0, 1) := by decide +kernel
theorem d_Row_join_8 : decode m_Row_join.2.1 8 = .ok (.aload_n 2, 1) := by decide +kernel
theorem d_Row_join_9 : decode m_Row_join.2.1 9 = .ok (.getfield 15, 3) := by decide +kernel
theorem d_Row_join_12 : decode m_Row_join.2.1 12 = .ok (.invokevirtual 42, 3) := by decide +kernel
theorem d_Row_join_15 : decode m_Row_join.2.1 15 = .ok (.aload_n 0, 1) := by decide +kernel
theorem d_Row_join_16 : decode m_Row_join.2.1 16 = .ok (.aload_n 3, 1) := by decide +kernel
theorem d_Row_join_17 : decode m_Row_join.2.1 17 = .ok (.iconst 0, 1) := by decide +kernel
theorem d_Row_join_18 : decode m_Row_join.2.1 18 = .ok (.aload_n 3, 1) := by decide +kernel
theorem d_Row_join_19 : decode m_Row_join.2.1 19 = .ok (.getfield 15, 3) := by decide +kernel
theorem d_Row_join_22 : decode m_Row_join.2.1 22 = .ok (.invokevirtual 42, 3) := by decide +kernel
theorem d_Row_join_25 : decode m_Row_join.2.1 25 = .ok (.return_, 1) := by decide +kernel
theorem d_Row_endOf_0 : decode m_Row_endOf.2.1 0 = .ok (.iconst 1, 1) := by decide +kernel
theorem d_Row_endOf_1 : decode m_Row_endOf.2.1 1 = .ok (.istore_n 2, 1) := by decide +kernel
theorem d_Row_endOf_2 : decode m_Row_endOf.2.1 2 = .ok (.iload_n 1, 1) := by decide +kernel
theorem d_Row_endOf_3 : decode m_Row_endOf.2.1 3 = .ok (.istore_n 3, 1) := by decide +kernel
theorem d_Row_endOf_4 : decode m_Row_endOf.2.1 4 = .ok (.iload_n 3, 1) := by decide +kernel
theorem d_Row_endOf_5 : decode m_Row_endOf.2.1 5 = .ok (.aload_n 0, 1) := by decide +kernel
theorem d_Row_endOf_6 : decode m_Row_endOf.2.1 6 = .ok (.getfield 15, 3) := by decide +kernel
theorem d_Row_endOf_9 : decode m_Row_endOf.2.1 9 = .ok (.if_icmp .ge 33, 3) := by decide +kernel
theorem d_Row_endOf_12 : decode m_Row_endOf.2.1 12 = .ok (.iload_n 2, 1) := by decide +kernel
theorem d_Row_endOf_13 : decode m_Row_endOf.2.1 13 = .ok (.ifCond .le 29, 3) := by decide +kernel
theorem d_Row_endOf_16 : decode m_Row_endOf.2.1 16 = .ok (.iload_n 2, 1) := by decide +kernel
theorem d_Row_endOf_17 : decode m_Row_endOf.2.1 17 = .ok (.aload_n 0, 1) := by decide +kernel
theorem d_Row_endOf_18 : decode m_Row_endOf.2.1 18 = .ok (.getfield 9, 3) := by decide +kernel
theorem d_Row_endOf_21 : decode m_Row_endOf.2.1 21 = .ok (.iload_n 3, 1) := by decide +kernel
theorem d_Row_endOf_22 : decode m_Row_endOf.2.1 22 = .ok (.iaload, 1) := by decide +kernel
theorem d_Row_endOf_23 : decode m_Row_endOf.2.1 23 = .ok (.invokestatic 46, 3) := by decide +kernel
theorem d_Row_endOf_26 : decode m_Row_endOf.2.1 26 = .ok (.ifCond .eq 7, 3) := by decide +kernel
theorem d_Row_endOf_29 : decode m_Row_endOf.2.1 29 = .ok (.iconst 1, 1) := by decide +kernel
theorem d_Row_endOf_30 : decode m_Row_endOf.2.1 30 = .ok (.goto 4, 3) := by decide +kernel
theorem d_Row_endOf_33 : decode m_Row_endOf.2.1 33 = .ok (.iconst (-1), 1) := by decide +kernel
theorem d_Row_endOf_34 : decode m_Row_endOf.2.1 34 = .ok (.iadd, 1) := by decide +kernel
theorem d_Row_endOf_35 : decode m_Row_endOf.2.1 35 = .ok (.istore_n 2, 1) := by decide +kernel
theorem d_Row_endOf_36 : decode m_Row_endOf.2.1 36 = .ok (.iinc 3 1, 3) := by decide +kernel
theorem d_Row_endOf_39 : decode m_Row_endOf.2.1 39 = .ok (.goto (-35), 3) := by decide +kernel
theorem d_Row_endOf_42 : decode m_Row_endOf.2.1 42 = .ok (.iload_n 3, 1) := by decide +kernel
theorem d_Row_endOf_43 : decode m_Row_endOf.2.1 43 = .ok (.ireturn, 1) := by decide +kernel
theorem d_Row_headOf_0 : decode m_Row_headOf.2.1 0 = .ok (.iload_n 1, 1) := by decide +kernel
theorem d_Row_headOf_1 : decode m_Row_headOf.2.1 1 = .ok (.istore_n 2, 1) := by decide +kernel
theorem d_Row_headOf_2 : decode m_Row_headOf.2.1 2 = .ok (.iload_n 2, 1) := by decide +kernel
theorem d_Row_headOf_3 : decode m_Row_headOf.2.1 3 = .ok (.aload_n 0, 1) := by decide +kernel
theorem d_Row_headOf_4 : decode m_Row_headOf.2.1 4 = .ok (.getfield 15, 3) := by decide +kernel
theorem d_Row_headOf_7 : decode m_Row_headOf.2.1 7 = .ok (.if_icmp .ge 19, 3) := by decide +kernel
theorem d_Row_headOf_10 : decode m_Row_headOf.2.1 10 = .ok (.aload_n 0, 1) := by decide +kernel
theorem d_Row_headOf_11 : decode m_Row_headOf.2.1 11 = .ok (.getfield 9, 3) := by decide +kernel
theorem d_Row_headOf_14 : decode m_Row_headOf.2.1 14 = .ok (.iload_n 2, 1) := by decide +kernel
theorem d_Row_headOf_15 : decode m_Row_headOf.2.1 15 = .ok (.iaload, 1) := by decide +kernel
theorem d_Row_headOf_16 : decode m_Row_headOf.2.1 16 = .ok (.iconst 2, 1) := by decide +kernel
theorem d_Row_headOf_17 : decode m_Row_headOf.2.1 17 = .ok (.if_icmp .ne 9, 3) := by decide +kernel
theorem d_Row_headOf_20 : decode m_Row_headOf.2.1 20 = .ok (.iinc 2 1, 3) := by decide +kernel
theorem d_Row_headOf_23 : decode m_Row_headOf.2.1 23 = .ok (.goto (-21), 3) := by decide +kernel
theorem d_Row_headOf_26 : decode m_Row_headOf.2.1 26 = .ok (.iload_n 2, 1) := by decide +kernel
theorem d_Row_headOf_27 : decode m_Row_headOf.2.1 27 = .ok (.ireturn, 1) := by decide +kernel
theorem d_Row_countOf_0 : decode m_Row_countOf.2.1 0 = .ok (.iconst 0, 1) := by decide +kernel
theorem d_Row_countOf_1 : decode m_Row_countOf.2.1 1 = .ok (.istore_n 2, 1) := by decide +kernel
theorem d_Row_countOf_2 : decode m_Row_countOf.2.1 2 = .ok (.iconst 0, 1) := by decide +kernel
theorem d_Row_countOf_3 : decode m_Row_countOf.2.1 3 = .ok (.istore_n 3, 1) := by decide +kernel
theorem d_Row_countOf_4 : decode m_Row_countOf.2.1 4 = .ok (.iload_n 3, 1) := by decide +kernel
theorem d_Row_countOf_5 : decode m_Row_countOf.2.1 5 = .ok (.aload_n 0, 1) := by decide +kernel
theorem d_Row_countOf_6 : decode m_Row_countOf.2.1 6 = .ok (.getfield 15, 3) := by decide +kernel
theorem d_Row_countOf_9 : decode m_Row_countOf.2.1 9 = .ok (.if_icmp .ge 22, 3) := by decide +kernel
theorem d_Row_countOf_12 : decode m_Row_countOf.2.1 12 = .ok (.aload_n 0, 1) := by decide +kernel
theorem d_Row_countOf_13 : decode m_Row_countOf.2.1 13 = .ok (.getfield 9, 3) := by decide +kernel
theorem d_Row_countOf_16 : decode m_Row_countOf.2.1 16 = .ok (.iload_n 3, 1) := by decide +kernel
theorem d_Row_countOf_17 : decode m_Row_countOf.2.1 17 = .ok (.iaload, 1) := by decide +kernel
theorem d_Row_countOf_18 : decode m_Row_countOf.2.1 18 = .ok (.iload_n 1, 1) := by decide +kernel
theorem d_Row_countOf_19 : decode m_Row_countOf.2.1 19 = .ok (.if_icmp .ne 6, 3) := by decide +kernel
theorem d_Row_countOf_22 : decode m_Row_countOf.2.1 22 = .ok (.iinc 2 1, 3) := by decide +kernel
theorem d_Row_countOf_25 : decode m_Row_countOf.2.1 25 = .ok (.iinc 3 1, 3) := by decide +kernel
theorem d_Row_countOf_28 : decode m_Row_countOf.2.1 28 = .ok (.goto (-24), 3) := by decide +kernel
theorem d_Row_countOf_31 : decode m_Row_countOf.2.1 31 = .ok (.iload_n 2, 1) := by decide +kernel
theorem d_Row_countOf_32 : decode m_Row_countOf.2.1 32 = .ok (.ireturn, 1) := by decide +kernel
theorem d_Row_isPart_0 : decode m_Row_isPart.2.1 0 = .ok (.aload_n 0, 1) := by decide +kernel
theorem d_Row_isPart_1 : decode m_Row_isPart.2.1 1 = .ok (.getfield 15, 3) := by decide +kernel
theorem d_Row_isPart_4 : decode m_Row_isPart.2.1 4 = .ok (.iload_n 3, 1) := by decide +kernel
theorem d_Row_isPart_5 : decode m_Row_isPart.2.1 5 = .ok (.iload_n 2, 1) := by decide +kernel
theorem d_Row_isPart_6 : decode m_Row_isPart.2.1 6 = .ok (.isub, 1) := by decide +kernel
theorem d_Row_isPart_7 : decode m_Row_isPart.2.1 7 = .ok (.if_icmp .eq 5, 3) := by decide +kernel
theorem d_Row_isPart_10 : decode m_Row_isPart.2.1 10 = .ok (.iconst 0, 1) := by decide +kernel
theorem d_Row_isPart_11 : decode m_Row_isPart.2.1 11 = .ok (.ireturn, 1) := by decide +kernel
theorem d_Row_isPart_12 : decode m_Row_isPart.2.1 12 = .ok (.iconst 0, 1) := by decide +kernel
theorem d_Row_isPart_13 : decode m_Row_isPart.2.1 13 = .ok (.istore 4, 2) := by decide +kernel
theorem d_Row_isPart_15 : decode m_Row_isPart.2.1 15 = .ok (.iload 4, 2) := by decide +kernel
theorem d_Row_isPart_17 : decode m_Row_isPart.2.1 17 = .ok (.aload_n 0, 1) := by decide +kernel
theorem d_Row_isPart_18 : decode m_Row_isPart.2.1 18 = .ok (.getfield 15, 3) := by decide +kernel
theorem d_Row_isPart_21 : decode m_Row_isPart.2.1 21 = .ok (.if_icmp .ge 29, 3) := by decide +kernel
theorem d_Row_isPart_24 : decode m_Row_isPart.2.1 24 = .ok (.aload_n 0, 1) := by decide +kernel
theorem d_Row_isPart_25 : decode m_Row_isPart.2.1 25 = .ok (.getfield 9, 3) := by decide +kernel
theorem d_Row_isPart_28 : decode m_Row_isPart.2.1 28 = .ok (.iload 4, 2) := by decide +kernel
theorem d_Row_isPart_30 : decode m_Row_isPart.2.1 30 = .ok (.iaload, 1) := by decide +kernel
theorem d_Row_isPart_31 : decode m_Row_isPart.2.1 31 = .ok (.aload_n 1, 1) := by decide +kernel
theorem d_Row_isPart_32 : decode m_Row_isPart.2.1 32 = .ok (.iload_n 2, 1) := by decide +kernel
theorem d_Row_isPart_33 : decode m_Row_isPart.2.1 33 = .ok (.iload 4, 2) := by decide +kernel
theorem d_Row_isPart_35 : decode m_Row_isPart.2.1 35 = .ok (.iadd, 1) := by decide +kernel
theorem d_Row_isPart_36 : decode m_Row_isPart.2.1 36 = .ok (.invokevirtual 22, 3) := by decide +kernel
theorem d_Row_isPart_39 : decode m_Row_isPart.2.1 39 = .ok (.if_icmp .eq 5, 3) := by decide +kernel
theorem d_Row_isPart_42 : decode m_Row_isPart.2.1 42 = .ok (.iconst 0, 1) := by decide +kernel
theorem d_Row_isPart_43 : decode m_Row_isPart.2.1 43 = .ok (.ireturn, 1) := by decide +kernel
theorem d_Row_isPart_44 : decode m_Row_isPart.2.1 44 = .ok (.iinc 4 1, 3) := by decide +kernel
theorem d_Row_isPart_47 : decode m_Row_isPart.2.1 47 = .ok (.goto (-32), 3) := by decide +kernel
theorem d_Row_isPart_50 : decode m_Row_isPart.2.1 50 = .ok (.iconst 1, 1) := by decide +kernel
theorem d_Row_isPart_51 : decode m_Row_isPart.2.1 51 = .ok (.ireturn, 1) := by decide +kernel
theorem d_Row_equalsRow_0 : decode m_Row_equalsRow.2.1 0 = .ok (.aload_n 0, 1) := by decide +kernel
theorem d_Row_equalsRow_1 : decode m_Row_equalsRow.2.1 1 = .ok (.aload_n 1, 1) := by decide +kernel
theorem d_Row_equalsRow_2 : decode m_Row_equalsRow.2.1 2 = .ok (.iconst 0, 1) := by decide +kernel
theorem d_Row_equalsRow_3 : decode m_Row_equalsRow.2.1 3 = .ok (.aload_n 1, 1) := by decide +kernel
theorem d_Row_equalsRow_4 : decode m_Row_equalsRow.2.1 4 = .ok (.getfield 15, 3) := by decide +kernel
theorem d_Row_equalsRow_7 : decode m_Row_equalsRow.2.1 7 = .ok (.invokevirtual 50, 3) := by decide +kernel
theorem d_Row_equalsRow_10 : decode m_Row_equalsRow.2.1 10 = .ok (.ireturn, 1) := by decide +kernel
theorem d_Row_hasParts_0 : decode m_Row_hasParts.2.1 0 = .ok (.iload_n 0, 1) := by decide +kernel
theorem d_Row_hasParts_1 : decode m_Row_hasParts.2.1 1 = .ok (.iconst 2, 1) := by decide +kernel
theorem d_Row_hasParts_2 : decode m_Row_hasParts.2.1 2 = .ok (.if_icmp .eq 13, 3) := by decide +kernel
theorem d_Row_hasParts_5 : decode m_Row_hasParts.2.1 5 = .ok (.iload_n 0, 1) := by decide +kernel
theorem d_Row_hasParts_6 : decode m_Row_hasParts.2.1 6 = .ok (.iconst 3, 1) := by decide +kernel
theorem d_Row_hasParts_7 : decode m_Row_hasParts.2.1 7 = .ok (.if_icmp .eq 8, 3) := by decide +kernel
theorem d_Row_hasParts_10 : decode m_Row_hasParts.2.1 10 = .ok (.iload_n 0, 1) := by decide +kernel
theorem d_Row_hasParts_11 : decode m_Row_hasParts.2.1 11 = .ok (.iconst 4, 1) := by decide +kernel
theorem d_Row_hasParts_12 : decode m_Row_hasParts.2.1 12 = .ok (.if_icmp .ne 7, 3) := by decide +kernel
theorem d_Row_hasParts_15 : decode m_Row_hasParts.2.1 15 = .ok (.iconst 1, 1) := by decide +kernel
theorem d_Row_hasParts_16 : decode m_Row_hasParts.2.1 16 = .ok (.goto 4, 3) := by decide +kernel
theorem d_Row_hasParts_19 : decode m_Row_hasParts.2.1 19 = .ok (.iconst 0, 1) := by decide +kernel
theorem d_Row_hasParts_20 : decode m_Row_hasParts.2.1 20 = .ok (.ireturn, 1) := by decide +kernel
theorem d_Wk_init_0 : decode m_Wk_init.2.1 0 = .ok (.aload_n 0, 1) := by decide +kernel
theorem d_Wk_init_1 : decode m_Wk_init.2.1 1 = .ok (.invokespecial 3, 3) := by decide +kernel
theorem d_Wk_init_4 : decode m_Wk_init.2.1 4 = .ok (.aload_n 0, 1) := by decide +kernel
theorem d_Wk_init_5 : decode m_Wk_init.2.1 5 = .ok (.bipush 41, 2) := by decide +kernel
theorem d_Wk_init_7 : decode m_Wk_init.2.1 7 = .ok (.newarray .int, 2) := by decide +kernel
theorem d_Wk_init_9 : decode m_Wk_init.2.1 9 = .ok (.putfield 9, 3) := by decide +kernel
theorem d_Wk_init_12 : decode m_Wk_init.2.1 12 = .ok (.aload_n 0, 1) := by decide +kernel
theorem d_Wk_init_13 : decode m_Wk_init.2.1 13 = .ok (.iconst 0, 1) := by decide +kernel
theorem d_Wk_init_14 : decode m_Wk_init.2.1 14 = .ok (.putfield 15, 3) := by decide +kernel
theorem d_Wk_init_17 : decode m_Wk_init.2.1 17 = .ok (.return_, 1) := by decide +kernel
theorem d_Wk_begin_0 : decode m_Wk_begin.2.1 0 = .ok (.aload_n 0, 1) := by decide +kernel
theorem d_Wk_begin_1 : decode m_Wk_begin.2.1 1 = .ok (.getfield 9, 3) := by decide +kernel
theorem d_Wk_begin_4 : decode m_Wk_begin.2.1 4 = .ok (.iconst 0, 1) := by decide +kernel
theorem d_Wk_begin_5 : decode m_Wk_begin.2.1 5 = .ok (.iconst 0, 1) := by decide +kernel
theorem d_Wk_begin_6 : decode m_Wk_begin.2.1 6 = .ok (.iastore, 1) := by decide +kernel
theorem d_Wk_begin_7 : decode m_Wk_begin.2.1 7 = .ok (.aload_n 0, 1) := by decide +kernel
theorem d_Wk_begin_8 : decode m_Wk_begin.2.1 8 = .ok (.iconst 1, 1) := by decide +kernel
theorem d_Wk_begin_9 : decode m_Wk_begin.2.1 9 = .ok (.putfield 15, 3) := by decide +kernel
theorem d_Wk_begin_12 : decode m_Wk_begin.2.1 12 = .ok (.return_, 1) := by decide +kernel
theorem d_Wk_goesOn_0 : decode m_Wk_goesOn.2.1 0 = .ok (.aload_n 0, 1) := by decide +kernel
theorem d_Wk_goesOn_1 : decode m_Wk_goesOn.2.1 1 = .ok (.getfield 15, 3) := by decide +kernel
theorem d_Wk_goesOn_4 : decode m_Wk_goesOn.2.1 4 = .ok (.ifCond .le 7, 3) := by decide +kernel
theorem d_Wk_goesOn_7 : decode m_Wk_goesOn.2.1 7 = .ok (.iconst 1, 1) := by decide +kernel
theorem d_Wk_goesOn_8 : decode m_Wk_goesOn.2.1 8 = .ok (.goto 4, 3) := by decide +kernel
theorem d_Wk_goesOn_11 : decode m_Wk_goesOn.2.1 11 = .ok (.iconst 0, 1) := by decide +kernel
theorem d_Wk_goesOn_12 : decode m_Wk_goesOn.2.1 12 = .ok (.ireturn, 1) := by decide +kernel
theorem d_Wk_depthOf_0 : decode m_Wk_depthOf.2.1 0 = .ok (.aload_n 0, 1) := by decide +kernel
theorem d_Wk_depthOf_1 : decode m_Wk_depthOf.2.1 1 = .ok (.dup, 1) := by decide +kernel
theorem d_Wk_depthOf_2 : decode m_Wk_depthOf.2.1 2 = .ok (.getfield 15, 3) := by decide +kernel
theorem d_Wk_depthOf_5 : decode m_Wk_depthOf.2.1 5 = .ok (.iconst 1, 1) := by decide +kernel
theorem d_Wk_depthOf_6 : decode m_Wk_depthOf.2.1 6 = .ok (.isub, 1) := by decide +kernel
theorem d_Wk_depthOf_7 : decode m_Wk_depthOf.2.1 7 = .ok (.putfield 15, 3) := by decide +kernel
theorem d_Wk_depthOf_10 : decode m_Wk_depthOf.2.1 10 = .ok (.aload_n 0, 1) := by decide +kernel
theorem d_Wk_depthOf_11 : decode m_Wk_depthOf.2.1 11 = .ok (.getfield 9, 3) := by decide +kernel
theorem d_Wk_depthOf_14 : decode m_Wk_depthOf.2.1 14 = .ok (.aload_n 0, 1) := by decide +kernel
theorem d_Wk_depthOf_15 : decode m_Wk_depthOf.2.1 15 = .ok (.getfield 15, 3) := by decide +kernel
theorem d_Wk_depthOf_18 : decode m_Wk_depthOf.2.1 18 = .ok (.iaload, 1) := by decide +kernel
theorem d_Wk_depthOf_19 : decode m_Wk_depthOf.2.1 19 = .ok (.istore_n 2, 1) := by decide +kernel
theorem d_Wk_depthOf_20 : decode m_Wk_depthOf.2.1 20 = .ok (.iload_n 1, 1) := by decide +kernel
theorem d_Wk_depthOf_21 : decode m_Wk_depthOf.2.1 21 = .ok (.iconst 2, 1) := by decide +kernel
theorem d_Wk_depthOf_22 : decode m_Wk_depthOf.2.1 22 = .ok (.if_icmp .eq 13, 3) := by decide +kernel
theorem d_Wk_depthOf_25 : decode m_Wk_depthOf.2.1 25 = .ok (.iload_n 1, 1) := by decide +kernel
theorem d_Wk_depthOf_26 : decode m_Wk_depthOf.2.1 26 = .ok (.iconst 3, 1) := by decide +kernel
theorem d_Wk_depthOf_27 : decode m_Wk_depthOf.2.1 27 = .ok (.if_icmp .eq 8, 3) := by decide +kernel
theorem d_Wk_depthOf_30 : decode m_Wk_depthOf.2.1 30 = .ok (.iload_n 1, 1) := by decide +kernel
theorem d_Wk_depthOf_31 : decode m_Wk_depthOf.2.1 31 = .ok (.iconst 4, 1) := by decide +kernel
theorem d_Wk_depthOf_32 : decode m_Wk_depthOf.2.1 32 = .ok (.if_icmp .ne 46, 3) := by decide +kernel
theorem d_Wk_depthOf_35 : decode m_Wk_depthOf.2.1 35 = .ok (.aload_n 0, 1) := by decide +kernel
theorem d_Wk_depthOf_36 : decode m_Wk_depthOf.2.1 36 = .ok (.getfield 9, 3) := by decide +kernel
theorem d_Wk_depthOf_39 : decode m_Wk_depthOf.2.1 39 = .ok (.aload_n 0, 1) := by decide +kernel
theorem d_Wk_depthOf_40 : decode m_Wk_depthOf.2.1 40 = .ok (.getfield 15, 3) := by decide +kernel
theorem d_Wk_depthOf_43 : decode m_Wk_depthOf.2.1 43 = .ok (.iload_n 1, 1) := by decide +kernel
theorem d_Wk_depthOf_44 : decode m_Wk_depthOf.2.1 44 = .ok (.iconst 2, 1) := by decide +kernel
theorem d_Wk_depthOf_45 : decode m_Wk_depthOf.2.1 45 = .ok (.if_icmp .ne 7, 3) := by decide +kernel
theorem d_Wk_depthOf_48 : decode m_Wk_depthOf.2.1 48 = .ok (.iload_n 2, 1) := by decide +kernel
theorem d_Wk_depthOf_49 : decode m_Wk_depthOf.2.1 49 = .ok (.goto 6, 3) := by decide +kernel
theorem d_Wk_depthOf_52 : decode m_Wk_depthOf.2.1 52 = .ok (.iload_n 2, 1) := by decide +kernel
theorem d_Wk_depthOf_53 : decode m_Wk_depthOf.2.1 53 = .ok (.iconst 1, 1) := by decide +kernel
theorem d_Wk_depthOf_54 : decode m_Wk_depthOf.2.1 54 = .ok (.iadd, 1) := by decide +kernel
theorem d_Wk_depthOf_55 : decode m_Wk_depthOf.2.1 55 = .ok (.iastore, 1) := by decide +kernel
theorem d_Wk_depthOf_56 : decode m_Wk_depthOf.2.1 56 = .ok (.aload_n 0, 1) := by decide +kernel
theorem d_Wk_depthOf_57 : decode m_Wk_depthOf.2.1 57 = .ok (.getfield 9, 3) := by decide +kernel
theorem d_Wk_depthOf_60 : decode m_Wk_depthOf.2.1 60 = .ok (.aload_n 0, 1) := by decide +kernel
theorem d_Wk_depthOf_61 : decode m_Wk_depthOf.2.1 61 = .ok (.getfield 15, 3) := by decide +kernel
theorem d_Wk_depthOf_64 : decode m_Wk_depthOf.2.1 64 = .ok (.iconst 1, 1) := by decide +kernel
theorem d_Wk_depthOf_65 : decode m_Wk_depthOf.2.1 65 = .ok (.iadd, 1) := by decide +kernel
theorem d_Wk_depthOf_66 : decode m_Wk_depthOf.2.1 66 = .ok (.iload_n 2, 1) := by decide +kernel
theorem d_Wk_depthOf_67 : decode m_Wk_depthOf.2.1 67 = .ok (.iastore, 1) := by decide +kernel
theorem d_Wk_depthOf_68 : decode m_Wk_depthOf.2.1 68 = .ok (.aload_n 0, 1) := by decide +kernel
theorem d_Wk_depthOf_69 : decode m_Wk_depthOf.2.1 69 = .ok (.dup, 1) := by decide +kernel
theorem d_Wk_depthOf_70 : decode m_Wk_depthOf.2.1 70 = .ok (.getfield 15, 3) := by decide +kernel
theorem d_Wk_depthOf_73 : decode m_Wk_depthOf.2.1 73 = .ok (.iconst 2, 1) := by decide +kernel
theorem d_Wk_depthOf_74 : decode m_Wk_depthOf.2.1 74 = .ok (.iadd, 1) := by decide +kernel
theorem d_Wk_depthOf_75 : decode m_Wk_depthOf.2.1 75 = .ok (.putfield 15, 3) := by decide +kernel
theorem d_Wk_depthOf_78 : decode m_Wk_depthOf.2.1 78 = .ok (.iload_n 2, 1) := by decide +kernel
theorem d_Wk_depthOf_79 : decode m_Wk_depthOf.2.1 79 = .ok (.ireturn, 1) := by decide +kernel
theorem d_Jd_init_0 : decode m_Jd_init.2.1 0 = .ok (.aload_n 0, 1) := by decide +kernel
theorem d_Jd_init_1 : decode m_Jd_init.2.1 1 = .ok (.invokespecial 1, 3) := by decide +kernel
theorem d_Jd_init_4 : decode m_Jd_init.2.1 4 = .ok (.aload_n 0, 1) := by decide +kernel
theorem d_Jd_init_5 : decode m_Jd_init.2.1 5 = .ok (.new 7, 3) := by decide +kernel
theorem d_Jd_init_8 : decode m_Jd_init.2.1 8 = .ok (.dup, 1) := by decide +kernel
theorem d_Jd_init_9 : decode m_Jd_init.2.1 9 = .ok (.invokespecial 9, 3) := by decide +kernel
theorem d_Jd_init_12 : decode m_Jd_init.2.1 12 = .ok (.putfield 10, 3) := by decide +kernel
theorem d_Jd_init_15 : decode m_Jd_init.2.1 15 = .ok (.aload_n 0, 1) := by decide +kernel
theorem d_Jd_init_16 : decode m_Jd_init.2.1 16 = .ok (.new 7, 3) := by decide +kernel
theorem d_Jd_init_19 : decode m_Jd_init.2.1 19 = .ok (.dup, 1) := by decide +kernel
theorem d_Jd_init_20 : decode m_Jd_init.2.1 20 = .ok (.invokespecial 9, 3) := by decide +kernel
theorem d_Jd_init_23 : decode m_Jd_init.2.1 23 = .ok (.putfield 16, 3) := by decide +kernel
theorem d_Jd_init_26 : decode m_Jd_init.2.1 26 = .ok (.aload_n 0, 1) := by decide +kernel
theorem d_Jd_init_27 : decode m_Jd_init.2.1 27 = .ok (.iconst 0, 1) := by decide +kernel
theorem d_Jd_init_28 : decode m_Jd_init.2.1 28 = .ok (.putfield 19, 3) := by decide +kernel
theorem d_Jd_init_31 : decode m_Jd_init.2.1 31 = .ok (.return_, 1) := by decide +kernel
theorem d_Ru_init_0 : decode m_Ru_init.2.1 0 = .ok (.aload_n 0, 1) := by decide +kernel
theorem d_Ru_init_1 : decode m_Ru_init.2.1 1 = .ok (.invokespecial 1, 3) := by decide +kernel
theorem d_Ru_init_4 : decode m_Ru_init.2.1 4 = .ok (.aload_n 0, 1) := by decide +kernel
theorem d_Ru_init_5 : decode m_Ru_init.2.1 5 = .ok (.new 7, 3) := by decide +kernel
theorem d_Ru_init_8 : decode m_Ru_init.2.1 8 = .ok (.dup, 1) := by decide +kernel
theorem d_Ru_init_9 : decode m_Ru_init.2.1 9 = .ok (.invokespecial 9, 3) := by decide +kernel
theorem d_Ru_init_12 : decode m_Ru_init.2.1 12 = .ok (.putfield 10, 3) := by decide +kernel
theorem d_Ru_init_15 : decode m_Ru_init.2.1 15 = .ok (.aload_n 0, 1) := by decide +kernel
theorem d_Ru_init_16 : decode m_Ru_init.2.1 16 = .ok (.new 7, 3) := by decide +kernel
theorem d_Ru_init_19 : decode m_Ru_init.2.1 19 = .ok (.dup, 1) := by decide +kernel
theorem d_Ru_init_20 : decode m_Ru_init.2.1 20 = .ok (.invokespecial 9, 3) := by decide +kernel
theorem d_Ru_init_23 : decode m_Ru_init.2.1 23 = .ok (.putfield 16, 3) := by decide +kernel
theorem d_Ru_init_26 : decode m_Ru_init.2.1 26 = .ok (.aload_n 0, 1) := by decide +kernel
theorem d_Ru_init_27 : decode m_Ru_init.2.1 27 = .ok (.iconst 0, 1) := by decide +kernel
theorem d_Ru_init_28 : decode m_Ru_init.2.1 28 = .ok (.putfield 19, 3) := by decide +kernel
theorem d_Ru_init_31 : decode m_Ru_init.2.1 31 = .ok (.return_, 1) := by decide +kernel
end
