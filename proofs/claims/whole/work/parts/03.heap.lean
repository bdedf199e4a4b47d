/-! the heap's rows -/
abbrev z_set (h : z_H) (a : Nat) (e : va_E) : z_H := (h.1, h.2.1, va_up h.2.2 a (some e))
abbrev z_new (h : z_H) (n : Nat) (e : va_E) : z_H := (h.1 + 1, h.2.1 + n, va_up h.2.2 h.1 (some e))
section ZA
variable {p : Program} {l : Launch} {e : Env} {R : Room} {s : State} {m : MethodId} {args : Array Value} {below : List Frame} {meth : Method} {c : Code} {H H1 : Heap} {locs locs1 : List Loc} {cells slots : Nat} {Q : State → Prop}
theorem z_sz {g : JFrame} (k : H.size ≤ s.heap.size + cells → W p l e R s m args below meth c H locs cells slots Q g) : W p l e R s m args below meth c H locs cells slots Q g :=
  fun T hT X => k (hT ▸ X.heapSize) T hT X
variable {G : z_G} {mt : z_M} {d ss0 : Nat} {h : z_H}
theorem z_rf (S : z_St G mt d p s m args meth c R ss0 H locs h) : va_S (fun q => G.b0 ≤ q) H H locs := ⟨Nat.le_refl _, fun _ _ _ => rfl, S.2.2.2.1.1.2.2⟩
theorem z_Sx.go (S : z_Sx G s H locs) (hS : va_S (fun q => G.b0 ≤ q) H H1 locs1) : z_Sx G s H1 locs1 :=
  ⟨⟨Nat.le_trans S.1.1 hS.1, fun q h1 h2 => (hS.2.1 q (Nat.lt_of_lt_of_le h1 S.1.1) h2).trans (S.1.2.1 q h1 h2), hS.2.2⟩, S.2⟩
theorem z_wr (S : z_St G mt d p s m args meth c R ss0 H locs h) {ws : va_W} (hD : va_D (fun q => G.b0 ≤ q) ws) (hcov : ∀ (a : Nat) (e : va_E), h.2.2 a = some e → ∃ k : Nat, ws[k]? = some (a, e)) {k a : Nat} {e0 e : va_E} (hk : ws[k]? = some (a, e0))
    (hP1 : va_P G.D G.cl (ws.set k (a, e)) H1) (hD1 : va_D (fun q => G.b0 ≤ q) (ws.set k (a, e))) (hS1 : va_S (fun q => G.b0 ≤ q) H H1 locs1) (hz : H1.size ≤ s.heap.size + (h.1 - s.heap.size)) : z_St G mt d p s m args meth c R ss0 H1 locs1 (z_set h a e) := by
  obtain ⟨S1, S2, ⟨Ra, -, Rz1, Rz2, Rx, Rb⟩, S4, S5⟩ := S
  have hz1 := hS1.1
  have hz2 := S5.1
  have hl := (List.getElem?_eq_some_iff.mp hk).1
  refine ⟨S1, S2, ⟨by show H1.size = h.1; omega, ⟨ws.set k (a, e), hP1, hD1, fun b x hb => ?_⟩, Rz1.kept (fun q hq => hS1.2.1 q (by have := S4.2; omega) (Nat.not_le.mpr hq)), Rz2.kept (fun q hq => hS1.2.1 q (by have := S4.2; omega) (Nat.not_le.mpr hq)), Rx.kept (hS1.2.1 _ (by have := S4.2; omega) (Nat.not_le.mpr Rb)), Rb⟩, S4.go hS1, S5⟩
  have hb : va_up h.2.2 a (some e) b = some x := hb
  by_cases hba : b = a
  · subst hba
    rw [va_up_self] at hb
    cases hb
    exact ⟨k, List.getElem?_set_self hl⟩
  · rw [va_up_ne _ _ hba] at hb
    obtain ⟨j, hj⟩ := hcov b x hb
    refine ⟨j, ?_⟩
    have hjk : k ≠ j := fun q => hba (by subst q; rw [hk] at hj; cases hj; rfl)
    rw [List.getElem?_set_ne hjk]
    exact hj
theorem z_nw (S : z_St G mt d p s m args meth c R ss0 H locs h) {n : Nat} {e : va_E} (hc : h.1 + 1 ≤ G.b0 + G.cc) (hn : h.2.1 + n ≤ G.ss) (he : va_at G.D G.cl (h.1, e) H1) (hz : H1.size = h.1 + 1) (ho : ∀ q, q < h.1 → H1[q]? = H[q]?) : z_St G mt d p s m args meth c R ss0 H1 locs (z_new h n e) := by
  obtain ⟨S1, S2, ⟨Ra, ⟨ws, hP, hD, hcov⟩, Rz1, Rz2, Rx, Rb⟩, S4, S5⟩ := S
  have hk : ∀ (k : Nat) (x : Nat × va_E), ws[k]? = some x → H1[x.1]? = H[x.1]? := fun k x hx => ho x.1 (by rw [← Ra]; exact (hP k x hx).lt)
  have hb0 : G.b0 ≤ h.1 := Nat.le_trans S4.2 S5.1
  have hS : va_S (fun q => G.b0 ≤ q) H H1 locs := ⟨by omega, fun q h1 _ => ho q (by omega), S4.1.2.2⟩
  refine ⟨S1, S2, ⟨hz, ⟨ws ++ [(h.1, e)], (hP.kept hk).app (fun k x hx => ?_), hD.push hP Ra.symm hb0, fun b x hb => ?_⟩, Rz1.kept (fun q hq => hS.2.1 q (by omega) (Nat.not_le.mpr hq)), Rz2.kept (fun q hq => hS.2.1 q (by omega) (Nat.not_le.mpr hq)), Rx.kept (hS.2.1 _ (by omega) (Nat.not_le.mpr Rb)), Rb⟩, S4.go hS, ?_⟩
  · have hz : k < 1 := (List.getElem?_eq_some_iff.mp hx).1
    rw [show k = 0 by omega] at hx
    cases hx
    exact he
  · have hb : va_up h.2.2 h.1 (some e) b = some x := hb
    by_cases hba : b = h.1
    · subst hba
      rw [va_up_self] at hb
      cases hb
      exact ⟨ws.length, by simp⟩
    · rw [va_up_ne _ _ hba] at hb
      obtain ⟨j, hj⟩ := hcov b x hb
      exact ⟨j, by rw [List.getElem?_append_left (List.getElem?_eq_some_iff.mp hj).1]; exact hj⟩
  · obtain ⟨t1, t2, t3, t4⟩ := S5
    exact ⟨by show s.heap.size ≤ h.1 + 1; omega, by show ss0 ≤ h.2.1 + n; omega, hc, hn⟩
end ZA
/-- a class of the program: its place, name, fields, types -/
def z_cls (G : z_G) (ci : Nat) (C : String) (T : u_T) (N : Nat) (ty : Nat → FieldType) : Prop :=
  G.cl[ci]? = some (C, T, N) ∧ (∀ w ∈ u_ws C T N, w ∈ G.Ts) ∧ (∀ k, k < N → parseFieldDescriptor (T k).2.2.1 = some (ty k)) ∧ (∀ a, a < N → ∀ b, b < N → a ≠ b → (T a).2.1 ≠ (T b).2.1)
/-- a field that a class's pool names at index -/
def z_lnk (G : z_G) (own : String) (index : Nat) (T : u_T) (k : Nat) : Prop :=
  Cond.fieldLink own index (T k).1 (T k).2.1 (T k).2.2.1 ∈ G.Ts ∨ ∃ host : String, Cond.fieldLinkNest own index (T k).1 (T k).2.1 (T k).2.2.1 host ∈ G.Ts
section ZH
variable {G : z_G} {mt : z_M} {d pc : Nat} {lo : List (Nat × Value)} {st : List Value} {h : z_H} {Q : z_R → z_H → Prop}
theorem z_getf {ci N k idx a : Nat} {C : String} {T : u_T} {ty : Nat → FieldType} {fs : List Value} {v : Value} (K : z_cls G ci C T N ty) (hk : k < N) (L : z_lnk G mt.1.cls idx T k) (hd : decode mt.2.1 pc = .ok (.getfield idx, 3)) (he : h.2.2 a = some (.inr (ci, fs))) (hv : fs[k]? = some v)
    (kk : z_V G mt d (pc + 3) lo (v :: st) h Q) : z_V G mt d pc lo (.ref a :: st) h Q := by
  intro p e s m args below meth c R ss0 H locs ls S hl
  obtain ⟨ws, hP, hD, hcov⟩ := S.2.2.1.2.1
  obtain ⟨q0, hq⟩ := hcov a _ he
  have hts := S.1.2.2.2.1
  rcases L with L | ⟨host, L⟩
  · exact va_get S.1.1.1 S.1.1.2.1 hts K.2.1 S.1.2.1.1 S.1.2.2.1 hP q0 hq K.1 k hk (hts _ L) (fun _ z => z) hv hd (kk p e s m args below meth c R ss0 H locs ls S hl)
  · exact va_getN S.1.1.1 S.1.1.2.1 hts K.2.1 S.1.2.1.1 S.1.2.2.1 hP q0 hq K.1 k hk (hts _ L) (fun _ z => z) hv hd (kk p e s m args below meth c R ss0 H locs ls S hl)
theorem z_putf {ci N k idx a : Nat} {C : String} {T : u_T} {ty : Nat → FieldType} {fs : List Value} {v : Value} (K : z_cls G ci C T N ty) (hk : k < N) (L : z_lnk G mt.1.cls idx T k) (hfin : (T k).2.2.2 = false) (hd : decode mt.2.1 pc = .ok (.putfield idx, 3)) (he : h.2.2 a = some (.inr (ci, fs))) (hn : narrow (ty k) v = v) (hf : fits (ty k) v = true) (hl : k < fs.length)
    (kk : z_V G mt d (pc + 3) lo st (z_set h a (.inr (ci, fs.set k v))) Q) : z_V G mt d pc lo (v :: .ref a :: st) h Q := by
  intro p e s m args below meth c R ss0 H locs ls S hls
  obtain ⟨ws, hP, hD, hcov⟩ := S.2.2.1.2.1
  obtain ⟨q0, hq⟩ := hcov a _ he
  have hts := S.1.2.2.2.1
  rcases L with L | ⟨host, L⟩
  · exact va_put S.1.1.1 S.1.1.2.1 hts K.2.1 ty K.2.2.1 K.2.2.2 S.1.2.1.1 S.1.2.2.1 hP hD (z_rf S) q0 hq K.1 k hk (hts _ L) (fun _ z => z) hfin (K.2.2.1 k hk) hn hf hl hd (fun H1 locs1 hP1 hD1 hS1 => z_sz fun hz => kk p e s m args below meth c R ss0 H1 locs1 ls (z_wr S hD hcov hq hP1 hD1 hS1 hz) hls)
  · exact va_putN S.1.1.1 S.1.1.2.1 hts K.2.1 ty K.2.2.1 K.2.2.2 S.1.2.1.1 S.1.2.2.1 hP hD (z_rf S) q0 hq K.1 k hk (hts _ L) (fun _ z => z) hfin (K.2.2.1 k hk) hn hf hl hd (fun H1 locs1 hP1 hD1 hS1 => z_sz fun hz => kk p e s m args below meth c R ss0 H1 locs1 ls (z_wr S hD hcov hq hP1 hD1 hS1 hz) hls)
theorem z_putF {ci N k idx a : Nat} {C : String} {T : u_T} {ty : Nat → FieldType} {fs : List Value} {v : Value} (K : z_cls G ci C T N ty) (hk : k < N) (L : Cond.fieldLink mt.1.cls idx (T k).1 (T k).2.1 (T k).2.2.1 ∈ G.Ts) (hfin : (T k).2.2.2 = true) (hi : mt.1.name = "<init>") (ho : (T k).1 = mt.1.cls) (hd : decode mt.2.1 pc = .ok (.putfield idx, 3)) (he : h.2.2 a = some (.inr (ci, fs))) (hn : narrow (ty k) v = v) (hf : fits (ty k) v = true) (hl : k < fs.length)
    (kk : z_V G mt d (pc + 3) lo st (z_set h a (.inr (ci, fs.set k v))) Q) : z_V G mt d pc lo (v :: .ref a :: st) h Q := by
  intro p e s m args below meth c R ss0 H locs ls S hls
  obtain ⟨ws, hP, hD, hcov⟩ := S.2.2.1.2.1
  obtain ⟨q0, hq⟩ := hcov a _ he
  have hts := S.1.2.2.2.1
  exact va_putF S.1.1.1 S.1.1.2.1 hts K.2.1 ty K.2.2.1 K.2.2.2 S.1.2.1.1 S.1.2.2.1 hP hD (z_rf S) q0 hq K.1 k hk (hts _ L) (fun _ z => z) hfin (S.1.2.1.2.2.1.trans hi) ho (K.2.2.1 k hk) hn hf hl hd (fun H1 locs1 hP1 hD1 hS1 => z_sz fun hz => kk p e s m args below meth c R ss0 H1 locs1 ls (z_wr S hD hcov hq hP1 hD1 hS1 hz) hls)
theorem z_iald {t0 a n : Nat} {cA : ClassId} {f : Nat → Int32} {i : Int32} (hd : decode mt.2.1 pc = .ok (.iaload, 1)) (ht : G.tys[t0]? = some (cA, .int)) (he : h.2.2 a = some (.inl (cA, n, .inl f))) (hin : vp_in i n)
    (kk : z_V G mt d (pc + 1) lo (.int (f i.toNatClampNeg) :: st) h Q) : z_V G mt d pc lo (.int i :: .ref a :: st) h Q := by
  intro p e s m args below meth c R ss0 H locs ls S hl
  obtain ⟨ws, hP, hD, hcov⟩ := S.2.2.1.2.1
  obtain ⟨q0, hq⟩ := hcov a _ he
  exact va_iald S.1.1.1 S.1.1.2.1 S.1.2.2.1 hP q0 t0 hq ht hin hd (kk p e s m args below meth c R ss0 H locs ls S hl)
theorem z_zald {t0 a n : Nat} {cA : ClassId} {f : Nat → Int32} {i : Int32} (hd : decode mt.2.1 pc = .ok (.baload, 1)) (ht : G.tys[t0]? = some (cA, .boolean)) (he : h.2.2 a = some (.inl (cA, n, .inl f))) (hin : vp_in i n)
    (kk : z_V G mt d (pc + 1) lo (.int (f i.toNatClampNeg) :: st) h Q) : z_V G mt d pc lo (.int i :: .ref a :: st) h Q := by
  intro p e s m args below meth c R ss0 H locs ls S hl
  obtain ⟨ws, hP, hD, hcov⟩ := S.2.2.1.2.1
  obtain ⟨q0, hq⟩ := hcov a _ he
  exact va_zald S.1.1.1 S.1.1.2.1 S.1.2.2.1 hP q0 t0 hq ht hin hd (kk p e s m args below meth c R ss0 H locs ls S hl)
theorem z_lald {t0 a n : Nat} {cA : ClassId} {f : Nat → Int64} {i : Int32} (hd : decode mt.2.1 pc = .ok (.laload, 1)) (ht : G.tys[t0]? = some (cA, .long)) (he : h.2.2 a = some (.inl (cA, n, .inr (.inl f)))) (hin : vp_in i n)
    (kk : z_V G mt d (pc + 1) lo (.long (f i.toNatClampNeg) :: st) h Q) : z_V G mt d pc lo (.int i :: .ref a :: st) h Q := by
  intro p e s m args below meth c R ss0 H locs ls S hl
  obtain ⟨ws, hP, hD, hcov⟩ := S.2.2.1.2.1
  obtain ⟨q0, hq⟩ := hcov a _ he
  exact va_lald S.1.1.1 S.1.1.2.1 S.1.2.2.1 hP q0 t0 hq ht hin hd (kk p e s m args below meth c R ss0 H locs ls S hl)
theorem z_aald {t0 a n x : Nat} {cA : ClassId} {C : String} {f : Nat → Option Nat} {i : Int32} (hd : decode mt.2.1 pc = .ok (.aaload, 1)) (ht : G.tys[t0]? = some (cA, .object C)) (he : h.2.2 a = some (.inl (cA, n, .inr (.inr (.inr (.inr f)))))) (hin : vp_in i n) (hx : f i.toNatClampNeg = some x)
    (kk : z_V G mt d (pc + 1) lo (.ref x :: st) h Q) : z_V G mt d pc lo (.int i :: .ref a :: st) h Q := by
  intro p e s m args below meth c R ss0 H locs ls S hl
  obtain ⟨ws, hP, hD, hcov⟩ := S.2.2.1.2.1
  obtain ⟨q0, hq⟩ := hcov a _ he
  refine va_aldq S.1.1.1 S.1.1.2.1 S.1.2.2.1 hP q0 t0 hq ht hin hd ?_
  rw [hx]
  exact kk p e s m args below meth c R ss0 H locs ls S hl
theorem z_alen {t0 a : Nat} {cA : ClassId} {x : vp_A} {ty : FieldType} {v : Int32} (hd : decode mt.2.1 pc = .ok (.arraylength, 1)) (ht : G.tys[t0]? = some (cA, ty)) (he : h.2.2 a = some (.inl (cA, x))) (hv : Int32.ofNat x.1 = v)
    (kk : z_V G mt d (pc + 1) lo (.int v :: st) h Q) : z_V G mt d pc lo (.ref a :: st) h Q := by
  intro p e s m args below meth c R ss0 H locs ls S hl
  obtain ⟨ws, hP, hD, hcov⟩ := S.2.2.1.2.1
  obtain ⟨q0, hq⟩ := hcov a _ he
  exact va_alen S.1.1.1 S.1.1.2.1 S.1.2.2.1 hP q0 t0 hq ht hv hd (kk p e s m args below meth c R ss0 H locs ls S hl)
theorem z_sld {i : Int32} (hd : decode mt.2.1 pc = .ok (.iaload, 1)) (hin : vp_in i G.x.2.1) (kk : z_V G mt d (pc + 1) lo (.int (G.x.2.2 i.toNatClampNeg) :: st) h Q) : z_V G mt d pc lo (.int i :: .ref G.x.1 :: st) h Q := by
  intro p e s m args below meth c R ss0 H locs ls S hl
  obtain ⟨scr, h1, h2, h3, h4, h5⟩ := S.2.2.1.2.2.2.2.1
  have hlt : i.toNatClampNeg < G.x.2.1 := Nat.not_le.mp fun q => hin (Or.inr q)
  exact W.iald (v := .int (G.x.2.2 i.toNatClampNeg)) S.1.1.1 S.1.1.2.1 h1 h2 h3 (by rw [h4]; exact hin) (h5 _ hlt) rfl rfl hd (kk p e s m args below meth c R ss0 H locs ls S hl)
theorem z_slen (hd : decode mt.2.1 pc = .ok (.arraylength, 1)) (kk : z_V G mt d (pc + 1) lo (.int (Int32.ofNat G.x.2.1) :: st) h Q) : z_V G mt d pc lo (.ref G.x.1 :: st) h Q := by
  intro p e s m args below meth c R ss0 H locs ls S hl
  obtain ⟨scr, h1, h2, h3, h4, h5⟩ := S.2.2.1.2.2.2.2.1
  exact W.alen (n := Int32.ofNat G.x.2.1) S.1.1.1 S.1.1.2.1 h1 h2 (by rw [h4] <;> rfl) rfl rfl hd (kk p e s m args below meth c R ss0 H locs ls S hl)
theorem z_iast {t0 a n : Nat} {cA : ClassId} {f : Nat → Int32} {i x : Int32} (hd : decode mt.2.1 pc = .ok (.iastore, 1)) (ht : G.tys[t0]? = some (cA, .int)) (he : h.2.2 a = some (.inl (cA, n, .inl f))) (hin : vp_in i n)
    (kk : z_V G mt d (pc + 1) lo st (z_set h a (.inl (cA, n, .inl (upd f i.toNatClampNeg x)))) Q) : z_V G mt d pc lo (.int x :: .int i :: .ref a :: st) h Q := by
  intro p e s m args below meth c R ss0 H locs ls S hl
  obtain ⟨ws, hP, hD, hcov⟩ := S.2.2.1.2.1
  obtain ⟨q0, hq⟩ := hcov a _ he
  exact va_iast S.1.1.1 S.1.1.2.1 S.1.2.2.1 hP hD (z_rf S) q0 t0 hq ht hin hd (fun H1 locs1 hP1 hD1 hS1 => z_sz fun hz => kk p e s m args below meth c R ss0 H1 locs1 ls (z_wr S hD hcov hq hP1 hD1 hS1 hz) hl)
theorem z_zast {t0 a n : Nat} {cA : ClassId} {f : Nat → Int32} {i x : Int32} (hd : decode mt.2.1 pc = .ok (.bastore, 1)) (ht : G.tys[t0]? = some (cA, .boolean)) (he : h.2.2 a = some (.inl (cA, n, .inl f))) (hin : vp_in i n)
    (kk : z_V G mt d (pc + 1) lo st (z_set h a (.inl (cA, n, .inl (upd f i.toNatClampNeg (vp_nar .boolean x))))) Q) : z_V G mt d pc lo (.int x :: .int i :: .ref a :: st) h Q := by
  intro p e s m args below meth c R ss0 H locs ls S hl
  obtain ⟨ws, hP, hD, hcov⟩ := S.2.2.1.2.1
  obtain ⟨q0, hq⟩ := hcov a _ he
  exact va_zast S.1.1.1 S.1.1.2.1 S.1.2.2.1 hP hD (z_rf S) q0 t0 hq ht hin hd (fun H1 locs1 hP1 hD1 hS1 => z_sz fun hz => kk p e s m args below meth c R ss0 H1 locs1 ls (z_wr S hD hcov hq hP1 hD1 hS1 hz) hl)
theorem z_last {t0 a n : Nat} {cA : ClassId} {f : Nat → Int64} {i : Int32} {x : Int64} (hd : decode mt.2.1 pc = .ok (.lastore, 1)) (ht : G.tys[t0]? = some (cA, .long)) (he : h.2.2 a = some (.inl (cA, n, .inr (.inl f)))) (hin : vp_in i n)
    (kk : z_V G mt d (pc + 1) lo st (z_set h a (.inl (cA, n, .inr (.inl (vp_updL f i.toNatClampNeg x))))) Q) : z_V G mt d pc lo (.long x :: .int i :: .ref a :: st) h Q := by
  intro p e s m args below meth c R ss0 H locs ls S hl
  obtain ⟨ws, hP, hD, hcov⟩ := S.2.2.1.2.1
  obtain ⟨q0, hq⟩ := hcov a _ he
  exact va_last S.1.1.1 S.1.1.2.1 S.1.2.2.1 hP hD (z_rf S) q0 t0 hq ht hin hd (fun H1 locs1 hP1 hD1 hS1 => z_sz fun hz => kk p e s m args below meth c R ss0 H1 locs1 ls (z_wr S hD hcov hq hP1 hD1 hS1 hz) hl)
theorem z_aast {t0 a n x ci N : Nat} {cA : ClassId} {C : String} {T : u_T} {ty : Nat → FieldType} {fs : List Value} {f : Nat → Option Nat} {i : Int32} (K : z_cls G ci C T N ty) (hd : decode mt.2.1 pc = .ok (.aastore, 1)) (ht : G.tys[t0]? = some (cA, .object C)) (he : h.2.2 a = some (.inl (cA, n, .inr (.inr (.inr (.inr f)))))) (hx : h.2.2 x = some (.inr (ci, fs))) (hin : vp_in i n)
    (kk : z_V G mt d (pc + 1) lo st (z_set h a (.inl (cA, n, .inr (.inr (.inr (.inr (va_up f i.toNatClampNeg (some x)))))))) Q) : z_V G mt d pc lo (.ref x :: .int i :: .ref a :: st) h Q := by
  intro p e s m args below meth c R ss0 H locs ls S hl
  obtain ⟨ws, hP, hD, hcov⟩ := S.2.2.1.2.1
  obtain ⟨q0, hq⟩ := hcov a _ he
  obtain ⟨q1, hq1⟩ := hcov x _ hx
  exact va_astq S.1.1.1 S.1.1.2.1 S.1.2.2.1 hP hD (z_rf S) q0 t0 q1 ci (r := (C, T, N)) hq ht hq1 K.1 hin hd (fun H1 locs1 hP1 hD1 hS1 => z_sz fun hz => kk p e s m args below meth c R ss0 H1 locs1 ls (z_wr S hD hcov hq hP1 hD1 hS1 hz) hl)
theorem z_copy {t0 a0 a n0 n1 idx : Nat} {cA : ClassId} {f g : Nat → Int32} {sp dp n : Int32} (hd : decode mt.2.1 pc = .ok (.invokestatic idx, 3)) (ht : G.tys[t0]? = some (cA, .int)) (w1 : Cond.methodLink mt.1.cls idx arraycopyName ∈ G.Ts) (w2 : Cond.native arraycopyName ∈ G.Ts) (w3 : Cond.static arraycopyName ∈ G.Ts) (w4 : Cond.initialized "java/lang/System" ∈ G.Ts)
    (he0 : h.2.2 a0 = some (.inl (cA, n0, .inl f))) (he : h.2.2 a = some (.inl (cA, n1, .inl g))) (h1 : ¬ sp < 0) (h2 : ¬ dp < 0) (h3 : ¬ n < 0) (h4 : sp.toNatClampNeg + n.toNatClampNeg ≤ n0) (h5 : dp.toNatClampNeg + n.toNatClampNeg ≤ n1)
    (hst : (st.map fun v => v.category).sum + (nativeFrameWords "java/lang/System" "arraycopy" 5 + 11) ≤ 150)
    (kk : z_V G mt d (pc + 3) lo st (z_set h a (.inl (cA, n1, .inl (va_cpy f g sp.toNatClampNeg dp.toNatClampNeg n.toNatClampNeg)))) Q) : z_V G mt d pc lo (.int n :: .int dp :: .ref a :: .int sp :: .ref a0 :: st) h Q := by
  intro p e s m args below meth c R ss0 H locs ls S hl
  obtain ⟨ws, hP, hD, hcov⟩ := S.2.2.1.2.1
  obtain ⟨q0, hq0⟩ := hcov a0 _ he0
  obtain ⟨q1, hq⟩ := hcov a _ he
  have hts := S.1.2.2.2.1
  have hR := S.2.1
  exact va_copyi S.1.1.1 S.1.1.2.1 (S.1.1.2.2.1.trans hl.1.symm) S.1.2.1.1 (hts _ w1) (hts _ w2) (hts _ w3) (hts _ w4) S.1.2.2.1 hP hD (z_rf S) q0 q1 t0 t0 hq0 hq ht ht rfl h1 h2 h3 h4 h5 (fun _ _ => rfl) (by omega) (by omega) hd (fun H1 locs1 hP1 hD1 hS1 => z_sz fun hz => kk p e s m args below meth c R ss0 H1 locs1 ls (z_wr S hD hcov hq hP1 hD1 hS1 hz) hl)
theorem z_newo {ci N idx : Nat} {C : String} {T : u_T} {ty : Nat → FieldType} {fs : List Value} (K : z_cls G ci C T N ty) (hd : decode mt.2.1 pc = .ok (.new idx, 3)) (w1 : Cond.classLink mt.1.cls idx C ∈ G.Ts) (w2 : Cond.instantiable C N ∈ G.Ts) (w3 : Cond.initialized C ∈ G.Ts) (hfs : ∀ j, j < N → defaultValue (ty j) = vp_V fs j) (hc : h.1 + 1 ≤ G.b0 + G.cc) (hs : h.2.1 + N ≤ G.ss)
    (kk : z_V G mt d (pc + 3) lo (.ref h.1 :: st) (z_new h N (.inr (ci, fs))) Q) : z_V G mt d pc lo st h Q := by
  intro p e s m args below meth c R ss0 H locs ls S hl
  have hts := S.1.2.2.2.1
  have hR := S.2.1
  have hZ := S.2.2.2.2
  have hKn := S.1.2.2.1.1 ci _ K.1
  refine W.newcK S.1.1.1 S.1.1.2.1 S.1.2.1.1 (hts _ w1) (hts _ w2) (hts _ w3) rfl hd (by omega) (by omega) hKn.2.1 S.2.2.1.1 fun H1 kC hkC e1 z1 o1 => ?_
  refine W.cs (cells' := h.1 + 1 - s.heap.size) (slots' := h.2.1 + N - ss0) (by omega) (by omega) ?_
  exact kk p e s m args below meth c R ss0 H1 locs ls (z_nw S hc hs ⟨_, K.1, (u_born ty hts K.2.1 hKn hkC e1 K.2.2.1).to hfs⟩ z1 o1) hl
theorem z_newa {t0 N' : Nat} {cA : ClassId} {atype : ArrayType} {ty : FieldType} {n : Int32} {a0 : vp_A} (hd : decode mt.2.1 pc = .ok (.newarray atype, 2)) (hty : newarray.typeOf atype = ty) (w1 : Cond.arrayClass ty ∈ G.Ts) (ht : G.tys[t0]? = some (cA, ty)) (hra : ∀ (U : State) (x : ClassId), va_RA U x ty → U.vm.findClass ("[" ++ ty.toString) = some x) (ha : ∀ x : ClassId, vp_cell x a0 = arrV x N' (fun _ => defaultValue ty)) (hn : ¬ n < 0) (hN : n.toNatClampNeg = N') (hby : N' * componentBytes ty ≤ 536870912) (hc : h.1 + 1 ≤ G.b0 + G.cc) (hs : h.2.1 + N' ≤ G.ss)
    (kk : z_V G mt d (pc + 2) lo (.ref h.1 :: st) (z_new h N' (.inl (cA, a0))) Q) : z_V G mt d pc lo (.int n :: st) h Q := by
  subst hty
  intro p e s m args below meth c R ss0 H locs ls S hl
  have hts := S.1.2.2.2.1
  have hR := S.2.1
  have hZ := S.2.2.2.2
  refine va_newaK S.1.1.1 S.1.1.2.1 (hts _ w1) rfl hd rfl hn hN hby (by omega) (by omega) S.2.2.1.1 fun H1 x e1 z1 o1 hAr hNm => ?_
  have hx : x = cA := Option.some.inj (hNm.symm.trans (hra s cA (S.1.2.2.1.2 t0 _ ht).2))
  subst hx
  refine W.cs (cells' := h.1 + 1 - s.heap.size) (slots' := h.2.1 + N' - ss0) (by omega) (by omega) ?_
  exact kk p e s m args below meth c R ss0 H1 locs ls (z_nw S hc hs (by show H1[h.1]? = some (vp_cell _ _); rw [ha]; exact e1) z1 o1) hl
theorem z_anew {t0 N' idx : Nat} {cA : ClassId} {C : String} {n : Int32} (hd : decode mt.2.1 pc = .ok (.anewarray idx, 3)) (w1 : Cond.classLink mt.1.cls idx C ∈ G.Ts) (w2 : Cond.arrayOver (.object C) ∈ G.Ts) (ht : G.tys[t0]? = some (cA, .object C)) (hn : ¬ n < 0) (hN : n.toNatClampNeg = N') (hby : N' * 4 ≤ 536870912) (hc : h.1 + 1 ≤ G.b0 + G.cc) (hs : h.2.1 + N' ≤ G.ss)
    (kk : z_V G mt d (pc + 3) lo (.ref h.1 :: st) (z_new h N' (.inl (cA, N', .inr (.inr (.inr (.inr (fun _ => none))))))) Q) : z_V G mt d pc lo (.int n :: st) h Q := by
  subst hN
  intro p e s m args below meth c R ss0 H locs ls S hl
  have hts := S.1.2.2.2.1
  have hR := S.2.1
  have hZ := S.2.2.2.2
  have hz0 : H.size = h.1 := S.2.2.1.1
  refine W.anew S.1.1.1 S.1.1.2.1 S.1.2.1.1 (hts _ w1) (hts _ w2) rfl hd rfl hn hby (by omega) (by omega) fun x kA comp f1 f2 f3 f4 => ?_
  obtain ⟨-, -, -, -, -, f5⟩ := (S.1.2.2.1.2 t0 _ ht).2
  have hx : x = cA := Option.some.inj (f1.symm.trans f5)
  subst hx
  generalize hH1 : H.push ({ cls := x, slots := Array.replicate n.toNatClampNeg .null, vm := .none } : Cell) = H1
  have z1 : H1.size = h.1 + 1 := by rw [← hH1, Array.size_push, hz0]
  have e1 : H1[h.1]? = some (arrV x n.toNatClampNeg (fun _ => .null)) := by rw [← hH1, ← hz0, Array.getElem?_push_size, ← arrV_new]
  have o1 : ∀ q : Nat, q < h.1 → H1[q]? = H[q]? := fun q hq => by rw [← hH1, Array.getElem?_push, if_neg (by omega)]
  rw [hz0]
  refine W.cs (cells' := h.1 + 1 - s.heap.size) (slots' := h.2.1 + n.toNatClampNeg - ss0) (by omega) (by omega) ?_
  exact kk p e s m args below meth c R ss0 H1 locs ls (z_nw S hc hs (by show H1[h.1]? = some (vp_cell _ _); rw [vp_cell_q]; exact e1) z1 o1) hl
theorem z_oinit {a idx : Nat} (hd : decode mt.2.1 pc = .ok (.invokespecial idx, 3)) (w1 : Cond.methodLink mt.1.cls idx Lib.objectInit ∈ G.Ts) (w2 : Cond.instanceMethod Lib.objectInit ∈ G.Ts) (w3 : Cond.code Lib.objectInit ⟨#[0xb1]⟩ 1 none ∈ G.Ts) (hst : (st.map fun v => v.category).sum ≤ 8)
    (kk : z_V G mt d (pc + 3) lo st h Q) : z_V G mt d pc lo (.ref a :: st) h Q := by
  intro p e s m args below meth c R ss0 H locs ls S hl
  have hts := S.1.2.2.2.1
  have hR := S.2.1
  exact W.objInit S.1.1.1 S.1.1.2.1 S.1.2.1.1 (hts _ w1) (hts _ w2) (hts _ w3) rfl (hl.1.trans S.1.1.2.2.1.symm) rfl hd (by omega) (by show 2 * 0 + _ + 12 ≤ _; omega) (kk p e s m args below meth c R ss0 H locs ls S hl)
end ZH
