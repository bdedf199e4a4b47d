/-! both ends of a call that may find a row too long; frames -/
def z_AE : String := "java/lang/ArithmeticException"
def z_eq2 (c : Prop) (v : Option Value) (P X : z_H → Prop) : z_R → z_H → Prop := fun r h' => (c ∧ r = .inl v ∧ P h') ∨ (¬ c ∧ r = .inr z_AE ∧ X h')
theorem z_eq2.ok {c : Prop} {v : Option Value} {P X : z_H → Prop} (hc : c) {h : z_H} (hP : P h) : z_eq2 c v P X (.inl v) h := Or.inl ⟨hc, rfl, hP⟩
theorem z_eq2.no {c : Prop} {v : Option Value} {P X : z_H → Prop} (hc : ¬ c) {h : z_H} (hX : X h) : z_eq2 c v P X (.inr z_AE) h := Or.inr ⟨hc, rfl, hX⟩
theorem z_C.eq2 {G : z_G} {mt : z_M} {d : Nat} {as : List Value} {h : z_H} {c : Prop} {v : Option Value} {P X : z_H → Prop} (k1 : c → z_C G mt d as h (z_pq v P)) (k2 : ¬ c → z_C G mt d as h (z_xq z_AE X)) : z_C G mt d as h (z_eq2 c v P X) := by
  by_cases hc : c
  · exact (k1 hc).mono (fun r h' q => Or.inl ⟨hc, q⟩)
  · exact (k2 hc).mono (fun r h' q => Or.inr ⟨hc, q⟩)
theorem z_C.pq {G : z_G} {mt : z_M} {d : Nat} {as : List Value} {h h1 : z_H} {v : Option Value} (k : z_C G mt d as h (z_rq v h1)) : z_C G mt d as h (z_pq v (fun h' => h' = h1)) := k
section ZE
variable {G : z_G} {mt mtY : z_M} {d dY pc : Nat} {lo : List (Nat × Value)} {st : List Value} {h : z_H} {Q QY : z_R → z_H → Prop} {as : List Value}
theorem z_callV0e {b ci N idx : Nat} {T : u_T} {fs : List Value} (hd : decode mt.2.1 pc = .ok (.invokevirtual idx, 3)) (hh : mt.2.2.2.2 = []) (hdp : dY + 1 ≤ d) (Y : z_Yv G mt.1.cls idx mtY 0) (hb : h.2.2 b = some (.inr (ci, fs))) (hcl : G.cl[ci]? = some (mtY.1.cls, T, N)) (hst : (st.map fun v => v.category).sum ≤ 8) {c : Prop} {P X : z_H → Prop} (hM : z_C G mtY dY [.ref b] h (z_eq2 c none P X)) (kk : c → ∀ h', P h' → z_V G mt d (pc + 3) lo st h' Q) (kx : ¬ c → ∀ h', X h' → Q (.inr z_AE) h') : z_V G mt d pc lo (.ref b :: st) h Q :=
  z_callV (as := []) hd hh hdp Y rfl hb hcl hst hM (fun v h' q => by
    rcases q with ⟨q1, q2, q3⟩ | ⟨-, q2, -⟩
    · cases q2
      exact kk q1 h' q3
    · cases q2) (fun X h' q => by
    rcases q with ⟨-, q2, -⟩ | ⟨q1, q2, q3⟩
    · cases q2
    · cases q2
      exact kx q1 h' q3)
theorem z_callV0f {b ci N idx : Nat} {T : u_T} {fs : List Value} (hd : decode mt.2.1 pc = .ok (.invokevirtual idx, 3)) (hh : mt.2.2.2.2 = []) (hdp : dY + 1 ≤ d) (Y : z_Yv G mt.1.cls idx mtY 0) (hb : h.2.2 b = some (.inr (ci, fs))) (hcl : G.cl[ci]? = some (mtY.1.cls, T, N)) (hst : (st.map fun v => v.category).sum ≤ 8) {c : Prop} {x : Value} {P X : z_H → Prop} (hM : z_C G mtY dY [.ref b] h (z_eq2 c (some x) P X)) (kk : c → ∀ h', P h' → z_V G mt d (pc + 3) lo (x :: st) h' Q) (kx : ¬ c → ∀ h', X h' → Q (.inr z_AE) h') : z_V G mt d pc lo (.ref b :: st) h Q :=
  z_callV (as := []) hd hh hdp Y rfl hb hcl hst hM (fun v h' q => by
    rcases q with ⟨q1, q2, q3⟩ | ⟨-, q2, -⟩
    · cases q2
      exact kk q1 h' q3
    · cases q2) (fun X h' q => by
    rcases q with ⟨-, q2, -⟩ | ⟨q1, q2, q3⟩
    · cases q2
    · cases q2
      exact kx q1 h' q3)
theorem z_callV1e {x1 : Value} {b ci N idx : Nat} {T : u_T} {fs : List Value} (hd : decode mt.2.1 pc = .ok (.invokevirtual idx, 3)) (hh : mt.2.2.2.2 = []) (hdp : dY + 1 ≤ d) (Y : z_Yv G mt.1.cls idx mtY 1) (hb : h.2.2 b = some (.inr (ci, fs))) (hcl : G.cl[ci]? = some (mtY.1.cls, T, N)) (hst : (st.map fun v => v.category).sum ≤ 8) {c : Prop} {P X : z_H → Prop} (hM : z_C G mtY dY [.ref b, x1] h (z_eq2 c none P X)) (kk : c → ∀ h', P h' → z_V G mt d (pc + 3) lo st h' Q) (kx : ¬ c → ∀ h', X h' → Q (.inr z_AE) h') : z_V G mt d pc lo (x1 :: .ref b :: st) h Q :=
  z_callV (as := [x1]) hd hh hdp Y rfl hb hcl hst hM (fun v h' q => by
    rcases q with ⟨q1, q2, q3⟩ | ⟨-, q2, -⟩
    · cases q2
      exact kk q1 h' q3
    · cases q2) (fun X h' q => by
    rcases q with ⟨-, q2, -⟩ | ⟨q1, q2, q3⟩
    · cases q2
    · cases q2
      exact kx q1 h' q3)
theorem z_callV1f {x1 : Value} {b ci N idx : Nat} {T : u_T} {fs : List Value} (hd : decode mt.2.1 pc = .ok (.invokevirtual idx, 3)) (hh : mt.2.2.2.2 = []) (hdp : dY + 1 ≤ d) (Y : z_Yv G mt.1.cls idx mtY 1) (hb : h.2.2 b = some (.inr (ci, fs))) (hcl : G.cl[ci]? = some (mtY.1.cls, T, N)) (hst : (st.map fun v => v.category).sum ≤ 8) {c : Prop} {x : Value} {P X : z_H → Prop} (hM : z_C G mtY dY [.ref b, x1] h (z_eq2 c (some x) P X)) (kk : c → ∀ h', P h' → z_V G mt d (pc + 3) lo (x :: st) h' Q) (kx : ¬ c → ∀ h', X h' → Q (.inr z_AE) h') : z_V G mt d pc lo (x1 :: .ref b :: st) h Q :=
  z_callV (as := [x1]) hd hh hdp Y rfl hb hcl hst hM (fun v h' q => by
    rcases q with ⟨q1, q2, q3⟩ | ⟨-, q2, -⟩
    · cases q2
      exact kk q1 h' q3
    · cases q2) (fun X h' q => by
    rcases q with ⟨-, q2, -⟩ | ⟨q1, q2, q3⟩
    · cases q2
    · cases q2
      exact kx q1 h' q3)
theorem z_callV2e {x1 x2 : Value} {b ci N idx : Nat} {T : u_T} {fs : List Value} (hd : decode mt.2.1 pc = .ok (.invokevirtual idx, 3)) (hh : mt.2.2.2.2 = []) (hdp : dY + 1 ≤ d) (Y : z_Yv G mt.1.cls idx mtY 2) (hb : h.2.2 b = some (.inr (ci, fs))) (hcl : G.cl[ci]? = some (mtY.1.cls, T, N)) (hst : (st.map fun v => v.category).sum ≤ 8) {c : Prop} {P X : z_H → Prop} (hM : z_C G mtY dY [.ref b, x1, x2] h (z_eq2 c none P X)) (kk : c → ∀ h', P h' → z_V G mt d (pc + 3) lo st h' Q) (kx : ¬ c → ∀ h', X h' → Q (.inr z_AE) h') : z_V G mt d pc lo (x2 :: x1 :: .ref b :: st) h Q :=
  z_callV (as := [x1, x2]) hd hh hdp Y rfl hb hcl hst hM (fun v h' q => by
    rcases q with ⟨q1, q2, q3⟩ | ⟨-, q2, -⟩
    · cases q2
      exact kk q1 h' q3
    · cases q2) (fun X h' q => by
    rcases q with ⟨-, q2, -⟩ | ⟨q1, q2, q3⟩
    · cases q2
    · cases q2
      exact kx q1 h' q3)
theorem z_callV2f {x1 x2 : Value} {b ci N idx : Nat} {T : u_T} {fs : List Value} (hd : decode mt.2.1 pc = .ok (.invokevirtual idx, 3)) (hh : mt.2.2.2.2 = []) (hdp : dY + 1 ≤ d) (Y : z_Yv G mt.1.cls idx mtY 2) (hb : h.2.2 b = some (.inr (ci, fs))) (hcl : G.cl[ci]? = some (mtY.1.cls, T, N)) (hst : (st.map fun v => v.category).sum ≤ 8) {c : Prop} {x : Value} {P X : z_H → Prop} (hM : z_C G mtY dY [.ref b, x1, x2] h (z_eq2 c (some x) P X)) (kk : c → ∀ h', P h' → z_V G mt d (pc + 3) lo (x :: st) h' Q) (kx : ¬ c → ∀ h', X h' → Q (.inr z_AE) h') : z_V G mt d pc lo (x2 :: x1 :: .ref b :: st) h Q :=
  z_callV (as := [x1, x2]) hd hh hdp Y rfl hb hcl hst hM (fun v h' q => by
    rcases q with ⟨q1, q2, q3⟩ | ⟨-, q2, -⟩
    · cases q2
      exact kk q1 h' q3
    · cases q2) (fun X h' q => by
    rcases q with ⟨-, q2, -⟩ | ⟨q1, q2, q3⟩
    · cases q2
    · cases q2
      exact kx q1 h' q3)
theorem z_callV3e {x1 x2 x3 : Value} {b ci N idx : Nat} {T : u_T} {fs : List Value} (hd : decode mt.2.1 pc = .ok (.invokevirtual idx, 3)) (hh : mt.2.2.2.2 = []) (hdp : dY + 1 ≤ d) (Y : z_Yv G mt.1.cls idx mtY 3) (hb : h.2.2 b = some (.inr (ci, fs))) (hcl : G.cl[ci]? = some (mtY.1.cls, T, N)) (hst : (st.map fun v => v.category).sum ≤ 8) {c : Prop} {P X : z_H → Prop} (hM : z_C G mtY dY [.ref b, x1, x2, x3] h (z_eq2 c none P X)) (kk : c → ∀ h', P h' → z_V G mt d (pc + 3) lo st h' Q) (kx : ¬ c → ∀ h', X h' → Q (.inr z_AE) h') : z_V G mt d pc lo (x3 :: x2 :: x1 :: .ref b :: st) h Q :=
  z_callV (as := [x1, x2, x3]) hd hh hdp Y rfl hb hcl hst hM (fun v h' q => by
    rcases q with ⟨q1, q2, q3⟩ | ⟨-, q2, -⟩
    · cases q2
      exact kk q1 h' q3
    · cases q2) (fun X h' q => by
    rcases q with ⟨-, q2, -⟩ | ⟨q1, q2, q3⟩
    · cases q2
    · cases q2
      exact kx q1 h' q3)
theorem z_callV3f {x1 x2 x3 : Value} {b ci N idx : Nat} {T : u_T} {fs : List Value} (hd : decode mt.2.1 pc = .ok (.invokevirtual idx, 3)) (hh : mt.2.2.2.2 = []) (hdp : dY + 1 ≤ d) (Y : z_Yv G mt.1.cls idx mtY 3) (hb : h.2.2 b = some (.inr (ci, fs))) (hcl : G.cl[ci]? = some (mtY.1.cls, T, N)) (hst : (st.map fun v => v.category).sum ≤ 8) {c : Prop} {x : Value} {P X : z_H → Prop} (hM : z_C G mtY dY [.ref b, x1, x2, x3] h (z_eq2 c (some x) P X)) (kk : c → ∀ h', P h' → z_V G mt d (pc + 3) lo (x :: st) h' Q) (kx : ¬ c → ∀ h', X h' → Q (.inr z_AE) h') : z_V G mt d pc lo (x3 :: x2 :: x1 :: .ref b :: st) h Q :=
  z_callV (as := [x1, x2, x3]) hd hh hdp Y rfl hb hcl hst hM (fun v h' q => by
    rcases q with ⟨q1, q2, q3⟩ | ⟨-, q2, -⟩
    · cases q2
      exact kk q1 h' q3
    · cases q2) (fun X h' q => by
    rcases q with ⟨-, q2, -⟩ | ⟨q1, q2, q3⟩
    · cases q2
    · cases q2
      exact kx q1 h' q3)
theorem z_callV4e {x1 x2 x3 x4 : Value} {b ci N idx : Nat} {T : u_T} {fs : List Value} (hd : decode mt.2.1 pc = .ok (.invokevirtual idx, 3)) (hh : mt.2.2.2.2 = []) (hdp : dY + 1 ≤ d) (Y : z_Yv G mt.1.cls idx mtY 4) (hb : h.2.2 b = some (.inr (ci, fs))) (hcl : G.cl[ci]? = some (mtY.1.cls, T, N)) (hst : (st.map fun v => v.category).sum ≤ 8) {c : Prop} {P X : z_H → Prop} (hM : z_C G mtY dY [.ref b, x1, x2, x3, x4] h (z_eq2 c none P X)) (kk : c → ∀ h', P h' → z_V G mt d (pc + 3) lo st h' Q) (kx : ¬ c → ∀ h', X h' → Q (.inr z_AE) h') : z_V G mt d pc lo (x4 :: x3 :: x2 :: x1 :: .ref b :: st) h Q :=
  z_callV (as := [x1, x2, x3, x4]) hd hh hdp Y rfl hb hcl hst hM (fun v h' q => by
    rcases q with ⟨q1, q2, q3⟩ | ⟨-, q2, -⟩
    · cases q2
      exact kk q1 h' q3
    · cases q2) (fun X h' q => by
    rcases q with ⟨-, q2, -⟩ | ⟨q1, q2, q3⟩
    · cases q2
    · cases q2
      exact kx q1 h' q3)
theorem z_callV4f {x1 x2 x3 x4 : Value} {b ci N idx : Nat} {T : u_T} {fs : List Value} (hd : decode mt.2.1 pc = .ok (.invokevirtual idx, 3)) (hh : mt.2.2.2.2 = []) (hdp : dY + 1 ≤ d) (Y : z_Yv G mt.1.cls idx mtY 4) (hb : h.2.2 b = some (.inr (ci, fs))) (hcl : G.cl[ci]? = some (mtY.1.cls, T, N)) (hst : (st.map fun v => v.category).sum ≤ 8) {c : Prop} {x : Value} {P X : z_H → Prop} (hM : z_C G mtY dY [.ref b, x1, x2, x3, x4] h (z_eq2 c (some x) P X)) (kk : c → ∀ h', P h' → z_V G mt d (pc + 3) lo (x :: st) h' Q) (kx : ¬ c → ∀ h', X h' → Q (.inr z_AE) h') : z_V G mt d pc lo (x4 :: x3 :: x2 :: x1 :: .ref b :: st) h Q :=
  z_callV (as := [x1, x2, x3, x4]) hd hh hdp Y rfl hb hcl hst hM (fun v h' q => by
    rcases q with ⟨q1, q2, q3⟩ | ⟨-, q2, -⟩
    · cases q2
      exact kk q1 h' q3
    · cases q2) (fun X h' q => by
    rcases q with ⟨-, q2, -⟩ | ⟨q1, q2, q3⟩
    · cases q2
    · cases q2
      exact kx q1 h' q3)
theorem z_callV5e {x1 x2 x3 x4 x5 : Value} {b ci N idx : Nat} {T : u_T} {fs : List Value} (hd : decode mt.2.1 pc = .ok (.invokevirtual idx, 3)) (hh : mt.2.2.2.2 = []) (hdp : dY + 1 ≤ d) (Y : z_Yv G mt.1.cls idx mtY 5) (hb : h.2.2 b = some (.inr (ci, fs))) (hcl : G.cl[ci]? = some (mtY.1.cls, T, N)) (hst : (st.map fun v => v.category).sum ≤ 8) {c : Prop} {P X : z_H → Prop} (hM : z_C G mtY dY [.ref b, x1, x2, x3, x4, x5] h (z_eq2 c none P X)) (kk : c → ∀ h', P h' → z_V G mt d (pc + 3) lo st h' Q) (kx : ¬ c → ∀ h', X h' → Q (.inr z_AE) h') : z_V G mt d pc lo (x5 :: x4 :: x3 :: x2 :: x1 :: .ref b :: st) h Q :=
  z_callV (as := [x1, x2, x3, x4, x5]) hd hh hdp Y rfl hb hcl hst hM (fun v h' q => by
    rcases q with ⟨q1, q2, q3⟩ | ⟨-, q2, -⟩
    · cases q2
      exact kk q1 h' q3
    · cases q2) (fun X h' q => by
    rcases q with ⟨-, q2, -⟩ | ⟨q1, q2, q3⟩
    · cases q2
    · cases q2
      exact kx q1 h' q3)
theorem z_callV5f {x1 x2 x3 x4 x5 : Value} {b ci N idx : Nat} {T : u_T} {fs : List Value} (hd : decode mt.2.1 pc = .ok (.invokevirtual idx, 3)) (hh : mt.2.2.2.2 = []) (hdp : dY + 1 ≤ d) (Y : z_Yv G mt.1.cls idx mtY 5) (hb : h.2.2 b = some (.inr (ci, fs))) (hcl : G.cl[ci]? = some (mtY.1.cls, T, N)) (hst : (st.map fun v => v.category).sum ≤ 8) {c : Prop} {x : Value} {P X : z_H → Prop} (hM : z_C G mtY dY [.ref b, x1, x2, x3, x4, x5] h (z_eq2 c (some x) P X)) (kk : c → ∀ h', P h' → z_V G mt d (pc + 3) lo (x :: st) h' Q) (kx : ¬ c → ∀ h', X h' → Q (.inr z_AE) h') : z_V G mt d pc lo (x5 :: x4 :: x3 :: x2 :: x1 :: .ref b :: st) h Q :=
  z_callV (as := [x1, x2, x3, x4, x5]) hd hh hdp Y rfl hb hcl hst hM (fun v h' q => by
    rcases q with ⟨q1, q2, q3⟩ | ⟨-, q2, -⟩
    · cases q2
      exact kk q1 h' q3
    · cases q2) (fun X h' q => by
    rcases q with ⟨-, q2, -⟩ | ⟨q1, q2, q3⟩
    · cases q2
    · cases q2
      exact kx q1 h' q3)
end ZE
/-- beside the row r and the Rewriter's two walks nothing has changed -/
def k_fr (q r : Nat) (h h' : z_H) : Prop := h'.1 = h.1 ∧ h'.2.1 = h.2.1 ∧ ∀ a : Nat, a < q + 7 ∨ q + 10 < a → a ≠ r → a ≠ r + 1 → h'.2.2 a = h.2.2 a
def k_sc (G : z_G) (q : Nat) (h : z_H) : Prop := (∃ n g, wkAt G h (q + 7) n g) ∧ ∃ n g, wkAt G h (q + 9) n g
def k_xc (G : z_G) (q r : Nat) (h h' : z_H) : Prop := ∃ h1, h' = z_exc h1 ∧ k_fr q r h h1 ∧ k_sc G q h1 ∧ ∃ f, rowAt G h1 r 40 f
theorem k_fr.rf {q r : Nat} {h : z_H} : k_fr q r h h := ⟨rfl, rfl, fun _ _ _ _ => rfl⟩
theorem k_fr.tr {q r : Nat} {h h1 h2 : z_H} (a : k_fr q r h h1) (b : k_fr q r h1 h2) : k_fr q r h h2 := ⟨b.1.trans a.1, b.2.1.trans a.2.1, fun x h1 h2 h3 => (b.2.2 x h1 h2 h3).trans (a.2.2 x h1 h2 h3)⟩
theorem k_fr.rm {G : z_G} {q r : Nat} {h h1 : z_H} (a : k_fr q r h h1) (H : z_rm G h) : z_rm G h1 := by
  unfold z_rm
  rw [a.1, a.2.1]
  exact H
theorem k_fr.rset {G : z_G} {q r n : Nat} {f : Nat → Int32} {h : z_H} : k_fr q r h (rset G h r n f) := ⟨rfl, rfl, fun a _ h2 h3 => rset_ne G h n f h2 h3⟩
theorem k_fr.wset {G : z_G} {q r w n : Nat} {g : Nat → Int32} {h : z_H} (hw : w = q + 7 ∨ w = q + 9) : k_fr q r h (wset G h w n g) := ⟨rfl, rfl, fun a h1 h2 h3 => wset_ne G h n g (by omega) (by omega)⟩
theorem k_fr.rw {q r rc a b : Nat} {h h1 : z_H} (k : k_fr q r h h1) (rr : k_rr q r) (H : h.2.2 q = some (k_rw q rc a b)) : h1.2.2 q = some (k_rw q rc a b) := by
  unfold k_rr at rr
  exact (k.2.2 q (by omega) (by omega) (by omega)).trans H
theorem k_fr.row {G : z_G} {q r s n : Nat} {f : Nat → Int32} {h h1 : z_H} (k : k_fr q r h h1) (rs : k_rr q s) (e : k_ne s r) (H : rowAt G h s n f) : rowAt G h1 s n f := by
  unfold k_rr at rs
  obtain ⟨e1, e2, e3⟩ := e
  exact ⟨(k.2.2 s (by omega) (by omega) (by omega)).trans H.1, (k.2.2 (s + 1) (by omega) (by omega) (by omega)).trans H.2⟩
theorem k_sc.rset {G : z_G} {q r n : Nat} {f : Nat → Int32} {h : z_H} (rr : k_rr q r) (H : k_sc G q h) : k_sc G q (rset G h r n f) := by
  unfold k_rr at rr
  obtain ⟨⟨n1, g1, h1⟩, n2, g2, h2⟩ := H
  exact ⟨⟨n1, g1, rset_wk _ _ h1 (by omega) (by omega) (by omega)⟩, n2, g2, rset_wk _ _ h2 (by omega) (by omega) (by omega)⟩
theorem wset_wk {G : z_G} {h : z_H} {w w' n n' : Nat} {g g' : Nat → Int32} (H : wkAt G h w' n' g') (h1 : w' ≠ w) (h2 : w' ≠ w + 1) (h3 : w' + 1 ≠ w) : wkAt G (wset G h w n g) w' n' g' :=
  ⟨(wset_ne G h n g h1 h2).trans H.1, (wset_ne G h n g h3 (by omega)).trans H.2⟩
theorem k_sc.w7 {G : z_G} {q n : Nat} {g : Nat → Int32} {h : z_H} (H : k_sc G q h) : k_sc G q (wset G h (q + 7) n g) := by
  obtain ⟨-, n2, g2, h2⟩ := H
  exact ⟨⟨n, g, wset_at ..⟩, n2, g2, wset_wk h2 (by omega) (by omega) (by omega)⟩
theorem k_sc.w9 {G : z_G} {q n : Nat} {g : Nat → Int32} {h : z_H} (H : k_sc G q h) : k_sc G q (wset G h (q + 9) n g) := by
  obtain ⟨⟨n1, g1, h1⟩, -⟩ := H
  exact ⟨⟨n1, g1, wset_wk h1 (by omega) (by omega) (by omega)⟩, n, g, wset_at ..⟩
theorem k_xc.tr {G : z_G} {q r : Nat} {h h1 h2 : z_H} (a : k_fr q r h h1) (b : k_xc G q r h1 h2) : k_xc G q r h h2 := by
  obtain ⟨h3, e, b1, b2⟩ := b
  exact ⟨h3, e, a.tr b1, b2⟩
section ZF
variable {G : z_G} {h : z_H} {d q rc na nb s r n : Nat} {f fs : Nat → Int32} {ls : List Nat}
theorem c2_append (HG : z_ok G) (hrm : z_rm G h) (hr : rowAt G h r n f) (hn : n ≤ 40) (v : Int32) : z_C G m_Row_append d [.ref r, .int v] h (z_eq2 (n + 1 ≤ 40) none (fun h' => h' = rset G h r (n + 1) (upd f n v)) (fun h' => h' = z_exc h ∧ n = 40)) :=
  z_C.eq2 (fun hc => (c_Row_append HG hr (by omega) v).pq) (fun hc => by
    have h40 : n = 40 := by omega
    subst h40
    exact (c_Row_appendX HG hr hrm v).mono (fun r h' q => ⟨q.1, q.2, rfl⟩))
theorem c2_appendPart (HG : z_ok G) {a b : Nat} (hrm : z_rm G h) (hr : rowAt G h r n f) (hn : n ≤ 40) (hs : rowAt G h s ls.length fs) (hls : rl fs ls) (ha : a ≤ b) (hb : b ≤ ls.length) (e : k_ne s r) :
    z_C G m_Row_appendPart (d + 1) [.ref r, .ref s, .int (nI a), .int (nI b)] h (z_eq2 (n + (b - a) ≤ 40) none (fun h' => h' = rset G h r (n + (b - a)) (k_app f n ((ls.drop a).take (b - a)))) (fun h' => ∃ f', h' = z_exc (rset G h r 40 f'))) :=
  z_C.eq2 (fun hc => (c_Row_appendPart HG hr hs hls ha hb e.1 e.2.1 e.2.2 hc).pq) (fun hc => c_Row_appendPartX HG hrm hr hs hls ha hb e.1 e.2.1 e.2.2 hn (by omega))
theorem c2_lift (HG : z_ok G) {k a : Nat} (hrm : z_rm G h) (hk : k < 1000) (hls : rl fs ls) (rr : k_rr q r) (rs : k_rr q s) (e : k_ne s r) (ha : a ≤ ls.length)
    (hq : h.2.2 q = some (k_rw q rc na nb)) (hsc : k_sc G q h) (hs : rowAt G h s ls.length fs) (hr : rowAt G h r n f) (hn : n ≤ 40) :
    z_C G m_Rw_appendLifted (d + 1) [.ref q, .ref s, .int (nI a), .int (nI k), .ref r] h (z_eq2 (n + (p_lift k [0] (ls.drop a)).length ≤ 40) none (fun h' => (∃ n' g', h' = rset G (wset G h (q + 9) n' g') r (n + (p_lift k [0] (ls.drop a)).length) (k_app f n (p_lift k [0] (ls.drop a))))) (k_xc G q r h)) := by
  obtain ⟨n9, g9, hw⟩ := hsc.2
  refine z_C.eq2 (fun hc => (c_Rw_appendLifted HG hk hls rr rs e ha hq hw hs hr hc).mono (fun r' h' q' => ?_)) (fun hc => (c_Rw_appendLiftedX HG hrm hk hls rr rs e ha hq hw hs hr hn (by omega)).mono (fun r' h' q' => ?_))
  · obtain ⟨q1, n', g', -, q2⟩ := q'
    exact ⟨q1, n', g', q2⟩
  · obtain ⟨q1, n', g', f', -, q2⟩ := q'
    exact ⟨q1, _, q2, (k_fr.wset (Or.inr rfl)).tr k_fr.rset, (hsc.w9).rset rr, f', rset_at ..⟩
end ZF
