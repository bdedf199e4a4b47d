/-! new rows and walks -/
section MK
variable {G : z_G} {mt : z_M} {d pc : Nat} {lo : List (Nat × Value)} {st : List Value} {h : z_H} {Q : z_R → z_H → Prop}
theorem z_mkRow (HG : z_ok G) {i1 i2 : Nat} (hd0 : decode mt.2.1 pc = .ok (.new i1, 3)) (hd3 : decode mt.2.1 (pc + 3) = .ok (.dup, 1)) (hd4 : decode mt.2.1 (pc + 4) = .ok (.invokespecial i2, 3)) (hh : mt.2.2.2.2 = []) (w : Cond.classLink mt.1.cls i1 R_Row ∈ G.Ts) (Y : z_Yi G mt.1.cls i2 m_Row_init) (hst : ((.ref h.1 :: st).map fun v => v.category).sum ≤ 8) (hc : h.1 + 2 ≤ G.b0 + G.cc) (hs : h.2.1 + 42 ≤ G.ss)
    (kk : ∀ h', h'.1 = h.1 + 2 → h'.2.1 = h.2.1 + 42 → rowAt G h' h.1 0 (fun _ => nI 0) → (∀ y, y ≠ h.1 → y ≠ h.1 + 1 → h'.2.2 y = h.2.2 y) → z_V G mt (d + 1) (pc + 7) lo (.ref h.1 :: st) h' Q) : z_V G mt (d + 1) pc lo st h Q := by
  refine z_newo (fs := [.null, .int 0]) (K_Row HG) hd0 w (w_i_Row HG) (w_n_Row HG) (by decide) (by omega) (by omega) ?_
  have g0 : (z_new h 2 k_row0).2.2 h.1 = some k_row0 := va_up_self _ _ _
  have g2 : ∀ y, y ≠ h.1 → (z_new h 2 k_row0).2.2 y = h.2.2 y := fun y hy => va_up_ne _ _ hy
  have g3 : (z_new h 2 k_row0).1 = h.1 + 1 := rfl
  have g4 : (z_new h 2 k_row0).2.1 = h.2.1 + 2 := rfl
  show z_V G mt (d + 1) (pc + 3) _ _ (z_new h 2 k_row0) _
  generalize z_new h 2 k_row0 = ha at g0 g2 g3 g4 ⊢
  refine z_dup hd3 rfl ?_
  refine z_callI (dY := d) hd4 hh (by omega) Y hst (c_Row_init HG g0 g3 (by omega) (by omega)) (fun v hb q => ?_) (fun X hb q => by obtain ⟨q1, -⟩ := q; cases q1)
  obtain ⟨q1, b1, b2, b3, b4⟩ := q
  cases q1
  exact kk hb b1 (by omega) b3 (fun y y1 y2 => (b4 y y1 y2).trans (g2 y y1))
theorem z_mkWk (HG : z_ok G) {i1 i2 : Nat} (hd0 : decode mt.2.1 pc = .ok (.new i1, 3)) (hd3 : decode mt.2.1 (pc + 3) = .ok (.dup, 1)) (hd4 : decode mt.2.1 (pc + 4) = .ok (.invokespecial i2, 3)) (hh : mt.2.2.2.2 = []) (w : Cond.classLink mt.1.cls i1 R_Wk ∈ G.Ts) (Y : z_Yi G mt.1.cls i2 m_Wk_init) (hst : ((.ref h.1 :: st).map fun v => v.category).sum ≤ 8) (hc : h.1 + 2 ≤ G.b0 + G.cc) (hs : h.2.1 + 43 ≤ G.ss)
    (kk : ∀ h', h'.1 = h.1 + 2 → h'.2.1 = h.2.1 + 43 → wkAt G h' h.1 0 (fun _ => nI 0) → (∀ y, y ≠ h.1 → y ≠ h.1 + 1 → h'.2.2 y = h.2.2 y) → z_V G mt (d + 1) (pc + 7) lo (.ref h.1 :: st) h' Q) : z_V G mt (d + 1) pc lo st h Q := by
  refine z_newo (fs := [.null, .int 0]) (K_Wk HG) hd0 w (w_i_Wk HG) (w_n_Wk HG) (by decide) (by omega) (by omega) ?_
  have g0 : (z_new h 2 k_wk0).2.2 h.1 = some k_wk0 := va_up_self _ _ _
  have g2 : ∀ y, y ≠ h.1 → (z_new h 2 k_wk0).2.2 y = h.2.2 y := fun y hy => va_up_ne _ _ hy
  have g3 : (z_new h 2 k_wk0).1 = h.1 + 1 := rfl
  have g4 : (z_new h 2 k_wk0).2.1 = h.2.1 + 2 := rfl
  show z_V G mt (d + 1) (pc + 3) _ _ (z_new h 2 k_wk0) _
  generalize z_new h 2 k_wk0 = ha at g0 g2 g3 g4 ⊢
  refine z_dup hd3 rfl ?_
  refine z_callI (dY := d) hd4 hh (by omega) Y hst (c_Wk_init HG g0 g3 (by omega) (by omega)) (fun v hb q => ?_) (fun X hb q => by obtain ⟨q1, -⟩ := q; cases q1)
  obtain ⟨q1, b1, b2, b3, b4⟩ := q
  cases q1
  exact kk hb b1 (by omega) b3 (fun y y1 y2 => (b4 y y1 y2).trans (g2 y y1))
end MK
