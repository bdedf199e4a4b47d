/-! Rewriter.addRule -/
/-- all eight rules' objects, used or not -/
def ruAll (G : z_G) (h : z_H) (q : Nat) : Prop := ∀ k, k < 8 → ∃ nv nl nr fl fr, h.2.2 (k_rq q k) = some (k_ru (k_rq q k) nv) ∧ rowAt G h (k_rq q k + 1) nl fl ∧ rowAt G h (k_rq q k + 3) nr fr
theorem ruAll.fq {G : z_G} {h h1 : z_H} {q : Nat} (H : ruAll G h q) (k : k_fq q h h1) : ruAll G h1 q := by
  intro j hj
  obtain ⟨nv, nl, nr, fl, fr, e1, e2, e3⟩ := H j hj
  unfold k_rq at *
  exact ⟨nv, nl, nr, fl, fr, (k.2.2 _ (by omega)).trans e1, k.row (by omega) e2, k.row (by omega) e3⟩
theorem ruAll.keep {G : z_G} {h h1 : z_H} {q : Nat} (H : ruAll G h q) (k : ∀ y, q + 10 < y ∧ y ≤ q + 50 → h1.2.2 y = h.2.2 y) : ruAll G h1 q := by
  intro j hj
  obtain ⟨nv, nl, nr, fl, fr, e1, e2, e3⟩ := H j hj
  unfold k_rq at *
  exact ⟨nv, nl, nr, fl, fr, (k _ (by omega)).trans e1, ⟨(k _ (by omega)).trans e2.1, (k _ (by omega)).trans e2.2⟩, ⟨(k _ (by omega)).trans e3.1, (k _ (by omega)).trans e3.2⟩⟩
theorem rset_out {G : z_G} {h : z_H} {r n y : Nat} {f : Nat → Int32} (hy : y < r ∨ r + 1 < y) : (rset G h r n f).2.2 y = h.2.2 y := rset_ne G h n f (by omega) (by omega)
section AR
variable {G : z_G} {d q s t nv : Nat} {fs ft : Nat → Int32} {x ll lr : List Nat} {Rs : List (List Nat × List Nat × Nat)} {h : z_H}
theorem c_Rw_addRule (HG : z_ok G) (hRl : Rs.length < 8) (hnv : nv ≤ 4) (H : RwN G h q Rs x) (HA : ruAll G h q) (so : k_out q s) (to : k_out q t) (hs : rowAt G h s ll.length fs) (hls : rl fs ll) (ht : rowAt G h t lr.length ft) (hlt : rl ft lr) (hll : ∀ f, rl (k_app f 0 ll) ll) (hlr : ∀ f, rl (k_app f 0 lr) lr) :
    z_C G m_Rw_addRule (d + 1) [.ref q, .ref s, .ref t, .int (nI nv)] h (z_pq none (fun h' => RwN G h' q (Rs ++ [(ll, lr, nv)]) x ∧ ruAll G h' q ∧ h'.1 = h.1 ∧ h'.2.1 = h.2.1 ∧ ∀ y, y < q ∨ q + 50 < y → h'.2.2 y = h.2.2 y)) := by
  obtain ⟨a, b, nb, fx, fb, g, fr', hab, hq, h1, hfr, h6, hsc, ha, hx, hb, hR⟩ := id H
  have hso' := so
  have hto' := to
  unfold k_out at hso' hto'
  obtain ⟨nv0, nl, nr, fl, fr, e1, e2, e3⟩ := HA Rs.length hRl
  generalize hu : k_rq q Rs.length = u at e1 e2 e3
  have hu1 : q + 10 < u ∧ u + 4 ≤ q + 50 := by
    rw [← hu]
    unfold k_rq
    omega
  refine z_C.of (Nat.le_of_ble_eq_true rfl) ?_
  refine z_aload_n d_Rw_addRule_0 rfl rfl ?_
  refine z_getf (L_Rw_11K HG) (by decide) (L_Rw_11 HG) d_Rw_addRule_1 hq (by rfl) ?_
  refine z_aload_n d_Rw_addRule_4 rfl rfl ?_
  refine z_getf (L_Rw_17K HG) (by decide) (L_Rw_17 HG) d_Rw_addRule_5 hq (by rfl) ?_
  refine z_aald (x := u) d_Rw_addRule_8 (ty5 HG) h1 (pk_in Rs.length 8 hRl) (by rw [nI_clamp (by omega), ← hu]; exact hfr _ hRl) ?_
  refine z_astore d_Rw_addRule_9 (by decide) ?_
  refine z_aload d_Rw_addRule_11 rfl ?_
  refine z_getf (L_Rw_46K HG) (by decide) (L_Rw_46 HG) d_Rw_addRule_13 e1 (by rfl) ?_
  refine z_aload_n d_Rw_addRule_16 rfl rfl ?_
  refine z_callV1v (dY := d) d_Rw_addRule_17 rfl (by omega) (Y_Rw_49 HG) e2.1 (cl_Row HG) (Nat.le_of_ble_eq_true rfl) (c_Row_copy HG e2 hs hls (by omega) (by omega) (by omega)) ?_
  generalize hh1 : rset G h (u + 1) ll.length (k_app fl 0 ll) = h1'
  have k1 : ∀ y, y < u + 1 ∨ u + 2 < y → h1'.2.2 y = h.2.2 y := by
    subst hh1
    exact fun y hy => rset_out (by omega)
  have k1a : h1'.1 = h.1 ∧ h1'.2.1 = h.2.1 := by
    subst hh1
    exact ⟨rfl, rfl⟩
  have k1r : rowAt G h1' (u + 1) ll.length (k_app fl 0 ll) := by
    subst hh1
    exact rset_at ..
  clear hh1
  refine z_aload d_Rw_addRule_20 rfl ?_
  refine z_getf (L_Rw_53K HG) (by decide) (L_Rw_53 HG) d_Rw_addRule_22 ((k1 u (by omega)).trans e1) (by rfl) ?_
  refine z_aload_n d_Rw_addRule_25 rfl rfl ?_
  have e3' : rowAt G h1' (u + 3) nr fr := ⟨(k1 _ (by omega)).trans e3.1, (k1 _ (by omega)).trans e3.2⟩
  have ht' : rowAt G h1' t lr.length ft := ⟨(k1 _ (by omega)).trans ht.1, (k1 _ (by omega)).trans ht.2⟩
  refine z_callV1v (dY := d) d_Rw_addRule_26 rfl (by omega) (Y_Rw_49 HG) e3'.1 (cl_Row HG) (Nat.le_of_ble_eq_true rfl) (c_Row_copy HG e3' ht' hlt (by omega) (by omega) (by omega)) ?_
  generalize hh2 : rset G h1' (u + 3) lr.length (k_app fr 0 lr) = h2'
  have k2 : ∀ y, y < u + 1 ∨ u + 4 < y → h2'.2.2 y = h.2.2 y := by
    subst hh2
    exact fun y hy => (rset_out (by omega)).trans (k1 y (by omega))
  have k2a : h2'.1 = h.1 ∧ h2'.2.1 = h.2.1 := by
    subst hh2
    exact k1a
  have k2l : rowAt G h2' (u + 1) ll.length (k_app fl 0 ll) := by
    subst hh2
    exact rset_row _ _ k1r (by omega) (by omega) (by omega)
  have k2r : rowAt G h2' (u + 3) lr.length (k_app fr 0 lr) := by
    subst hh2
    exact rset_at ..
  clear hh2
  refine z_aload d_Rw_addRule_29 rfl ?_
  refine z_iload_n d_Rw_addRule_31 rfl rfl ?_
  refine z_putf (L_Rw_56K HG) (by decide) (L_Rw_56 HG) rfl d_Rw_addRule_32 ((k2 u (by omega)).trans e1) rfl rfl (Nat.le_of_ble_eq_true rfl) ?_
  show z_V G m_Rw_addRule (d + 1) 35 _ _ (z_set h2' u (k_ru u nv)) _
  have hq3 : (z_set h2' u (k_ru u nv)).2.2 q = some (k_rw q Rs.length a b) := (z_set_ne _ _ (by omega)).trans ((k2 q (by omega)).trans hq)
  refine z_aload_n d_Rw_addRule_35 rfl rfl ?_
  refine z_dup d_Rw_addRule_36 rfl ?_
  refine z_getf (L_Rw_17K HG) (by decide) (L_Rw_17 HG) d_Rw_addRule_37 hq3 (by rfl) ?_
  refine z_iconst (v := nI 1) d_Rw_addRule_40 (by decide) ?_
  refine z_iadd d_Rw_addRule_41 ?_
  rw [nI_add]
  refine z_putf (L_Rw_17K HG) (by decide) (L_Rw_17 HG) rfl d_Rw_addRule_42 hq3 rfl rfl (Nat.le_of_ble_eq_true rfl) ?_
  show z_V G m_Rw_addRule (d + 1) 45 _ _ (z_set (z_set h2' u (k_ru u nv)) q (k_rw q (Rs.length + 1) a b)) _
  have k4 : ∀ y, y ≠ q → (y < u ∨ u + 4 < y) → (z_set (z_set h2' u (k_ru u nv)) q (k_rw q (Rs.length + 1) a b)).2.2 y = h.2.2 y := fun y n1 n2 => (z_set_ne _ _ n1).trans ((z_set_ne _ _ (by omega)).trans (k2 y (by omega)))
  have k4q := z_set_at (z_set h2' u (k_ru u nv)) q (k_rw q (Rs.length + 1) a b)
  have k4u : (z_set (z_set h2' u (k_ru u nv)) q (k_rw q (Rs.length + 1) a b)).2.2 u = some (k_ru u nv) := (z_set_ne _ _ (by omega)).trans (z_set_at ..)
  have k4l : rowAt G (z_set (z_set h2' u (k_ru u nv)) q (k_rw q (Rs.length + 1) a b)) (u + 1) ll.length (k_app fl 0 ll) := z_set_row _ (z_set_row _ k2l (by omega) (by omega)) (by omega) (by omega)
  have k4r : rowAt G (z_set (z_set h2' u (k_ru u nv)) q (k_rw q (Rs.length + 1) a b)) (u + 3) lr.length (k_app fr 0 lr) := z_set_row _ (z_set_row _ k2r (by omega) (by omega)) (by omega) (by omega)
  have k4a : (z_set (z_set h2' u (k_ru u nv)) q (k_rw q (Rs.length + 1) a b)).1 = h.1 ∧ (z_set (z_set h2' u (k_ru u nv)) q (k_rw q (Rs.length + 1) a b)).2.1 = h.2.1 := k2a
  refine z_return d_Rw_addRule_45 rfl ?_
  generalize z_set (z_set h2' u (k_ru u nv)) q (k_rw q (Rs.length + 1) a b) = h4 at k4 k4q k4u k4l k4r k4a
  obtain ⟨⟨n7, g7, h7⟩, n9, g9, h9⟩ := hsc
  refine ⟨rfl, ⟨a, b, nb, fx, fb, g, fr', hab, ?_, (k4 _ (by omega) (by omega)).trans h1, hfr, (k4 _ (by omega) (by omega)).trans h6, ⟨⟨n7, g7, (k4 _ (by omega) (by omega)).trans h7.1, (k4 _ (by omega) (by omega)).trans h7.2⟩, n9, g9, (k4 _ (by omega) (by omega)).trans h9.1, (k4 _ (by omega) (by omega)).trans h9.2⟩, ⟨(k4 _ (by omega) (by omega)).trans ha.1, (k4 _ (by omega) (by omega)).trans ha.2⟩, hx, ⟨(k4 _ (by omega) (by omega)).trans hb.1, (k4 _ (by omega) (by omega)).trans hb.2⟩, ?_, ?_⟩, ?_, k4a.1, k4a.2, fun y hy => k4 y (by omega) (by omega)⟩
  · rw [List.length_append]
    exact k4q
  · rw [List.length_append]
    exact hRl
  · intro j R hj
    by_cases hjl : j < Rs.length
    · rw [List.getElem?_append_left hjl] at hj
      obtain ⟨f1, f2, ⟨f, f3, f4⟩, f', f5, f6⟩ := hR.2 j R hj
      have hne : k_rq q j + 4 < u ∧ q + 10 < k_rq q j := by
        rw [← hu]
        unfold k_rq
        omega
      generalize k_rq q j = w at *
      exact ⟨f1, (k4 _ (by omega) (by omega)).trans f2, ⟨f, ⟨(k4 _ (by omega) (by omega)).trans f3.1, (k4 _ (by omega) (by omega)).trans f3.2⟩, f4⟩, f', ⟨(k4 _ (by omega) (by omega)).trans f5.1, (k4 _ (by omega) (by omega)).trans f5.2⟩, f6⟩
    · have hj1 := l_gi' hj
      rw [List.length_append, List.length_singleton] at hj1
      have hje : j = Rs.length := by omega
      subst hje
      rw [List.getElem?_append_right (Nat.le_refl _), Nat.sub_self] at hj
      cases hj
      rw [hu]
      exact ⟨hnv, k4u, ⟨_, k4l, hll fl⟩, _, k4r, hlr fr⟩
  · intro j hj
    by_cases hje : j = Rs.length
    · subst hje
      rw [hu]
      exact ⟨_, _, _, _, _, k4u, k4l, k4r⟩
    · obtain ⟨nv', nl', nr', fl', fr'', f1, f2, f3⟩ := HA j hj
      have hne : (k_rq q j + 4 < u ∨ u + 4 < k_rq q j) ∧ q + 10 < k_rq q j := by
        rw [← hu]
        unfold k_rq
        omega
      generalize k_rq q j = w at *
      exact ⟨nv', nl', nr', fl', fr'', (k4 _ (by omega) (by omega)).trans f1, ⟨(k4 _ (by omega) (by omega)).trans f2.1, (k4 _ (by omega) (by omega)).trans f2.2⟩, ⟨(k4 _ (by omega) (by omega)).trans f3.1, (k4 _ (by omega) (by omega)).trans f3.2⟩⟩
end AR
