/-! addJudgement, sort, constant, variable -/
/-- what holds of every kernel that the calls make -/
def pok (K : pK) : Prop := (∀ J ∈ K.1, J.1 ≤ K.2.1.length ∧ p_wf J.1 [0] J.2.1 ∧ p_wf J.1 [0] J.2.2) ∧ (∀ k c, K.2.1[k]? = some c → p_wf (K.2.1.length - 1 - k) [0] c) ∧ (∀ c ∈ K.2.2.1, p_wf 0 [0] c.1) ∧ p_rsok K.2.2.2
def k_ix (i : Int32) (n : Nat) : Option Nat := if i < 0 then none else if nI n ≤ i then none else some i.toNatClampNeg
theorem k_ix_cases (i : Int32) {n : Nat} (hn : n < 2 ^ 31) : (k_ix i n = none ∧ k_is i n = nI 0) ∨ ∃ j, j < n ∧ i = nI j ∧ k_ix i n = some j ∧ k_is i n = nI 1 := by
  unfold k_ix k_is
  by_cases h1 : i < 0
  · rw [if_pos h1, if_pos h1]
    exact Or.inl ⟨rfl, rfl⟩
  · by_cases h2 : nI n ≤ i
    · rw [if_neg h1, if_neg h1, if_pos h2, if_pos h2]
      exact Or.inl ⟨rfl, rfl⟩
    · rw [if_neg h1, if_neg h1, if_neg h2, if_neg h2]
      rcases pk_ix i hn with h | h | ⟨j, hj, rfl⟩
      · exact absurd h h1
      · exact absurd h h2
      · exact Or.inr ⟨j, hj, rfl, by rw [nI_clamp (by omega)], rfl⟩
theorem RwN.kfr {G : z_G} {h h' : z_H} {q r : Nat} {Rs : List pR} {x : List Nat} (H : RwN G h q Rs x) (ho : k_out q r) (k : k_fr q r h h') (hs : k_sc G q h') : RwN G h' q Rs x := by
  unfold k_out at ho
  obtain ⟨a, b, nb, fx, fb, g0, fr, hab, h1, h2, h3, h4, -, h6, h8, h10, h11⟩ := H
  have kk : ∀ y, (q ≤ y ∧ y ≤ q + 6) ∨ (q + 11 ≤ y ∧ y ≤ q + 50) → h'.2.2 y = h.2.2 y := fun y hy => k.2.2 y (by omega) (by omega) (by omega)
  refine ⟨a, b, nb, fx, fb, g0, fr, hab, (kk _ (by omega)).trans h1, (kk _ (by omega)).trans h2, h3, (kk _ (by omega)).trans h4, hs, ⟨(kk _ (by omega)).trans h6.1, (kk _ (by omega)).trans h6.2⟩, h8, ⟨(kk _ (by omega)).trans h10.1, (kk _ (by omega)).trans h10.2⟩, h11.1, fun j R hj => ⟨(h11.2 j R hj).1, ?_⟩⟩
  have hj8 := l_gi' hj
  have h8 := h11.1
  obtain ⟨e1, ⟨f, e2, e3⟩, f', e4, e5⟩ := (h11.2 j R hj).2
  unfold k_rq at *
  exact ⟨(kk _ (by omega)).trans e1, ⟨f, ⟨(kk _ (by omega)).trans e2.1, (kk _ (by omega)).trans e2.2⟩, e3⟩, f', ⟨(kk _ (by omega)).trans e4.1, (kk _ (by omega)).trans e4.2⟩, e5⟩
section KP
variable {G : z_G} {h : z_H} {d o : Nat} {K : pK}
theorem KAt.pushJ {h' : z_H} {J : pJ} (H : KAt G h o K) (hl : K.1.length < 6) (k : ∀ y, y ≠ o → (y < k_ju o K.1.length ∨ k_ju o K.1.length + 4 < y) → h'.2.2 y = h.2.2 y) (ho : h'.2.2 o = some (k_tk o (K.1.length + 1) K.2.1.length K.2.2.1.length)) (HJ : jdAt G h' (k_ju o K.1.length) (some J)) : KAt G h' o (J :: K.1, K.2) := by
  obtain ⟨h1, -, h3, h4, h5, h6, ⟨x, h7⟩, h8⟩ := H
  have hu : o + 64 ≤ k_ju o K.1.length ∧ k_ju o K.1.length + 4 ≤ o + 93 := by unfold k_ju; omega
  refine ⟨h1.keep (fun y hy => k y (by omega) (by omega)), ho, h3.push hl (fun y hy hy2 => k y (by omega) hy2) HJ, h4.keep (fun y hy => k y (by omega) (by omega)), h5.keep (k _ (by omega) (by omega)) (fun y hy => k y (by omega) (by omega)), h6.keep (fun y hy => k y (by omega) (by omega)), ⟨x, h7.keep (fun y hy => k y (by omega) (by omega))⟩, h8.keep (fun y hy => k y (by omega) (by omega))⟩
theorem KAt.len (H : KAt G h o K) : K.1.length ≤ 6 ∧ K.2.1.length ≤ 4 ∧ K.2.2.1.length ≤ 8 := ⟨H.2.2.1.1, H.2.2.2.1.1, H.2.2.2.2.1.1.1⟩
theorem pok.e4 (H : KAt G h o K) (P : pok K) : ∀ J ∈ K.1, J.1 ≤ 4 := fun J hJ => Nat.le_trans (P.1 J hJ).1 H.len.2.1
def k_add (h : z_H) (o : Nat) (K : pK) : z_H := z_set (z_set h o (k_tk o (K.1.length + 1) K.2.1.length K.2.2.1.length)) (k_ju o K.1.length) (k_jd (k_ju o K.1.length) K.2.1.length)
theorem c_TK_add (HG : z_ok G) (hrm : z_rm G h) (H : KAt G h o K) : z_C G m_TK_addJudgement (d + 1) [.ref o] h (z_eqx (¬ K.1.length = 6) (some (.ref (k_ju o K.1.length))) (fun h' => h' = k_add h o K) z_UOE (fun h' => h' = z_exc h)) := by
  obtain ⟨l1, l2, l3⟩ := H.len
  obtain ⟨h1, ho, h3, h4, h5, h6, h7, h8⟩ := id H
  refine z_C.of (Nat.le_of_ble_eq_true rfl) ?_
  refine z_aload_n d_TK_addJudgement_0 rfl rfl ?_
  refine z_getf (L_TK_15K HG) (by decide) (L_TK_15 HG) d_TK_addJudgement_1 ho (by rfl) ?_
  refine z_bipush (v := nI 6) d_TK_addJudgement_4 (by decide +kernel) ?_
  refine z_icmp_ne (tgt := 17) d_TK_addJudgement_6 rfl (fun c1 => ?_) (fun c1 => ?_)
  · rw [nI_eq (by omega) (by omega)] at c1
    refine z_aload_n d_TK_addJudgement_17 rfl rfl ?_
    refine z_dup d_TK_addJudgement_18 rfl ?_
    refine z_getf (L_TK_15K HG) (by decide) (L_TK_15 HG) d_TK_addJudgement_19 ho (by rfl) ?_
    refine z_iconst (v := nI 1) d_TK_addJudgement_22 (by decide) ?_
    refine z_iadd d_TK_addJudgement_23 ?_
    rw [nI_add]
    refine z_putf (L_TK_15K HG) (by decide) (L_TK_15 HG) rfl d_TK_addJudgement_24 ho rfl rfl (Nat.le_of_ble_eq_true rfl) ?_
    show z_V G m_TK_addJudgement (d + 1) 27 _ _ (z_set h o (k_tk o (K.1.length + 1) K.2.1.length K.2.2.1.length)) _
    have ho2 := z_set_at h o (k_tk o (K.1.length + 1) K.2.1.length K.2.2.1.length)
    have hF2 := h1.keep (h' := z_set h o (k_tk o (K.1.length + 1) K.2.1.length K.2.2.1.length)) (fun y hy => z_set_ne h _ (by omega))
    have hj2 := h3.keep (h' := z_set h o (k_tk o (K.1.length + 1) K.2.1.length K.2.2.1.length)) (fun y hy => z_set_ne h _ (by omega))
    refine z_aload_n d_TK_addJudgement_27 rfl rfl ?_
    refine z_iconst (v := nI 0) d_TK_addJudgement_28 (by decide) ?_
    refine z_callV1r (dY := d) d_TK_addJudgement_29 rfl (by omega) (Y_TK_176 HG) ho2 (cl_TK HG) (Nat.le_of_ble_eq_true rfl) (c_TK_judgementAt HG ho2 hF2 (by omega) (k := 0) (by omega)) ?_
    rw [show K.1.length + 1 - 1 - 0 = K.1.length by omega]
    obtain ⟨⟨e, hu, -⟩, -⟩ := hj2.2 K.1.length (by omega)
    refine z_astore_n d_TK_addJudgement_32 rfl (by decide) ?_
    refine z_aload_n d_TK_addJudgement_33 rfl rfl ?_
    refine z_aload_n d_TK_addJudgement_34 rfl rfl ?_
    refine z_getf (L_TK_25K HG) (by decide) (L_TK_25 HG) d_TK_addJudgement_35 ho2 (by rfl) ?_
    refine z_putf (L_TK_166K HG) (by decide) (L_TK_166 HG) rfl d_TK_addJudgement_38 hu rfl rfl (Nat.le_of_ble_eq_true rfl) ?_
    refine z_aload_n d_TK_addJudgement_41 rfl rfl ?_
    exact z_areturn d_TK_addJudgement_42 rfl (Or.inl ⟨c1, rfl, rfl⟩)
  · rw [nI_eq (by omega) (by omega)] at c1
    exact z_throw d_TK_addJudgement_9 d_TK_addJudgement_12 d_TK_addJudgement_13 d_TK_addJudgement_16 rfl (by decide +kernel) (t_TK_129 HG) hrm.1 hrm.2 (by decide) (Or.inr ⟨fun hh => hh c1, rfl, rfl⟩)
/-- what addJudgement leaves -/
theorem k_add_ok (H : KAt G h o K) (hl : K.1.length < 6) : (k_add h o K).2.2 o = some (k_tk o (K.1.length + 1) K.2.1.length K.2.2.1.length) ∧ (k_add h o K).2.2 (k_ju o K.1.length) = some (k_jd (k_ju o K.1.length) K.2.1.length) ∧ (∀ y, y ≠ o → y ≠ k_ju o K.1.length → (k_add h o K).2.2 y = h.2.2 y) ∧ (∃ n f, rowAt G (k_add h o K) (k_ju o K.1.length + 1) n f) ∧ (∃ n f, rowAt G (k_add h o K) (k_ju o K.1.length + 3) n f) ∧ k_ft o h (k_add h o K) := by
  have hu : o + 64 ≤ k_ju o K.1.length ∧ k_ju o K.1.length + 4 ≤ o + 93 := by unfold k_ju; omega
  obtain ⟨-, ⟨n1, f1, r1, -⟩, n2, f2, r2, -⟩ := H.2.2.1.2 K.1.length hl
  refine ⟨(z_set_ne _ _ (by omega)).trans (z_set_at ..), z_set_at .., fun y h1 h2 => (z_set_ne _ _ h2).trans (z_set_ne _ _ h1), ⟨n1, f1, z_set_row _ (z_set_row _ r1 (by omega) (by omega)) (by omega) (by omega)⟩, ⟨n2, f2, z_set_row _ (z_set_row _ r2 (by omega) (by omega)) (by omega) (by omega)⟩, (k_ft.set _ (by omega)).tr (k_ft.set _ (by omega))⟩
def k_sort (K : pK) : String ⊕ (Option Value × pK) := if K.1.length = 6 then .inl z_UOE else .inr (none, ((K.2.1.length, [0], [1]) :: K.1, K.2))
theorem rl_one {f : Nat → Int32} {v : Nat} (hv : v < 1000) : rl (upd f 0 (nI v)) [v] := by
  refine ⟨by simp, fun i hi => ?_⟩
  have : i = 0 := by simp at hi; omega
  subst this
  exact ⟨pk_us, hv⟩
theorem c_TK_sort (HG : z_ok G) (hrm : z_rm G h) (H : KAt G h o K) : z_C G m_TK_sort (d + 2) [.ref o] h (tk_post G o K h (k_sort K)) := by
  obtain ⟨l1, l2, l3⟩ := H.len
  unfold k_sort
  refine z_C.of (Nat.le_of_ble_eq_true rfl) ?_
  refine z_aload_n d_TK_sort_0 rfl rfl ?_
  refine z_callVg (as := []) (dY := d + 1) d_TK_sort_1 rfl (by omega) (Y_TK_60 HG) rfl H.2.1 (cl_TK HG) (Nat.le_of_ble_eq_true rfl) (c_TK_add HG hrm H) (fun hc h' hh => ?_) (fun hc h' hh => ?_)
  · rw [if_neg hc]
    obtain ⟨k1, k2, k3, ⟨n1, f1, r1⟩, ⟨n2, f2, r2⟩, k4⟩ := k_add_ok H (by omega)
    rw [← hh] at k1 k2 k3 r1 r2 k4
    clear hh
    have hu : o + 64 ≤ k_ju o K.1.length ∧ k_ju o K.1.length + 4 ≤ o + 93 := by unfold k_ju; omega
    have hK := fun h' J => KAt.pushJ (h' := h') (J := J) H (by omega)
    generalize k_ju o K.1.length = u at *
    refine z_astore_n d_TK_sort_4 rfl (by decide) ?_
    refine z_aload_n d_TK_sort_5 rfl rfl ?_
    refine z_getf (L_TK_64K HG) (by decide) (L_TK_64 HG) d_TK_sort_6 k2 (by rfl) ?_
    refine z_iconst (v := nI 0) d_TK_sort_9 (by decide) ?_
    refine z_callV1v (dY := d + 1) d_TK_sort_10 rfl (by omega) (Y_TK_67 HG) r1.1 (cl_Row HG) (Nat.le_of_ble_eq_true rfl) (c_Row_become HG r1 (nI 0)) ?_
    have r2' := rset_row (r := u + 1) 1 (upd f1 0 (nI 0)) r2 (by omega) (by omega) (by omega)
    refine z_aload_n d_TK_sort_13 rfl rfl ?_
    refine z_getf (L_TK_71K HG) (by decide) (L_TK_71 HG) d_TK_sort_14 ((rset_ne G _ _ _ (by omega) (by omega)).trans k2) (by rfl) ?_
    refine z_iconst (v := nI 1) d_TK_sort_17 (by decide) ?_
    refine z_callV1v (dY := d + 1) d_TK_sort_18 rfl (by omega) (Y_TK_67 HG) r2'.1 (cl_Row HG) (Nat.le_of_ble_eq_true rfl) (c_Row_become HG r2' (nI 1)) ?_
    refine z_return d_TK_sort_21 rfl ⟨rfl, hK _ _ (fun y y1 y2 => (rset_out (by omega)).trans ((rset_out (by omega)).trans (k3 y y1 (by omega)))) ((rset_out (by omega)).trans ((rset_out (by omega)).trans k1)) ⟨⟨_, (rset_out (by omega)).trans ((rset_out (by omega)).trans k2), fun J e => by cases e; rfl⟩, rowL.mk (rset_row _ _ (rset_at ..) (by omega) (by omega) (by omega)) (rl_one (by omega)), rowL.mk (rset_at ..) (rl_one (by omega))⟩, k4.tr ((k_ft.rset (by omega)).tr (k_ft.rset (by omega)))⟩
  · rw [if_pos (Classical.not_not.mp hc)]
    exact ⟨rfl, h, hh, H, k_ft.rf⟩
def k_const (K : pK) (i : Int32) : String ⊕ (Option Value × pK) := match k_ix i K.2.2.1.length with
  | none => .inl z_IOB
  | some j => if K.1.length = 6 then .inl z_UOE else .inr (none, ((K.2.1.length, [10 + j], ((K.2.2.1[j]?.map (·.1)).getD [])) :: K.1, K.2))
theorem c_TK_constant (HG : z_ok G) (hrm : z_rm G h) (H : KAt G h o K) (P : pok K) (i : Int32) : z_C G m_TK_constant (d + 2) [.ref o, .int i] h (tk_post G o K h (k_const K i)) := by
  obtain ⟨l1, l2, l3⟩ := H.len
  unfold k_const
  refine z_C.of (Nat.le_of_ble_eq_true rfl) ?_
  refine z_aload_n d_TK_constant_0 rfl rfl ?_
  refine z_iload_n d_TK_constant_1 rfl rfl ?_
  refine z_callV1r (dY := d) d_TK_constant_2 rfl (by omega) (Y_TK_74 HG) H.2.1 (cl_TK HG) (Nat.le_of_ble_eq_true rfl) (c_TK_isConstant HG H.2.1 i) ?_
  rcases k_ix_cases i (n := K.2.2.1.length) (by omega) with ⟨e1, e2⟩ | ⟨j, hj, rfl, e1, e2⟩
  · rw [e1, e2]
    refine z_if_ne (tgt := 16) d_TK_constant_5 rfl (fun c1 => absurd nI_0 c1) (fun c1 => ?_)
    exact z_throw d_TK_constant_8 d_TK_constant_11 d_TK_constant_12 d_TK_constant_15 rfl (by decide +kernel) (t_TK_78 HG) hrm.1 hrm.2 (by decide) ⟨rfl, h, rfl, H, k_ft.rf⟩
  · rw [e1, e2]
    refine z_if_ne (tgt := 16) d_TK_constant_5 rfl (fun c1 => ?_) (fun c1 => absurd c1 (by decide))
    refine z_aload_n d_TK_constant_16 rfl rfl ?_
    refine z_callVg (as := []) (dY := d + 1) d_TK_constant_17 rfl (by omega) (Y_TK_60 HG) rfl H.2.1 (cl_TK HG) (Nat.le_of_ble_eq_true rfl) (c_TK_add HG hrm H) (fun hc h' hh => ?_) (fun hc h' hh => ?_)
    · simp only []
      rw [if_neg hc]
      obtain ⟨k1, k2, k3, ⟨n1, f1, r1⟩, ⟨n2, f2, r2⟩, k4⟩ := k_add_ok H (by omega)
      rw [← hh] at k1 k2 k3 r1 r2 k4
      clear hh
      have hu : o + 64 ≤ k_ju o K.1.length ∧ k_ju o K.1.length + 4 ≤ o + 93 := by unfold k_ju; omega
      have hK := fun h' J => KAt.pushJ (h' := h') (J := J) H (by omega)
      generalize k_ju o K.1.length = u at *
      have hc1 := List.getElem?_eq_getElem hj
      generalize K.2.2.1[j] = c at hc1
      obtain ⟨fc, rc, hrl⟩ := (H.2.2.2.2.1.get hc1).get
      obtain ⟨-, -, ff, ha3, hf3⟩ := H.1
      have hwf : p_wf 0 [0] c.1 := P.2.2.1 c (List.mem_of_getElem? hc1)
      have hku : o + 102 ≤ k_ku o j := by unfold k_ku; omega
      have hfj := hf3 j (by omega)
      generalize k_ku o j = w at *
      rw [hc1]
      refine z_astore_n d_TK_constant_20 rfl (by decide) ?_
      refine z_aload_n d_TK_constant_21 rfl rfl ?_
      refine z_getf (L_TK_64K HG) (by decide) (L_TK_64 HG) d_TK_constant_22 k2 (by rfl) ?_
      refine z_bipush (v := nI 10) d_TK_constant_25 (by decide +kernel) ?_
      refine z_iload_n d_TK_constant_27 rfl rfl ?_
      refine z_iadd d_TK_constant_28 ?_
      rw [nI_add]
      refine z_callV1v (dY := d + 1) d_TK_constant_29 rfl (by omega) (Y_TK_67 HG) r1.1 (cl_Row HG) (Nat.le_of_ble_eq_true rfl) (c_Row_become HG r1 (nI (10 + j))) ?_
      have r2' := rset_row (r := u + 1) 1 (upd f1 0 (nI (10 + j))) r2 (by omega) (by omega) (by omega)
      have ho2 := (rset_out (G := G) (r := u + 1) (n := 1) (f := upd f1 0 (nI (10 + j))) (y := o) (by omega)).trans k1
      have hA := (rset_out (G := G) (r := u + 1) (n := 1) (f := upd f1 0 (nI (10 + j))) (y := o + 3) (by omega)).trans ((k3 (o + 3) (by omega) (by omega)).trans ha3)
      have rc2 : rowAt G (rset G h' (u + 1) 1 (upd f1 0 (nI (10 + j)))) w c.1.length fc := ⟨(rset_out (by omega)).trans ((k3 _ (by omega) (by omega)).trans rc.1), (rset_out (by omega)).trans ((k3 _ (by omega) (by omega)).trans rc.2)⟩
      refine z_aload_n d_TK_constant_32 rfl rfl ?_
      refine z_getf (L_TK_71K HG) (by decide) (L_TK_71 HG) d_TK_constant_33 ((rset_ne G _ _ _ (by omega) (by omega)).trans k2) (by rfl) ?_
      refine z_aload_n d_TK_constant_36 rfl rfl ?_
      refine z_getf (L_TK_28K HG) (by decide) (L_TK_28 HG) d_TK_constant_37 ho2 (by rfl) ?_
      refine z_iload_n d_TK_constant_40 rfl rfl ?_
      refine z_aald (x := w) d_TK_constant_41 (ty3 HG) hA (pk_in j 8 (by omega)) (by rw [nI_clamp (by omega)]; exact hfj) ?_
      refine z_callV1v (dY := d) d_TK_constant_42 rfl (by omega) (Y_TK_81 HG) r2'.1 (cl_Row HG) (Nat.le_of_ble_eq_true rfl) (c_Row_copy HG r2' rc2 hrl (by omega) (by omega) (by omega)) ?_
      refine z_return d_TK_constant_45 rfl ⟨rfl, hK _ _ (fun y y1 y2 => (rset_out (by omega)).trans ((rset_out (by omega)).trans (k3 y y1 (by omega)))) ((rset_out (by omega)).trans ((rset_out (by omega)).trans k1)) ⟨⟨_, (rset_out (by omega)).trans ((rset_out (by omega)).trans k2), fun J e => by cases e; rfl⟩, rowL.mk (rset_row _ _ (rset_at ..) (by omega) (by omega) (by omega)) (rl_one (by omega)), rowL.mk (rset_at ..) (p_wf_rl hwf (by omega) hrl.len)⟩, k4.tr ((k_ft.rset (by omega)).tr (k_ft.rset (by omega)))⟩
    · simp only []
      rw [if_pos (Classical.not_not.mp hc)]
      exact ⟨rfl, h, hh, H, k_ft.rf⟩
end KP
