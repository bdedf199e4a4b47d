/-! variable, drop, leave, counts and the views -/
theorem p_end_full {n : Nat} {S : List Nat} : ∀ {l : List Nat}, p_wf n S l → p_end S.length l = l.length := by
  intro l
  induction l generalizing S with
  | nil => intro h; rw [p_end_nil]; rfl
  | cons v l ih =>
    intro h
    cases S with
    | nil => exact h.elim
    | cons d S =>
      have := ih h.2
      rw [p_aw_len] at this
      show p_end (if p_two v = true then S.length + 2 else S.length) l + 1 = l.length + 1
      rw [this]
theorem p_lift_wl {n k : Nat} {l : List Nat} (h : p_wf n [0] l) : (p_lift k [0] l).length = l.length ∧ p_wf (n + k) [0] (p_lift k [0] l) := by
  have h1 := p_wf_lift (k := k) h
  rw [show ([0] : List Nat).map (· + k) = [0 + k] by simp, Nat.zero_add] at h1
  refine ⟨?_, p_wf_sh1.mp h1⟩
  rw [p_lift_len]
  exact p_end_full h
section KV
variable {G : z_G} {h : z_H} {d o : Nat} {K : pK}
def k_var (K : pK) (i : Int32) : String ⊕ (Option Value × pK) := match k_ix i K.2.1.length with
  | none => .inl z_IOB
  | some j => if K.1.length = 6 then .inl z_UOE else .inr (none, ((K.2.1.length, [100 + j], p_lift (j + 1) [0] (K.2.1[j]?.getD [])) :: K.1, K.2))
theorem c_TK_variable (HG : z_ok G) (hrm : z_rm G h) (H : KAt G h o K) (P : pok K) (i : Int32) : z_C G m_TK_variable (d + 2) [.ref o, .int i] h (tk_post G o K h (k_var K i)) := by
  obtain ⟨l1, l2, l3⟩ := H.len
  unfold k_var
  refine z_C.of (Nat.le_of_ble_eq_true rfl) ?_
  refine z_aload_n d_TK_variable_0 rfl rfl ?_
  refine z_iload_n d_TK_variable_1 rfl rfl ?_
  refine z_callV1r (dY := d) d_TK_variable_2 rfl (by omega) (Y_TK_85 HG) H.2.1 (cl_TK HG) (Nat.le_of_ble_eq_true rfl) (c_TK_isEntry HG H.2.1 i) ?_
  rcases k_ix_cases i (n := K.2.1.length) (by omega) with ⟨e1, e2⟩ | ⟨j, hj, rfl, e1, e2⟩
  · rw [e1, e2]
    refine z_if_ne (tgt := 16) d_TK_variable_5 rfl (fun c1 => absurd nI_0 c1) (fun c1 => ?_)
    exact z_throw d_TK_variable_8 d_TK_variable_11 d_TK_variable_12 d_TK_variable_15 rfl (by decide +kernel) (t_TK_78 HG) hrm.1 hrm.2 (by decide) ⟨rfl, h, rfl, H, k_ft.rf⟩
  · rw [e1, e2]
    refine z_if_ne (tgt := 16) d_TK_variable_5 rfl (fun c1 => ?_) (fun c1 => absurd c1 (by decide))
    refine z_aload_n d_TK_variable_16 rfl rfl ?_
    refine z_callVg (as := []) (dY := d + 1) d_TK_variable_17 rfl (by omega) (Y_TK_60 HG) rfl H.2.1 (cl_TK HG) (Nat.le_of_ble_eq_true rfl) (c_TK_add HG hrm H) (fun hc h' hh => ?_) (fun hc h' hh => ?_)
    · simp only []
      rw [if_neg hc]
      obtain ⟨k1, k2, k3, ⟨n1, f1, r1⟩, ⟨n2, f2, r2⟩, k4⟩ := k_add_ok H (by omega)
      rw [← hh] at k1 k2 k3 r1 r2 k4
      clear hh
      have hu : o + 64 ≤ k_ju o K.1.length ∧ k_ju o K.1.length + 4 ≤ o + 93 := by unfold k_ju; omega
      have hF' : tkF G h' o := H.1.keep (fun y hy => k3 y (by omega) (by unfold k_ju; omega))
      generalize hue : k_ju o K.1.length = u at *
      have hc1 := List.getElem?_eq_getElem hj
      generalize K.2.1[j] = c at hc1
      obtain ⟨fc, rc, hrl⟩ := (H.2.2.2.1.get hc1).get
      have h40 := hrl.len
      have hwf : p_wf (K.2.1.length - 1 - j) [0] c := P.2.1 j c hc1
      obtain ⟨pl1, pl2⟩ := p_lift_wl (k := j + 1) hwf
      rw [show K.2.1.length - 1 - j + (j + 1) = K.2.1.length by omega] at pl2
      have hku : o + 94 ≤ k_cu o (K.2.1.length - 1 - j) ∧ k_cu o (K.2.1.length - 1 - j) + 1 ≤ o + 101 := by unfold k_cu; omega
      rw [hc1]
      refine z_astore_n d_TK_variable_20 rfl (by decide) ?_
      refine z_aload_n d_TK_variable_21 rfl rfl ?_
      refine z_getf (L_TK_64K HG) (by decide) (L_TK_64 HG) d_TK_variable_22 k2 (by rfl) ?_
      refine z_bipush (v := nI 100) d_TK_variable_25 (by decide +kernel) ?_
      refine z_iload_n d_TK_variable_27 rfl rfl ?_
      refine z_iadd d_TK_variable_28 ?_
      rw [nI_add]
      refine z_callV1v (dY := d + 1) d_TK_variable_29 rfl (by omega) (Y_TK_67 HG) r1.1 (cl_Row HG) (Nat.le_of_ble_eq_true rfl) (c_Row_become HG r1 (nI (100 + j))) ?_
      have r1' := rset_at G h' (u + 1) 1 (upd f1 0 (nI (100 + j)))
      have r2' := rset_row (r := u + 1) 1 (upd f1 0 (nI (100 + j))) r2 (by omega) (by omega) (by omega)
      have kA : ∀ y, y < u + 1 ∨ u + 2 < y → (rset G h' (u + 1) 1 (upd f1 0 (nI (100 + j)))).2.2 y = h'.2.2 y := fun y hy => rset_out (by omega)
      have kft1 : k_ft o h' (rset G h' (u + 1) 1 (upd f1 0 (nI (100 + j)))) := k_ft.rset (by omega)
      generalize rset G h' (u + 1) 1 (upd f1 0 (nI (100 + j))) = h1 at r1' r2' kA kft1 ⊢
      refine z_aload_n d_TK_variable_32 rfl rfl ?_
      refine z_getf (L_TK_71K HG) (by decide) (L_TK_71 HG) d_TK_variable_33 ((kA u (by omega)).trans k2) (by rfl) ?_
      refine z_callV0v (dY := d) d_TK_variable_36 rfl (by omega) (Y_TK_88 HG) r2'.1 (cl_Row HG) (Nat.le_of_ble_eq_true rfl) (c_Row_clear HG r2') ?_
      have r2b := rset_at G h1 (u + 3) 0 f2
      have r1b := rset_row (r := u + 3) 0 f2 r1' (by omega) (by omega) (by omega)
      have kB : ∀ y, y < u + 1 ∨ u + 4 < y → (rset G h1 (u + 3) 0 f2).2.2 y = h'.2.2 y := fun y hy => (rset_out (by omega)).trans (kA y (by omega))
      have kft2 : k_ft o h' (rset G h1 (u + 3) 0 f2) := kft1.tr (k_ft.rset (by omega))
      generalize rset G h1 (u + 3) 0 f2 = h2 at r1b r2b kB kft2 ⊢
      have kC : ∀ y, y ≠ o → (y < u ∨ u + 4 < y) → h2.2.2 y = h.2.2 y := fun y y1 y2 => (kB y (by omega)).trans (k3 y y1 (by omega))
      have ho2 := (kB o (by omega)).trans k1
      have hF2 : tkF G h2 o := hF'.keep (fun y hy => kB y (by omega))
      have rc2 : rowAt G h2 (k_cu o (K.2.1.length - 1 - j)) c.length fc := ⟨(kC _ (by omega) (by omega)).trans rc.1, (kC _ (by omega) (by omega)).trans rc.2⟩
      obtain ⟨x, HR⟩ := H.2.2.2.2.2.2.1
      have HR2 := HR.keep (h' := h2) (fun y hy => kC y (by omega) (by omega))
      obtain ⟨a, b, nb, fx, fb, g, fr', hab, hq, -, -, -, hsc, -⟩ := id HR2
      refine z_aload_n d_TK_variable_39 rfl rfl ?_
      refine z_getf (L_TK_41K HG) (by decide) (L_TK_41 HG) d_TK_variable_40 ho2 (by rfl) ?_
      refine z_aload_n d_TK_variable_43 rfl rfl ?_
      refine z_iload_n d_TK_variable_44 rfl rfl ?_
      refine z_callV1r (dY := d) d_TK_variable_45 rfl (by omega) (Y_TK_91 HG) ho2 (cl_TK HG) (Nat.le_of_ble_eq_true rfl) (c_TK_entryAt HG ho2 hF2 l2 hj) ?_
      generalize k_cu o (K.2.1.length - 1 - j) = w at *
      refine z_iconst (v := nI 0) d_TK_variable_48 (by decide) ?_
      refine z_iload_n d_TK_variable_49 rfl rfl ?_
      refine z_iconst (v := nI 1) d_TK_variable_50 (by decide) ?_
      refine z_iadd d_TK_variable_51 ?_
      rw [nI_add]
      refine z_aload_n d_TK_variable_52 rfl rfl ?_
      refine z_getf (L_TK_71K HG) (by decide) (L_TK_71 HG) d_TK_variable_53 ((kB u (by omega)).trans k2) (by rfl) ?_
      refine z_callV4e (dY := d + 1) d_TK_variable_56 rfl (by omega) (Y_TK_95 HG) hq (cl_Rw HG) (Nat.le_of_ble_eq_true rfl) (c2_lift HG ((k4.tr kft2).rm hrm) (k := j + 1) (a := 0) (by omega) hrl (show k_rr (o + 5) (u + 3) by unfold k_rr; omega) (show k_rr (o + 5) w by unfold k_rr; omega) (show k_ne w (u + 3) by unfold k_ne; omega) (by omega) hq hsc rc2 r2b (by omega)) (fun hc2 h3 hh3 => ?_) (fun hc2 h3 hh3 => ?_)
      · obtain ⟨n', g', hh3⟩ := hh3
        rw [List.drop_zero, Nat.zero_add] at hh3
        have kfr : k_fr (o + 5) (u + 3) h2 h3 := by
          subst hh3
          exact (k_fr.wset (Or.inr rfl)).tr k_fr.rset
        have r2c : rowAt G h3 (u + 3) (p_lift (j + 1) [0] c).length (k_app f2 0 (p_lift (j + 1) [0] c)) := by
          subst hh3
          exact rset_at ..
        have hs3 : k_sc G (o + 5) h3 := by
          subst hh3
          exact hsc.w9.rset (by unfold k_rr; omega)
        have r1c : rowAt G h3 (u + 1) 1 (upd f1 0 (nI (100 + j))) := kfr.row (by unfold k_rr; omega) (by unfold k_ne; omega) r1b
        have kD : ∀ y, y < o + 12 ∨ o + 15 < y → y ≠ u + 3 → y ≠ u + 4 → h3.2.2 y = h2.2.2 y := fun y y1 y2 y3 => kfr.2.2 y (by omega) y2 (by omega)
        have HR3 := HR2.kfr (show k_out (o + 5) (u + 3) by unfold k_out; omega) kfr hs3
        have kE : ∀ y, y ≠ o → (y < u ∨ u + 4 < y) → y < o + 12 ∨ o + 15 < y → h3.2.2 y = h.2.2 y := fun y y1 y2 y3 => (kD y y3 (by omega) (by omega)).trans (kC y y1 y2)
        obtain ⟨b1, -, b3, b4, b5, b6, -, b8⟩ := H
        refine z_return d_TK_variable_59 rfl ⟨rfl, ⟨b1.keep (fun y hy => kE y (by omega) (by omega) (by omega)), (kD o (by omega) (by omega) (by omega)).trans ho2, b3.push (by omega) (fun y y1 y2 => kE y (by omega) (by omega) (by omega)) ?_, b4.keep (fun y hy => kE y (by omega) (by omega) (by omega)), b5.keep (kE _ (by omega) (by omega) (by omega)) (fun y hy => kE y (by omega) (by omega) (by omega)), b6.keep (fun y hy => kE y (by omega) (by omega) (by omega)), ⟨x, HR3⟩, b8.keep (fun y hy => kE y (by omega) (by omega) (by omega))⟩, k4.tr (kft2.tr ⟨kfr.1, kfr.2.1, fun y hy => kD y (by omega) (by omega) (by omega)⟩)⟩
        rw [hue]
        exact ⟨⟨_, (kD u (by omega) (by omega) (by omega)).trans ((kB u (by omega)).trans k2), fun J e => by cases e; rfl⟩, rowL.mk r1c (rl_one (by omega)), rowL.mk r2c (p_wf_rl pl2 l2 (by omega))⟩
      · rw [List.drop_zero] at hc2
        omega
    · simp only []
      rw [if_pos (Classical.not_not.mp hc)]
      exact ⟨rfl, h, hh, H, k_ft.rf⟩
/-- the counts alone have changed -/
theorem KAt.cnt {h' : z_H} {js : List pJ} {cs : List (List Nat)} (H : KAt G h o K) (hj : jsAt G h o js) (hc : csAt G h o cs) (k : ∀ y, y ≠ o → h'.2.2 y = h.2.2 y) (ho : h'.2.2 o = some (k_tk o js.length cs.length K.2.2.1.length)) : KAt G h' o (js, cs, K.2.2) := by
  obtain ⟨h1, -, h3, h4, h5, h6, ⟨x, h7⟩, h8⟩ := H
  exact ⟨h1.keep (fun y hy => k y (by omega)), ho, hj.keep (fun y hy => k y (by omega)), hc.keep (fun y hy => k y (by omega)), h5.keep (k _ (by omega)) (fun y hy => k y (by omega)), h6.keep (fun y hy => k y (by omega)), ⟨x, h7.keep (fun y hy => k y (by omega))⟩, h8.keep (fun y hy => k y (by omega))⟩
def k_drop (K : pK) : String ⊕ (Option Value × pK) := match K.1 with
  | [] => .inr (some (.int (nI 0)), K)
  | _ :: js => .inr (some (.int (nI 1)), (js, K.2))
theorem c_TK_drop (HG : z_ok G) (H : KAt G h o K) : z_C G m_TK_drop d [.ref o] h (tk_post G o K h (k_drop K)) := by
  obtain ⟨l1, l2, l3⟩ := H.len
  refine z_C.of (Nat.le_of_ble_eq_true rfl) ?_
  refine z_aload_n d_TK_drop_0 rfl rfl ?_
  refine z_getf (L_TK_15K HG) (by decide) (L_TK_15 HG) d_TK_drop_1 H.2.1 (by rfl) ?_
  obtain ⟨js, K2⟩ := K
  cases js with
  | nil =>
    refine z_if_ne (tgt := 9) d_TK_drop_4 rfl (fun c1 => absurd nI_0 c1) (fun c1 => ?_)
    refine z_iconst (v := nI 0) d_TK_drop_7 (by decide) ?_
    exact z_ireturn d_TK_drop_8 rfl rfl ⟨rfl, H, k_ft.rf⟩
  | cons J js =>
    rw [List.length_cons] at l1
    refine z_if_ne (tgt := 9) d_TK_drop_4 rfl (fun c1 => ?_) (fun c1 => absurd c1 (nI_ne0 (by simp) (by simp; omega)))
    refine z_aload_n d_TK_drop_9 rfl rfl ?_
    refine z_dup d_TK_drop_10 rfl ?_
    refine z_getf (L_TK_15K HG) (by decide) (L_TK_15 HG) d_TK_drop_11 H.2.1 (by rfl) ?_
    refine z_iconst (v := nI 1) d_TK_drop_14 (by decide) ?_
    refine z_isub d_TK_drop_15 ?_
    rw [pk_sub (by simp)]
    refine z_putf (L_TK_15K HG) (by decide) (L_TK_15 HG) rfl d_TK_drop_16 H.2.1 rfl rfl (Nat.le_of_ble_eq_true rfl) ?_
    refine z_iconst (v := nI 1) d_TK_drop_19 (by decide) ?_
    exact z_ireturn d_TK_drop_20 rfl rfl ⟨rfl, H.cnt H.2.2.1.pop H.2.2.2.1 (fun y hy => z_set_ne h _ hy) (z_set_at ..), k_ft.set _ (by omega)⟩
def k_leave (K : pK) : String ⊕ (Option Value × pK) := match K.2.1 with
  | [] => .inr (some (.int (nI 0)), K)
  | _ :: cs => if p_cnt K.1 K.2.1.length = 0 then .inr (some (.int (nI 1)), (K.1, cs, K.2.2)) else .inr (some (.int (nI 0)), K)
theorem c_TK_leave (HG : z_ok G) (H : KAt G h o K) (P : pok K) : z_C G m_TK_leave (d + 1) [.ref o] h (tk_post G o K h (k_leave K)) := by
  obtain ⟨l1, l2, l3⟩ := H.len
  refine z_C.of (Nat.le_of_ble_eq_true rfl) ?_
  refine z_aload_n d_TK_leave_0 rfl rfl ?_
  refine z_getf (L_TK_25K HG) (by decide) (L_TK_25 HG) d_TK_leave_1 H.2.1 (by rfl) ?_
  obtain ⟨js, cs, K2⟩ := K
  cases cs with
  | nil =>
    refine z_if_eq (tgt := 14) d_TK_leave_4 rfl (fun c1 => ?_) (fun c1 => absurd nI_0 c1)
    refine z_iconst (v := nI 0) d_TK_leave_14 (by decide) ?_
    exact z_ireturn d_TK_leave_15 rfl rfl ⟨rfl, H, k_ft.rf⟩
  | cons c cs =>
    have l2' : cs.length + 1 ≤ 4 := l2
    have hcl : p_cnt js (c :: cs).length ≤ 6 := Nat.le_trans List.countP_le_length l1
    refine z_if_eq (tgt := 14) d_TK_leave_4 rfl (fun c1 => absurd c1 (nI_ne0 (by simp) (by simp; omega))) (fun c1 => ?_)
    refine z_aload_n d_TK_leave_7 rfl rfl ?_
    refine z_callV0r (dY := d) d_TK_leave_8 rfl (by omega) (Y_TK_169 HG) H.2.1 (cl_TK HG) (Nat.le_of_ble_eq_true rfl) (c_TK_presentCount HG H.2.1 H.1 H.2.2.1 (pok.e4 H P) l2) ?_
    show z_V G m_TK_leave (d + 1) 11 _ _ h (tk_post G o (js, c :: cs, K2) h (if p_cnt js (c :: cs).length = 0 then .inr (some (.int (nI 1)), (js, cs, K2)) else .inr (some (.int (nI 0)), (js, c :: cs, K2))))
    show z_V G m_TK_leave (d + 1) 11 _ (.int (nI (p_cnt js (c :: cs).length)) :: _) h _
    generalize p_cnt js (c :: cs).length = m at *
    refine z_if_le (tgt := 16) d_TK_leave_11 rfl (fun c2 => ?_) (fun c2 => ?_)
    · rw [← nI_0, nI_leI (by omega) (by omega)] at c2
      rw [if_pos (by omega)]
      refine z_aload_n d_TK_leave_16 rfl rfl ?_
      refine z_dup d_TK_leave_17 rfl ?_
      refine z_getf (L_TK_25K HG) (by decide) (L_TK_25 HG) d_TK_leave_18 H.2.1 (by rfl) ?_
      refine z_iconst (v := nI 1) d_TK_leave_21 (by decide) ?_
      refine z_isub d_TK_leave_22 ?_
      rw [pk_sub (by simp)]
      refine z_putf (L_TK_25K HG) (by decide) (L_TK_25 HG) rfl d_TK_leave_23 H.2.1 rfl rfl (Nat.le_of_ble_eq_true rfl) ?_
      refine z_iconst (v := nI 1) d_TK_leave_26 (by decide) ?_
      exact z_ireturn d_TK_leave_27 rfl rfl ⟨rfl, H.cnt H.2.2.1 H.2.2.2.1.pop (fun y hy => z_set_ne h _ hy) (z_set_at ..), k_ft.set _ (by omega)⟩
    · rw [← nI_0, nI_leI (by omega) (by omega)] at c2
      rw [if_neg (by omega)]
      refine z_iconst (v := nI 0) d_TK_leave_14 (by decide) ?_
      exact z_ireturn d_TK_leave_15 rfl rfl ⟨rfl, H, k_ft.rf⟩
end KV
