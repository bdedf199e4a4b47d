/-! the reference: binds, lambda, product, declare -/
section MI
variable {G : z_G} {h : z_H} {q d n r : Nat} {s s' : Nat → Int32} {A A1 A2 A3 A4 : Nat → Nat → Int32} {K : pK} {t y c : List Nat}
/-- what is bound, if it isn't too long -/
def m_bd (wh : Nat) (c t : List Nat) (s : Nat → Int32) (A : Nat → Nat → Int32) : Option Value → (Nat → Int32) → (Nat → Nat → Int32) → Prop := fun o s' A' => o = some (.int (if 1 + c.length + t.length ≤ 40 then nI 1 else nI 0)) ∧ m_sq4 s s' ∧ s' 0 = s 0 ∧ m_sx A A' ∧ (1 + c.length + t.length ≤ 40 → mrow A' 41 (wh :: (c ++ t)))
theorem c_Md_binds (HG : z_ok G) {wh ne : Nat} (hwh : wh < 1000) (hne : ne < 4) (hr : r < 40) (h5 : s 5 = nI (ne + 1)) (hc : mrow A (12 + ne) c) (ht : mrow A r t) : z_C G m_Md_binds (d + 2) [.ref q, .int (nI wh), .int (nI r)] (md G h q s A) (m_post G h q (m_bd wh c t s A)) := by
  refine z_C.of (Nat.le_of_ble_eq_true rfl) ?_
  refine z_aload_n d_Md_binds_0 rfl rfl ?_
  refine z_iconst (v := nI 0) d_Md_binds_1 (by decide) ?_
  refine z_mp HG d_Md_binds_2 (L_Md_45 HG) (by decide) rfl rfl rfl rfl ?_
  refine z_aload_n d_Md_binds_5 rfl rfl ?_
  refine z_mg HG d_Md_binds_6 (L_Md_13 HG) (by decide) rfl ?_
  refine z_bipush (v := nI 41) d_Md_binds_9 (by decide +kernel) ?_
  refine z_iconst (v := nI 0) d_Md_binds_11 (by decide) ?_
  refine z_ms HG 2 d_Md_binds_12 (by decide) (show _ < 43 by omega) ?_
  have h50 : va_up s 10 (nI 0) 5 = nI (ne + 1) := (va_up_ne _ _ (by decide)).trans h5
  have h10 : va_up s 10 (nI 0) 10 = nI 0 := va_up_self _ _ _
  have h00 : va_up s 10 (nI 0) 0 = s 0 := va_up_ne _ _ (by decide)
  have q40 : m_sq4 s (va_up s 10 (nI 0)) := m_sq4.up10
  generalize va_up s 10 (nI 0) = s0 at h50 h10 h00 q40 ⊢
  have z0 := m_wr.zero A 41
  generalize va_up A 2 (upd (A 2) 41 (nI 0)) = A0 at z0 ⊢
  refine z_aload_n d_Md_binds_13 rfl rfl ?_
  refine z_bipush (v := nI 41) d_Md_binds_14 (by decide +kernel) ?_
  refine z_iload_n d_Md_binds_16 rfl rfl ?_
  refine z_mc (as := [.int (nI 41), .int (nI wh)]) (dY := d) HG d_Md_binds_17 rfl (by omega) (Y_Md_53 HG) rfl rfl (Nat.le_of_ble_eq_true rfl) (c_Md_add HG (by omega) z0.row hwh) (fun v1 s1 A1 hp1 => ?_)
  obtain ⟨rfl, hp1⟩ := hp1
  have c1 := hp1.keep (r' := 12 + ne) (by omega) (z0.keep (by omega) hc)
  have t1 := hp1.keep (r' := r) (by omega) (z0.keep (by omega) ht)
  refine z_aload_n d_Md_binds_20 rfl rfl ?_
  refine z_bipush (v := nI 41) d_Md_binds_21 (by decide +kernel) ?_
  refine z_bipush (v := nI 12) d_Md_binds_23 (by decide +kernel) ?_
  refine z_aload_n d_Md_binds_25 rfl rfl ?_
  refine z_mg HG d_Md_binds_26 (L_Md_104 HG) (by decide) rfl ?_
  refine z_eqi ((congrFun hp1.1 5).trans ((m_tl_ne _ _ (by decide)).trans h50)) ?_
  refine z_iadd d_Md_binds_29 ?_
  refine z_eqi (nI_add _ _) ?_
  refine z_iconst (v := nI 1) d_Md_binds_30 (by decide) ?_
  refine z_isub d_Md_binds_31 ?_
  refine z_eqi ((pk_sub (by omega)).trans (pk_bump (show _ = 12 + ne by omega))) ?_
  refine z_mc (as := [.int (nI 41), .int (nI (12 + ne))]) (dY := d + 1) HG d_Md_binds_32 rfl (by omega) (Y_Md_57 HG) rfl rfl (Nat.le_of_ble_eq_true rfl) (c_Md_addRow HG (by omega) (by omega) (by omega) hp1.row c1) (fun v2 s2 A2 hp2 => ?_)
  obtain ⟨rfl, hp2⟩ := hp2
  refine z_aload_n d_Md_binds_35 rfl rfl ?_
  refine z_bipush (v := nI 41) d_Md_binds_36 (by decide +kernel) ?_
  refine z_iload_n d_Md_binds_38 rfl rfl ?_
  refine z_mc (as := [.int (nI 41), .int (nI r)]) (dY := d + 1) HG d_Md_binds_39 rfl (by omega) (Y_Md_57 HG) rfl rfl (Nat.le_of_ble_eq_true rfl) (c_Md_addRow HG (by omega) (by omega) (by omega) hp2.row (hp2.keep (by omega) t1)) (fun v3 s3 A3 hp3 => ?_)
  obtain ⟨rfl, hp3⟩ := hp3
  have all := (hp1.tr (by decide) hp2).tr (by decide) hp3
  have eL : ([] : List Nat).length + (([wh] ++ c) ++ t).length = 1 + c.length + t.length := by
    simp only [List.length_append, List.length_cons, List.length_nil]
    omega
  have e10 : s3 10 = if 40 < 1 + c.length + t.length then nI 1 else nI 0 := by
    rw [all.1, eL]
    unfold m_tl
    by_cases hh : 40 < 1 + c.length + t.length
    · rw [if_pos (decide_eq_true hh), if_pos hh]
      exact va_up_self _ _ _
    · rw [if_neg (by rw [decide_eq_false hh]; decide), if_neg hh]
      exact h10
  have q4 : m_sq4 s s3 := by
    rw [all.1]
    exact q40.tr m_sq4.tl
  have q0 : s3 0 = s 0 := by
    rw [all.1, m_tl_ne _ _ (by decide)]
    exact h00
  have sx : m_sx A A3 := (z0.sx (Or.inr rfl)).tr all.ax.2.1
  have rw41 : 1 + c.length + t.length ≤ 40 → mrow A3 41 (wh :: (c ++ t)) := by
    intro hh
    have e := all.row
    rw [l_t40 (by rw [List.nil_append]; simp only [List.length_append, List.length_cons, List.length_nil]; omega)] at e
    exact e
  refine z_aload_n d_Md_binds_42 rfl rfl ?_
  refine z_mg HG d_Md_binds_43 (L_Md_45 HG) (by decide) rfl ?_
  refine z_eqi e10 ?_
  refine z_if_ne (tgt := 53) d_Md_binds_46 rfl (fun c46 => ?_) (fun c46 => ?_)
  · have c46 := b_ne c46
    rw [show (m_bd wh c t s A) = (fun o s' A' => o = some (.int (if 1 + c.length + t.length ≤ 40 then nI 1 else nI 0)) ∧ m_sq4 s s' ∧ s' 0 = s 0 ∧ m_sx A A' ∧ (1 + c.length + t.length ≤ 40 → mrow A' 41 (wh :: (c ++ t)))) from rfl, if_neg (show ¬ 1 + c.length + t.length ≤ 40 by omega)]
    refine z_iconst (v := nI 0) d_Md_binds_53 (by decide) ?_
    exact z_ireturn d_Md_binds_54 rfl rfl ⟨_, _, _, rfl, rfl, rfl, q4, q0, sx, rw41⟩
  · have c46 := b_eq c46
    rw [show (m_bd wh c t s A) = (fun o s' A' => o = some (.int (if 1 + c.length + t.length ≤ 40 then nI 1 else nI 0)) ∧ m_sq4 s s' ∧ s' 0 = s 0 ∧ m_sx A A' ∧ (1 + c.length + t.length ≤ 40 → mrow A' 41 (wh :: (c ++ t)))) from rfl, if_pos (show 1 + c.length + t.length ≤ 40 by omega)]
    refine z_iconst (v := nI 1) d_Md_binds_49 (by decide) ?_
    refine z_goto (tgt := 54) d_Md_binds_50 rfl ?_
    exact z_ireturn d_Md_binds_54 rfl rfl ⟨_, _, _, rfl, rfl, rfl, q4, q0, sx, rw41⟩
theorem c_Md_close (HG : z_ok G) {ne : Nat} (hn : n < 6) (hne : ne < 4) (h3 : s 3 = nI (n + 1)) (h5 : s 5 = nI (ne + 1)) : z_C G m_Md_close d [.ref q] (md G h q s A) (m_post G h q (fun o s' A' => o = none ∧ s' = va_up s 5 (nI ne) ∧ A' = va_up A 3 (upd (A 3) n (nI ne)))) := by
  refine z_C.of (Nat.le_of_ble_eq_true rfl) ?_
  refine z_aload_n d_Md_close_0 rfl rfl ?_
  refine z_dup d_Md_close_1 rfl ?_
  refine z_mg HG d_Md_close_2 (L_Md_104 HG) (by decide) rfl ?_
  refine z_eqi h5 ?_
  refine z_iconst (v := nI 1) d_Md_close_5 (by decide) ?_
  refine z_isub d_Md_close_6 ?_
  refine z_eqi ((pk_sub (by omega)).trans (pk_bump (show _ = ne by omega))) ?_
  refine z_mp HG d_Md_close_7 (L_Md_104 HG) (by decide) rfl rfl rfl rfl ?_
  refine z_aload_n d_Md_close_10 rfl rfl ?_
  refine z_mg HG d_Md_close_11 (L_Md_16 HG) (by decide) rfl ?_
  refine z_aload_n d_Md_close_14 rfl rfl ?_
  refine z_mg HG d_Md_close_15 (L_Md_107 HG) (by decide) rfl ?_
  refine z_eqi ((va_up_ne _ _ (by decide)).trans h3) ?_
  refine z_iconst (v := nI 1) d_Md_close_18 (by decide) ?_
  refine z_isub d_Md_close_19 ?_
  refine z_eqi ((pk_sub (by omega)).trans (pk_bump (show _ = n by omega))) ?_
  refine z_aload_n d_Md_close_20 rfl rfl ?_
  refine z_mg HG d_Md_close_21 (L_Md_104 HG) (by decide) rfl ?_
  refine z_eqi (va_up_self _ _ _) ?_
  refine z_ms HG 3 d_Md_close_24 (by decide) (show _ < 6 by omega) ?_
  exact z_return d_Md_close_25 rfl ⟨_, _, _, rfl, rfl, rfl, rfl, rfl⟩
/-- may the latest entry be bound -/
def p_cb (K : pK) : Bool := match K.1, K.2.1 with
  | J :: js, _ :: cs => decide (J.1 = cs.length + 1) && decide (p_cnt js (cs.length + 1) = 0)
  | _, _ => false
theorem p_cb_iff {J : pJ} {js : List pJ} {c : List Nat} {cs : List (List Nat)} {K2 : List (List Nat × Bool) × List pR} : p_cb (J :: js, c :: cs, K2) = true ↔ (J.1 = cs.length + 1 ∧ p_cnt (J :: js) (cs.length + 1) ≤ 1) := by
  show (decide (J.1 = cs.length + 1) && decide (p_cnt js (cs.length + 1) = 0)) = true ↔ _
  rw [Bool.and_eq_true, decide_eq_true_iff, decide_eq_true_iff, p_cnt_cons]
  constructor
  · rintro ⟨h1, h2⟩
    rw [if_pos h1, h2]
    exact ⟨h1, Nat.le_refl _⟩
  · rintro ⟨h1, h2⟩
    rw [if_pos h1] at h2
    exact ⟨h1, by omega⟩
theorem c_Md_canBind (HG : z_ok G) (H : mK K s A) (Pk : pok K) : z_C G m_Md_canBind (d + 2) [.ref q] (md G h q s A) (z_rq (some (.int (if p_cb K = true then nI 1 else nI 0))) (md G h q s A)) := by
  refine z_C.of (Nat.le_of_ble_eq_true rfl) ?_
  have hal := c_Md_alone (d := d) (q := q) (h := h) HG H Pk
  obtain ⟨js, cs, K2⟩ := K
  have h6 : js.length ≤ 6 := H.2.1.1
  have h4 : cs.length ≤ 4 := H.2.1.2.1
  have h3 : s 3 = nI js.length := H.1.1
  have h5 : s 5 = nI cs.length := H.1.2.1
  cases cs with
  | nil =>
    have h5 : s 5 = nI 0 := h5
    rw [if_neg (show ¬ p_cb (js, [], K2) = true by cases js <;> (intro hh; cases hh))]
    refine z_aload_n d_Md_canBind_0 rfl rfl ?_
    refine z_mg HG d_Md_canBind_1 (L_Md_104 HG) (by decide) rfl ?_
    refine z_eqi h5 ?_
    refine z_if_le (tgt := 31) d_Md_canBind_4 rfl (fun c4 => ?_) (fun c4 => ?_)
    · rw [← nI_0, nI_leI (by omega) (by omega)] at c4
      refine z_iconst (v := nI 0) d_Md_canBind_31 (by decide) ?_
      exact z_ireturn d_Md_canBind_32 rfl rfl ⟨rfl, rfl⟩
    · rw [← nI_0, nI_leI (by omega) (by omega)] at c4
      omega
  | cons c cs =>
    have h5 : s 5 = nI (cs.length + 1) := h5
    rw [List.length_cons] at h4
    cases js with
    | nil =>
      have h3 : s 3 = nI 0 := h3
      rw [if_neg (show ¬ p_cb ([], c :: cs, K2) = true by intro hh; cases hh)]
      refine z_aload_n d_Md_canBind_0 rfl rfl ?_
      refine z_mg HG d_Md_canBind_1 (L_Md_104 HG) (by decide) rfl ?_
      refine z_eqi h5 ?_
      refine z_if_le (tgt := 31) d_Md_canBind_4 rfl (fun c4 => ?_) (fun c4 => ?_)
      · rw [← nI_0, nI_leI (by omega) (by omega)] at c4
        omega
      · rw [← nI_0, nI_leI (by omega) (by omega)] at c4
        refine z_aload_n d_Md_canBind_7 rfl rfl ?_
        refine z_aload_n d_Md_canBind_8 rfl rfl ?_
        refine z_mg HG d_Md_canBind_9 (L_Md_107 HG) (by decide) rfl ?_
        refine z_eqi h3 ?_
        refine z_iconst (v := nI 1) d_Md_canBind_12 (by decide) ?_
        refine z_isub d_Md_canBind_13 ?_
        refine z_eqi (show nI 0 - nI 1 = -1 by decide) ?_
        refine z_mr (as := [.int ((-1))]) (dY := d) HG d_Md_canBind_14 rfl (by omega) (Y_Md_110 HG) rfl rfl (Nat.le_of_ble_eq_true rfl) (c_Md_presentN HG) ?_
        refine z_if_eq (tgt := 31) d_Md_canBind_17 rfl (fun c17 => ?_) (fun c17 => ?_)
        · rw [← nI_0, nI_eq (by omega) (by omega)] at c17
          refine z_iconst (v := nI 0) d_Md_canBind_31 (by decide) ?_
          exact z_ireturn d_Md_canBind_32 rfl rfl ⟨rfl, rfl⟩
        · rw [← nI_0, nI_eq (by omega) (by omega)] at c17
          omega
    | cons J js =>
      have h3 : s 3 = nI (js.length + 1) := h3
      rw [List.length_cons] at h6
      obtain ⟨hJ1, hJ2⟩ := H.cell Pk (k := js.length) (J := J) l_rt
      have hcb : p_cb (J :: js, c :: cs, K2) = (decide (J.1 = cs.length + 1) && decide (p_cnt js (cs.length + 1) = 0)) := rfl
      refine z_aload_n d_Md_canBind_0 rfl rfl ?_
      refine z_mg HG d_Md_canBind_1 (L_Md_104 HG) (by decide) rfl ?_
      refine z_eqi h5 ?_
      refine z_if_le (tgt := 31) d_Md_canBind_4 rfl (fun c4 => ?_) (fun c4 => ?_)
      · rw [← nI_0, nI_leI (by omega) (by omega)] at c4
        omega
      · rw [← nI_0, nI_leI (by omega) (by omega)] at c4
        refine z_aload_n d_Md_canBind_7 rfl rfl ?_
        refine z_aload_n d_Md_canBind_8 rfl rfl ?_
        refine z_mg HG d_Md_canBind_9 (L_Md_107 HG) (by decide) rfl ?_
        refine z_eqi h3 ?_
        refine z_iconst (v := nI 1) d_Md_canBind_12 (by decide) ?_
        refine z_isub d_Md_canBind_13 ?_
        refine z_eqi ((pk_sub (by omega)).trans (pk_bump (show _ = js.length by omega))) ?_
        refine z_mr (as := [.int (nI js.length)]) (dY := d) HG d_Md_canBind_14 rfl (by omega) (Y_Md_110 HG) rfl rfl (Nat.le_of_ble_eq_true rfl) (c_Md_present HG (by omega) (by omega) (by omega) hJ1 h5) ?_
        refine z_if_eq (tgt := 31) d_Md_canBind_17 rfl (fun c17 => ?_) (fun c17 => ?_)
        · have c17 := b_eq c17
          rw [if_neg (show ¬ p_cb (J :: js, c :: cs, K2) = true by rw [hcb, Bool.and_eq_true, decide_eq_true_iff, decide_eq_true_iff]; exact fun hh => c17 hh.1)]
          refine z_iconst (v := nI 0) d_Md_canBind_31 (by decide) ?_
          exact z_ireturn d_Md_canBind_32 rfl rfl ⟨rfl, rfl⟩
        · have c17 := b_ne c17
          refine z_aload_n d_Md_canBind_20 rfl rfl ?_
          refine z_mr (as := []) (dY := d + 1) HG d_Md_canBind_21 rfl (by omega) (Y_Md_132 HG) rfl rfl (Nat.le_of_ble_eq_true rfl) hal ?_
          refine z_if_eq (tgt := 31) d_Md_canBind_24 rfl (fun c24 => ?_) (fun c24 => ?_)
          · have c24 := b_eq c24
            rw [if_neg (show ¬ p_cb (J :: js, c :: cs, K2) = true by rw [hcb, Bool.and_eq_true, decide_eq_true_iff, decide_eq_true_iff]; exact fun hh => c24 hh.2)]
            refine z_iconst (v := nI 0) d_Md_canBind_31 (by decide) ?_
            exact z_ireturn d_Md_canBind_32 rfl rfl ⟨rfl, rfl⟩
          · have c24 := b_ne c24
            rw [if_pos (show p_cb (J :: js, c :: cs, K2) = true by rw [hcb, Bool.and_eq_true, decide_eq_true_iff, decide_eq_true_iff]; exact ⟨c17, c24⟩)]
            refine z_iconst (v := nI 1) d_Md_canBind_27 (by decide) ?_
            refine z_goto (tgt := 32) d_Md_canBind_28 rfl ?_
            exact z_ireturn d_Md_canBind_32 rfl rfl ⟨rfl, rfl⟩
theorem mK.bound {J : pJ} {js : List pJ} {cs : List (List Nat)} {K2 : List (List Nat × Bool) × List pR} {B : Nat → Nat → Int32} (H : mK (J :: js, c :: cs, K2) s A) (kf : ∀ r, r < 40 → r ≠ js.length → r ≠ 6 + js.length → m_same A B r) (k3 : B 3 = A 3) (k4 : B 4 = A 4) (k5 : B 5 = A 5) (hT : mrow B js.length t) (hY : mrow B (6 + js.length) y) (q4 : m_sq4 s s') : mK ((cs.length, t, y) :: js, cs, K2) (va_up s' 5 (nI cs.length)) (va_up B 3 (upd (B 3) js.length (nI cs.length))) := by
  have h6 : js.length + 1 ≤ 6 := H.2.1.1
  have h3 : s 3 = nI (js.length + 1) := H.1.1
  have H0 := (H.pop (s' := va_up s 3 (nI js.length)) rfl rfl rfl rfl).cpop (s' := va_up (va_up s 3 (nI js.length)) 5 (nI cs.length)) rfl rfl rfl rfl
  have e1 : ∀ k, k ≠ 3 → va_up B 3 (upd (B 3) js.length (nI cs.length)) k = B k := fun k hk => va_up_ne _ _ hk
  refine mK.push (J := (cs.length, t, y)) (K := (js, cs, K2)) (n := js.length) H0 rfl h6 ?_ rfl ?_ ?_ (fun r r1 r2 r3 => ?_) (fun j hj => ?_) ?_ ?_ ?_ ?_ ?_
  · exact (va_up_ne _ _ (by decide)).trans (q4.1.trans h3)
  · exact (va_up_ne _ _ (by decide)).trans q4.2.2.1
  · exact (va_up_ne _ _ (by decide)).trans q4.2.2.2
  · exact (kf r r1 r2 r3).tr (m_same.eqv (e1 1 (by decide)) (e1 2 (by decide)))
  · rw [va_up_self, k3]
    exact if_neg hj
  · rw [e1 4 (by decide), k4]
  · rw [e1 5 (by decide), k5]
  · rw [va_up_self]
    exact if_pos rfl
  · exact hT.eqv (e1 1 (by decide)) (e1 2 (by decide))
  · exact hY.eqv (e1 1 (by decide)) (e1 2 (by decide))
theorem c_Md_lambda (HG : z_ok G) (H : mK K s A) (Pk : pok K) : z_C G m_Md_lambda (d + 3) [.ref q] (md G h q s A) (m_post G h q (m_outv (m_cd [z_ISE, z_IAE, z_AE]) K (k_lambda K))) := by
  refine z_C.of (Nat.le_of_ble_eq_true rfl) ?_
  have hcb := c_Md_canBind (d := d) (q := q) (h := h) HG H Pk
  obtain ⟨js, cs, K2⟩ := K
  have h6 : js.length ≤ 6 := H.2.1.1
  have h4 : cs.length ≤ 4 := H.2.1.2.1
  have h3 : s 3 = nI js.length := H.1.1
  have h5 : s 5 = nI cs.length := H.1.2.1
  cases js with
  | nil =>
    have h3 : s 3 = nI 0 := h3
    rw [show k_lambda ([], cs, K2) = .inl z_ISE from rfl]
    rw [if_neg (show ¬ p_cb ([], cs, K2) = true by intro hh; cases hh)] at hcb
    refine z_aload_n d_Md_lambda_0 rfl rfl ?_
    refine z_mg HG d_Md_lambda_1 (L_Md_107 HG) (by decide) rfl ?_
    refine z_eqi h3 ?_
    refine z_iconst (v := nI 1) d_Md_lambda_4 (by decide) ?_
    refine z_isub d_Md_lambda_5 ?_
    refine z_eqi (show nI 0 - nI 1 = -1 by decide) ?_
    refine z_istore_n d_Md_lambda_6 rfl (by decide) ?_
    refine z_aload_n d_Md_lambda_7 rfl rfl ?_
    refine z_aload_n d_Md_lambda_8 rfl rfl ?_
    refine z_mr (as := []) (dY := d + 2) HG d_Md_lambda_9 rfl (by omega) (Y_Md_135 HG) rfl rfl (Nat.le_of_ble_eq_true rfl) hcb ?_
    refine z_if_ne (tgt := 19) d_Md_lambda_12 rfl (fun c12 => ?_) (fun c12 => ?_)
    · rw [← nI_0, nI_eq (by omega) (by omega)] at c12
      omega
    · rw [← nI_0, nI_eq (by omega) (by omega)] at c12
      refine z_iconst (v := nI 1) d_Md_lambda_15 (by decide) ?_
      refine z_goto (tgt := 63) d_Md_lambda_16 rfl ?_
      refine z_mp HG d_Md_lambda_63 (L_Md_41 HG) (by decide) rfl rfl rfl rfl ?_
      refine z_aload_n d_Md_lambda_66 rfl rfl ?_
      refine z_mg HG d_Md_lambda_67 (L_Md_41 HG) (by decide) rfl ?_
      refine z_eqi (va_up_self _ _ _) ?_
      refine z_if_ne (tgt := 105) d_Md_lambda_70 rfl (fun c70 => ?_) (fun c70 => ?_)
      · rw [← nI_0, nI_eq (by omega) (by omega)] at c70
        exact z_return d_Md_lambda_105 rfl ⟨_, _, _, rfl, rfl, rfl, (va_up_self _ _ _).trans (by rw [show m_cd [z_ISE, z_IAE, z_AE] z_ISE = 1 by decide +kernel]), H.sc m_s3.rf m_sq4.up0⟩
      · rw [← nI_0, nI_eq (by omega) (by omega)] at c70
        omega
  | cons J js =>
    have h3 : s 3 = nI (js.length + 1) := h3
    rw [List.length_cons] at h6
    obtain ⟨-, hT, hY⟩ := H.top
    have hT40 := hT.len
    have hY40 := hY.len
    cases cs with
    | nil =>
      rw [show k_lambda (J :: js, [], K2) = .inl z_ISE from rfl]
      rw [if_neg (show ¬ p_cb (J :: js, [], K2) = true by intro hh; cases hh)] at hcb
      refine z_aload_n d_Md_lambda_0 rfl rfl ?_
      refine z_mg HG d_Md_lambda_1 (L_Md_107 HG) (by decide) rfl ?_
      refine z_eqi h3 ?_
      refine z_iconst (v := nI 1) d_Md_lambda_4 (by decide) ?_
      refine z_isub d_Md_lambda_5 ?_
      refine z_eqi ((pk_sub (by omega)).trans (pk_bump (show _ = js.length by omega))) ?_
      refine z_istore_n d_Md_lambda_6 rfl (by decide) ?_
      refine z_aload_n d_Md_lambda_7 rfl rfl ?_
      refine z_aload_n d_Md_lambda_8 rfl rfl ?_
      refine z_mr (as := []) (dY := d + 2) HG d_Md_lambda_9 rfl (by omega) (Y_Md_135 HG) rfl rfl (Nat.le_of_ble_eq_true rfl) hcb ?_
      refine z_if_ne (tgt := 19) d_Md_lambda_12 rfl (fun c12 => ?_) (fun c12 => ?_)
      · rw [← nI_0, nI_eq (by omega) (by omega)] at c12
        omega
      · rw [← nI_0, nI_eq (by omega) (by omega)] at c12
        refine z_iconst (v := nI 1) d_Md_lambda_15 (by decide) ?_
        refine z_goto (tgt := 63) d_Md_lambda_16 rfl ?_
        refine z_mp HG d_Md_lambda_63 (L_Md_41 HG) (by decide) rfl rfl rfl rfl ?_
        refine z_aload_n d_Md_lambda_66 rfl rfl ?_
        refine z_mg HG d_Md_lambda_67 (L_Md_41 HG) (by decide) rfl ?_
        refine z_eqi (va_up_self _ _ _) ?_
        refine z_if_ne (tgt := 105) d_Md_lambda_70 rfl (fun c70 => ?_) (fun c70 => ?_)
        · rw [← nI_0, nI_eq (by omega) (by omega)] at c70
          exact z_return d_Md_lambda_105 rfl ⟨_, _, _, rfl, rfl, rfl, (va_up_self _ _ _).trans (by rw [show m_cd [z_ISE, z_IAE, z_AE] z_ISE = 1 by decide +kernel]), H.sc m_s3.rf m_sq4.up0⟩
        · rw [← nI_0, nI_eq (by omega) (by omega)] at c70
          omega
    | cons c cs =>
      have h5 : s 5 = nI (cs.length + 1) := h5
      rw [List.length_cons] at h4
      have hC : mrow A (12 + cs.length) c := H.2.2.2.1 cs.length c l_rt
      have hC40 := hC.len
      show z_V _ _ _ _ _ _ _ (m_post G h q (m_outv (m_cd [z_ISE, z_IAE, z_AE]) (J :: js, c :: cs, K2) (if J.1 = cs.length + 1 ∧ p_cnt (J :: js) (cs.length + 1) ≤ 1 then (if J.2.2 = [1] then .inl z_IAE else if 1 + c.length + J.2.1.length ≤ 40 ∧ 1 + c.length + J.2.2.length ≤ 40 then .inr (none, ((cs.length, 3 :: (c ++ J.2.1), 4 :: (c ++ J.2.2)) :: js, cs, K2)) else .inl z_AE) else .inl z_ISE)))
      refine z_aload_n d_Md_lambda_0 rfl rfl ?_
      refine z_mg HG d_Md_lambda_1 (L_Md_107 HG) (by decide) rfl ?_
      refine z_eqi h3 ?_
      refine z_iconst (v := nI 1) d_Md_lambda_4 (by decide) ?_
      refine z_isub d_Md_lambda_5 ?_
      refine z_eqi ((pk_sub (by omega)).trans (pk_bump (show _ = js.length by omega))) ?_
      refine z_istore_n d_Md_lambda_6 rfl (by decide) ?_
      refine z_aload_n d_Md_lambda_7 rfl rfl ?_
      refine z_aload_n d_Md_lambda_8 rfl rfl ?_
      refine z_mr (as := []) (dY := d + 2) HG d_Md_lambda_9 rfl (by omega) (Y_Md_135 HG) rfl rfl (Nat.le_of_ble_eq_true rfl) hcb ?_
      refine z_if_ne (tgt := 19) d_Md_lambda_12 rfl (fun c12 => ?_) (fun c12 => ?_)
      · have c12 := b_ne c12
        rw [if_pos (p_cb_iff.mp c12)]
        refine z_aload_n d_Md_lambda_19 rfl rfl ?_
        refine z_bipush (v := nI 6) d_Md_lambda_20 (by decide +kernel) ?_
        refine z_iload_n d_Md_lambda_22 rfl rfl ?_
        refine z_iadd d_Md_lambda_23 ?_
        refine z_eqi (nI_add _ _) ?_
        refine z_iconst (v := nI 1) d_Md_lambda_24 (by decide) ?_
        refine z_mr (as := [.int (nI (6 + js.length)), .int (nI 1)]) (dY := d + 1) HG d_Md_lambda_25 rfl (by omega) (Y_Md_129 HG) rfl rfl (Nat.le_of_ble_eq_true rfl) (c_Md_isOne HG (by omega) hY (by omega)) ?_
        refine z_if_eq (tgt := 35) d_Md_lambda_28 rfl (fun c28 => ?_) (fun c28 => ?_)
        · have c28 := b_eq c28
          rw [if_neg c28]
          refine z_aload_n d_Md_lambda_35 rfl rfl ?_
          refine z_iconst (v := nI 3) d_Md_lambda_36 (by decide) ?_
          refine z_iconst (v := nI 0) d_Md_lambda_37 (by decide) ?_
          refine z_iload_n d_Md_lambda_38 rfl rfl ?_
          refine z_iadd d_Md_lambda_39 ?_
          refine z_eqi ((nI_add _ _).trans (pk_bump (Nat.zero_add js.length))) ?_
          refine z_mc (as := [.int (nI 3), .int (nI js.length)]) (dY := d + 2) HG d_Md_lambda_40 rfl (by omega) (Y_Md_138 HG) rfl rfl (Nat.le_of_ble_eq_true rfl) (c_Md_binds (ne := cs.length) HG (by omega) (by omega) (by omega) h5 hC hT) (fun v1 s1 A1 hp1 => ?_)
          have o1 := hp1.1
          subst o1
          have h51 := hp1.2.1.2.1.trans h5
          have hC1 := hp1.2.2.2.1.row (Or.inl (by omega)) hC
          have hT1 := hp1.2.2.2.1.row (Or.inl (by omega)) hT
          have hY1 := hp1.2.2.2.1.row (Or.inl (by omega)) hY
          refine z_if_eq (tgt := 62) d_Md_lambda_43 rfl (fun c43 => ?_) (fun c43 => ?_)
          · have c43 := b_eq c43
            rw [if_neg (fun hh => c43 hh.1)]
            refine z_iconst (v := nI 3) d_Md_lambda_62 (by decide) ?_
            refine z_mp HG d_Md_lambda_63 (L_Md_41 HG) (by decide) rfl rfl rfl rfl ?_
            refine z_aload_n d_Md_lambda_66 rfl rfl ?_
            refine z_mg HG d_Md_lambda_67 (L_Md_41 HG) (by decide) rfl ?_
            refine z_eqi (va_up_self _ _ _) ?_
            refine z_if_ne (tgt := 105) d_Md_lambda_70 rfl (fun c70 => ?_) (fun c70 => ?_)
            · rw [← nI_0, nI_eq (by omega) (by omega)] at c70
              exact z_return d_Md_lambda_105 rfl ⟨_, _, _, rfl, rfl, rfl, (va_up_self _ _ _).trans (by rw [show m_cd [z_ISE, z_IAE, z_AE] z_AE = 3 by decide +kernel]), H.sc hp1.2.2.2.1.s3 (hp1.2.1.tr m_sq4.up0)⟩
            · rw [← nI_0, nI_eq (by omega) (by omega)] at c70
              omega
          · have c43 := b_ne c43
            refine z_aload_n d_Md_lambda_46 rfl rfl ?_
            refine z_iconst (v := nI 4) d_Md_lambda_47 (by decide) ?_
            refine z_bipush (v := nI 6) d_Md_lambda_48 (by decide +kernel) ?_
            refine z_iload_n d_Md_lambda_50 rfl rfl ?_
            refine z_iadd d_Md_lambda_51 ?_
            refine z_eqi (nI_add _ _) ?_
            refine z_mc (as := [.int (nI 4), .int (nI (6 + js.length))]) (dY := d + 2) HG d_Md_lambda_52 rfl (by omega) (Y_Md_138 HG) rfl rfl (Nat.le_of_ble_eq_true rfl) (c_Md_binds (ne := cs.length) HG (by omega) (by omega) (by omega) h51 hC1 hY1) (fun v2 s2 A2 hp2 => ?_)
            have o2 := hp2.1
            subst o2
            have h52 := hp2.2.1.2.1.trans h51
            have hC2 := hp2.2.2.2.1.row (Or.inl (by omega)) hC1
            have hT2 := hp2.2.2.2.1.row (Or.inl (by omega)) hT1
            refine z_if_eq (tgt := 62) d_Md_lambda_55 rfl (fun c55 => ?_) (fun c55 => ?_)
            · have c55 := b_eq c55
              rw [if_neg (fun hh => c55 hh.2)]
              refine z_iconst (v := nI 3) d_Md_lambda_62 (by decide) ?_
              refine z_mp HG d_Md_lambda_63 (L_Md_41 HG) (by decide) rfl rfl rfl rfl ?_
              refine z_aload_n d_Md_lambda_66 rfl rfl ?_
              refine z_mg HG d_Md_lambda_67 (L_Md_41 HG) (by decide) rfl ?_
              refine z_eqi (va_up_self _ _ _) ?_
              refine z_if_ne (tgt := 105) d_Md_lambda_70 rfl (fun c70 => ?_) (fun c70 => ?_)
              · rw [← nI_0, nI_eq (by omega) (by omega)] at c70
                exact z_return d_Md_lambda_105 rfl ⟨_, _, _, rfl, rfl, rfl, (va_up_self _ _ _).trans (by rw [show m_cd [z_ISE, z_IAE, z_AE] z_AE = 3 by decide +kernel]), H.sc (hp1.2.2.2.1.tr hp2.2.2.2.1).s3 ((hp1.2.1.tr hp2.2.1).tr m_sq4.up0)⟩
              · rw [← nI_0, nI_eq (by omega) (by omega)] at c70
                omega
            · have c55 := b_ne c55
              rw [if_pos ⟨c43, c55⟩]
              have r41 := hp2.2.2.2.2 c55
              refine z_iconst (v := nI 0) d_Md_lambda_58 (by decide) ?_
              refine z_goto (tgt := 63) d_Md_lambda_59 rfl ?_
              refine z_mp HG d_Md_lambda_63 (L_Md_41 HG) (by decide) rfl rfl rfl rfl ?_
              refine z_aload_n d_Md_lambda_66 rfl rfl ?_
              refine z_mg HG d_Md_lambda_67 (L_Md_41 HG) (by decide) rfl ?_
              refine z_eqi (va_up_self _ _ _) ?_
              refine z_if_ne (tgt := 105) d_Md_lambda_70 rfl (fun c70 => ?_) (fun c70 => ?_)
              · rw [← nI_0, nI_eq (by omega) (by omega)] at c70
                omega
              · rw [← nI_0, nI_eq (by omega) (by omega)] at c70
                refine z_aload_n d_Md_lambda_73 rfl rfl ?_
                refine z_bipush (v := nI 41) d_Md_lambda_74 (by decide +kernel) ?_
                refine z_bipush (v := nI 6) d_Md_lambda_76 (by decide +kernel) ?_
                refine z_iload_n d_Md_lambda_78 rfl rfl ?_
                refine z_iadd d_Md_lambda_79 ?_
                refine z_eqi (nI_add _ _) ?_
                refine z_mc (as := [.int (nI 41), .int (nI (6 + js.length))]) (dY := d + 2) HG d_Md_lambda_80 rfl (by omega) (Y_Md_90 HG) rfl rfl (Nat.le_of_ble_eq_true rfl) (c_Md_copy HG (by omega) (by omega) (by omega) r41) (fun v3 s3 A3 hp3 => ?_)
                obtain ⟨rfl, rfl, wr3⟩ := hp3
                have h53 : va_up s2 0 (nI 0) 5 = nI (cs.length + 1) := (va_up_ne _ _ (by decide)).trans h52
                refine z_aload_n d_Md_lambda_83 rfl rfl ?_
                refine z_iconst (v := nI 3) d_Md_lambda_84 (by decide) ?_
                refine z_iconst (v := nI 0) d_Md_lambda_85 (by decide) ?_
                refine z_iload_n d_Md_lambda_86 rfl rfl ?_
                refine z_iadd d_Md_lambda_87 ?_
                refine z_eqi ((nI_add _ _).trans (pk_bump (Nat.zero_add js.length))) ?_
                refine z_mc (as := [.int (nI 3), .int (nI js.length)]) (dY := d + 2) HG d_Md_lambda_88 rfl (by omega) (Y_Md_138 HG) rfl rfl (Nat.le_of_ble_eq_true rfl) (c_Md_binds (ne := cs.length) HG (by omega) (by omega) (by omega) h53 (wr3.keep (by omega) hC2) (wr3.keep (by omega) hT2)) (fun v4 s4 A4 hp4 => ?_)
                have o4 := hp4.1
                subst o4
                have r41b := hp4.2.2.2.2 c43
                refine z_istore_n d_Md_lambda_91 rfl (by decide) ?_
                refine z_aload_n d_Md_lambda_92 rfl rfl ?_
                refine z_bipush (v := nI 41) d_Md_lambda_93 (by decide +kernel) ?_
                refine z_iconst (v := nI 0) d_Md_lambda_95 (by decide) ?_
                refine z_iload_n d_Md_lambda_96 rfl rfl ?_
                refine z_iadd d_Md_lambda_97 ?_
                refine z_eqi ((nI_add _ _).trans (pk_bump (Nat.zero_add js.length))) ?_
                refine z_mc (as := [.int (nI 41), .int (nI js.length)]) (dY := d + 2) HG d_Md_lambda_98 rfl (by omega) (Y_Md_90 HG) rfl rfl (Nat.le_of_ble_eq_true rfl) (c_Md_copy HG (by omega) (by omega) (by omega) r41b) (fun v5 s5 A5 hp5 => ?_)
                obtain ⟨rfl, rfl, wr5⟩ := hp5
                have q45 : m_sq4 s s5 := ((hp1.2.1.tr hp2.2.1).tr m_sq4.up0).tr hp4.2.1
                refine z_aload_n d_Md_lambda_101 rfl rfl ?_
                refine z_mc (as := []) (dY := d) HG d_Md_lambda_102 rfl (by omega) (Y_Md_141 HG) rfl rfl (Nat.le_of_ble_eq_true rfl) (c_Md_close (n := js.length) (ne := cs.length) HG (by omega) (by omega) (q45.1.trans h3) (q45.2.1.trans h5)) (fun v6 s6 A6 hp6 => ?_)
                obtain ⟨rfl, rfl, rfl⟩ := hp6
                exact z_return d_Md_lambda_105 rfl ⟨_, _, _, rfl, rfl, rfl, (va_up_ne _ _ (by decide)).trans (hp4.2.2.1.trans (va_up_self _ _ _)), H.bound (fun r r1 r2 r3 => (((((hp1.2.2.2.1.same (Or.inl r1)).tr (hp2.2.2.2.1.same (Or.inl r1))).tr (wr3.same r3)).tr (hp4.2.2.2.1.same (Or.inl r1))).tr (wr5.same r2))) (by rw [wr5.1 3 (by decide) (by decide), hp4.2.2.2.1.2.2.1, wr3.1 3 (by decide) (by decide), hp2.2.2.2.1.2.2.1, hp1.2.2.2.1.2.2.1]) (by rw [wr5.1 4 (by decide) (by decide), hp4.2.2.2.1.2.2.2.1, wr3.1 4 (by decide) (by decide), hp2.2.2.2.1.2.2.2.1, hp1.2.2.2.1.2.2.2.1]) (by rw [wr5.1 5 (by decide) (by decide), hp4.2.2.2.1.2.2.2.2, wr3.1 5 (by decide) (by decide), hp2.2.2.2.1.2.2.2.2, hp1.2.2.2.1.2.2.2.2]) wr5.row (wr5.keep (by omega) (hp4.2.2.2.1.row (Or.inl (by omega)) wr3.row)) q45⟩
        · have c28 := b_ne c28
          rw [if_pos c28]
          refine z_iconst (v := nI 2) d_Md_lambda_31 (by decide) ?_
          refine z_goto (tgt := 63) d_Md_lambda_32 rfl ?_
          refine z_mp HG d_Md_lambda_63 (L_Md_41 HG) (by decide) rfl rfl rfl rfl ?_
          refine z_aload_n d_Md_lambda_66 rfl rfl ?_
          refine z_mg HG d_Md_lambda_67 (L_Md_41 HG) (by decide) rfl ?_
          refine z_eqi (va_up_self _ _ _) ?_
          refine z_if_ne (tgt := 105) d_Md_lambda_70 rfl (fun c70 => ?_) (fun c70 => ?_)
          · rw [← nI_0, nI_eq (by omega) (by omega)] at c70
            exact z_return d_Md_lambda_105 rfl ⟨_, _, _, rfl, rfl, rfl, (va_up_self _ _ _).trans (by rw [show m_cd [z_ISE, z_IAE, z_AE] z_IAE = 2 by decide +kernel]), H.sc m_s3.rf m_sq4.up0⟩
          · rw [← nI_0, nI_eq (by omega) (by omega)] at c70
            omega
      · have c12 := b_eq c12
        rw [if_neg (fun hh => c12 (p_cb_iff.mpr hh))]
        refine z_iconst (v := nI 1) d_Md_lambda_15 (by decide) ?_
        refine z_goto (tgt := 63) d_Md_lambda_16 rfl ?_
        refine z_mp HG d_Md_lambda_63 (L_Md_41 HG) (by decide) rfl rfl rfl rfl ?_
        refine z_aload_n d_Md_lambda_66 rfl rfl ?_
        refine z_mg HG d_Md_lambda_67 (L_Md_41 HG) (by decide) rfl ?_
        refine z_eqi (va_up_self _ _ _) ?_
        refine z_if_ne (tgt := 105) d_Md_lambda_70 rfl (fun c70 => ?_) (fun c70 => ?_)
        · rw [← nI_0, nI_eq (by omega) (by omega)] at c70
          exact z_return d_Md_lambda_105 rfl ⟨_, _, _, rfl, rfl, rfl, (va_up_self _ _ _).trans (by rw [show m_cd [z_ISE, z_IAE, z_AE] z_ISE = 1 by decide +kernel]), H.sc m_s3.rf m_sq4.up0⟩
        · rw [← nI_0, nI_eq (by omega) (by omega)] at c70
          omega
theorem c_Md_product (HG : z_ok G) (H : mK K s A) (Pk : pok K) : z_C G m_Md_product (d + 3) [.ref q] (md G h q s A) (m_post G h q (m_outv (m_cd [z_ISE, z_IAE, z_AE]) K (k_product K))) := by
  refine z_C.of (Nat.le_of_ble_eq_true rfl) ?_
  have hcb := c_Md_canBind (d := d) (q := q) (h := h) HG H Pk
  obtain ⟨js, cs, K2⟩ := K
  have h6 : js.length ≤ 6 := H.2.1.1
  have h4 : cs.length ≤ 4 := H.2.1.2.1
  have h3 : s 3 = nI js.length := H.1.1
  have h5 : s 5 = nI cs.length := H.1.2.1
  cases js with
  | nil =>
    have h3 : s 3 = nI 0 := h3
    rw [show k_product ([], cs, K2) = .inl z_ISE from rfl]
    rw [if_neg (show ¬ p_cb ([], cs, K2) = true by intro hh; cases hh)] at hcb
    refine z_aload_n d_Md_product_0 rfl rfl ?_
    refine z_mg HG d_Md_product_1 (L_Md_107 HG) (by decide) rfl ?_
    refine z_eqi h3 ?_
    refine z_iconst (v := nI 1) d_Md_product_4 (by decide) ?_
    refine z_isub d_Md_product_5 ?_
    refine z_eqi (show nI 0 - nI 1 = -1 by decide) ?_
    refine z_istore_n d_Md_product_6 rfl (by decide) ?_
    refine z_aload_n d_Md_product_7 rfl rfl ?_
    refine z_aload_n d_Md_product_8 rfl rfl ?_
    refine z_mr (as := []) (dY := d + 2) HG d_Md_product_9 rfl (by omega) (Y_Md_135 HG) rfl rfl (Nat.le_of_ble_eq_true rfl) hcb ?_
    refine z_if_ne (tgt := 19) d_Md_product_12 rfl (fun c12 => ?_) (fun c12 => ?_)
    · rw [← nI_0, nI_eq (by omega) (by omega)] at c12
      omega
    · rw [← nI_0, nI_eq (by omega) (by omega)] at c12
      refine z_iconst (v := nI 1) d_Md_product_15 (by decide) ?_
      refine z_goto (tgt := 63) d_Md_product_16 rfl ?_
      refine z_mp HG d_Md_product_63 (L_Md_41 HG) (by decide) rfl rfl rfl rfl ?_
      refine z_aload_n d_Md_product_66 rfl rfl ?_
      refine z_mg HG d_Md_product_67 (L_Md_41 HG) (by decide) rfl ?_
      refine z_eqi (va_up_self _ _ _) ?_
      refine z_if_ne (tgt := 86) d_Md_product_70 rfl (fun c70 => ?_) (fun c70 => ?_)
      · rw [← nI_0, nI_eq (by omega) (by omega)] at c70
        exact z_return d_Md_product_86 rfl ⟨_, _, _, rfl, rfl, rfl, (va_up_self _ _ _).trans (by rw [show m_cd [z_ISE, z_IAE, z_AE] z_ISE = 1 by decide +kernel]), H.sc m_s3.rf m_sq4.up0⟩
      · rw [← nI_0, nI_eq (by omega) (by omega)] at c70
        omega
  | cons J js =>
    have h3 : s 3 = nI (js.length + 1) := h3
    rw [List.length_cons] at h6
    obtain ⟨-, hT, hY⟩ := H.top
    have hT40 := hT.len
    have hY40 := hY.len
    cases cs with
    | nil =>
      rw [show k_product (J :: js, [], K2) = .inl z_ISE from rfl]
      rw [if_neg (show ¬ p_cb (J :: js, [], K2) = true by intro hh; cases hh)] at hcb
      refine z_aload_n d_Md_product_0 rfl rfl ?_
      refine z_mg HG d_Md_product_1 (L_Md_107 HG) (by decide) rfl ?_
      refine z_eqi h3 ?_
      refine z_iconst (v := nI 1) d_Md_product_4 (by decide) ?_
      refine z_isub d_Md_product_5 ?_
      refine z_eqi ((pk_sub (by omega)).trans (pk_bump (show _ = js.length by omega))) ?_
      refine z_istore_n d_Md_product_6 rfl (by decide) ?_
      refine z_aload_n d_Md_product_7 rfl rfl ?_
      refine z_aload_n d_Md_product_8 rfl rfl ?_
      refine z_mr (as := []) (dY := d + 2) HG d_Md_product_9 rfl (by omega) (Y_Md_135 HG) rfl rfl (Nat.le_of_ble_eq_true rfl) hcb ?_
      refine z_if_ne (tgt := 19) d_Md_product_12 rfl (fun c12 => ?_) (fun c12 => ?_)
      · rw [← nI_0, nI_eq (by omega) (by omega)] at c12
        omega
      · rw [← nI_0, nI_eq (by omega) (by omega)] at c12
        refine z_iconst (v := nI 1) d_Md_product_15 (by decide) ?_
        refine z_goto (tgt := 63) d_Md_product_16 rfl ?_
        refine z_mp HG d_Md_product_63 (L_Md_41 HG) (by decide) rfl rfl rfl rfl ?_
        refine z_aload_n d_Md_product_66 rfl rfl ?_
        refine z_mg HG d_Md_product_67 (L_Md_41 HG) (by decide) rfl ?_
        refine z_eqi (va_up_self _ _ _) ?_
        refine z_if_ne (tgt := 86) d_Md_product_70 rfl (fun c70 => ?_) (fun c70 => ?_)
        · rw [← nI_0, nI_eq (by omega) (by omega)] at c70
          exact z_return d_Md_product_86 rfl ⟨_, _, _, rfl, rfl, rfl, (va_up_self _ _ _).trans (by rw [show m_cd [z_ISE, z_IAE, z_AE] z_ISE = 1 by decide +kernel]), H.sc m_s3.rf m_sq4.up0⟩
        · rw [← nI_0, nI_eq (by omega) (by omega)] at c70
          omega
    | cons c cs =>
      have h5 : s 5 = nI (cs.length + 1) := h5
      rw [List.length_cons] at h4
      have hC : mrow A (12 + cs.length) c := H.2.2.2.1 cs.length c l_rt
      have hC40 := hC.len
      show z_V _ _ _ _ _ _ _ (m_post G h q (m_outv (m_cd [z_ISE, z_IAE, z_AE]) (J :: js, c :: cs, K2) (if J.1 = cs.length + 1 ∧ p_cnt (J :: js) (cs.length + 1) ≤ 1 then (if J.2.2 = [0] ∨ J.2.2 = [1] then (if 1 + c.length + J.2.1.length ≤ 40 then .inr (none, ((cs.length, 4 :: (c ++ J.2.1), J.2.2) :: js, cs, K2)) else .inl z_AE) else .inl z_IAE) else .inl z_ISE)))
      refine z_aload_n d_Md_product_0 rfl rfl ?_
      refine z_mg HG d_Md_product_1 (L_Md_107 HG) (by decide) rfl ?_
      refine z_eqi h3 ?_
      refine z_iconst (v := nI 1) d_Md_product_4 (by decide) ?_
      refine z_isub d_Md_product_5 ?_
      refine z_eqi ((pk_sub (by omega)).trans (pk_bump (show _ = js.length by omega))) ?_
      refine z_istore_n d_Md_product_6 rfl (by decide) ?_
      refine z_aload_n d_Md_product_7 rfl rfl ?_
      refine z_aload_n d_Md_product_8 rfl rfl ?_
      refine z_mr (as := []) (dY := d + 2) HG d_Md_product_9 rfl (by omega) (Y_Md_135 HG) rfl rfl (Nat.le_of_ble_eq_true rfl) hcb ?_
      refine z_if_ne (tgt := 19) d_Md_product_12 rfl (fun c12 => ?_) (fun c12 => ?_)
      · have c12 := b_ne c12
        rw [if_pos (p_cb_iff.mp c12)]
        refine z_aload_n d_Md_product_19 rfl rfl ?_
        refine z_bipush (v := nI 6) d_Md_product_20 (by decide +kernel) ?_
        refine z_iload_n d_Md_product_22 rfl rfl ?_
        refine z_iadd d_Md_product_23 ?_
        refine z_eqi (nI_add _ _) ?_
        refine z_iconst (v := nI 0) d_Md_product_24 (by decide) ?_
        refine z_mr (as := [.int (nI (6 + js.length)), .int (nI 0)]) (dY := d + 1) HG d_Md_product_25 rfl (by omega) (Y_Md_129 HG) rfl rfl (Nat.le_of_ble_eq_true rfl) (c_Md_isOne HG (by omega) hY (by omega)) ?_
        refine z_if_ne (tgt := 47) d_Md_product_28 rfl (fun c28 => ?_) (fun c28 => ?_)
        · have c28 := b_ne c28
          rw [if_pos (show J.2.2 = [0] ∨ J.2.2 = [1] from Or.inl c28)]
          refine z_aload_n d_Md_product_47 rfl rfl ?_
          refine z_iconst (v := nI 4) d_Md_product_48 (by decide) ?_
          refine z_iconst (v := nI 0) d_Md_product_49 (by decide) ?_
          refine z_iload_n d_Md_product_50 rfl rfl ?_
          refine z_iadd d_Md_product_51 ?_
          refine z_eqi ((nI_add _ _).trans (pk_bump (Nat.zero_add js.length))) ?_
          refine z_mc (as := [.int (nI 4), .int (nI js.length)]) (dY := d + 2) HG d_Md_product_52 rfl (by omega) (Y_Md_138 HG) rfl rfl (Nat.le_of_ble_eq_true rfl) (c_Md_binds (ne := cs.length) HG (by omega) (by omega) (by omega) h5 hC hT) (fun v1 s1 A1 hp1 => ?_)
          have o1 := hp1.1
          subst o1
          have hY1 := hp1.2.2.2.1.row (Or.inl (by omega)) hY
          refine z_if_eq (tgt := 62) d_Md_product_55 rfl (fun c55 => ?_) (fun c55 => ?_)
          · have c55 := b_eq c55
            rw [if_neg c55]
            refine z_iconst (v := nI 3) d_Md_product_62 (by decide) ?_
            refine z_mp HG d_Md_product_63 (L_Md_41 HG) (by decide) rfl rfl rfl rfl ?_
            refine z_aload_n d_Md_product_66 rfl rfl ?_
            refine z_mg HG d_Md_product_67 (L_Md_41 HG) (by decide) rfl ?_
            refine z_eqi (va_up_self _ _ _) ?_
            refine z_if_ne (tgt := 86) d_Md_product_70 rfl (fun c70 => ?_) (fun c70 => ?_)
            · rw [← nI_0, nI_eq (by omega) (by omega)] at c70
              exact z_return d_Md_product_86 rfl ⟨_, _, _, rfl, rfl, rfl, (va_up_self _ _ _).trans (by rw [show m_cd [z_ISE, z_IAE, z_AE] z_AE = 3 by decide +kernel]), H.sc hp1.2.2.2.1.s3 (hp1.2.1.tr m_sq4.up0)⟩
            · rw [← nI_0, nI_eq (by omega) (by omega)] at c70
              omega
          · have c55 := b_ne c55
            rw [if_pos c55]
            have r41 := hp1.2.2.2.2 c55
            refine z_iconst (v := nI 0) d_Md_product_58 (by decide) ?_
            refine z_goto (tgt := 63) d_Md_product_59 rfl ?_
            refine z_mp HG d_Md_product_63 (L_Md_41 HG) (by decide) rfl rfl rfl rfl ?_
            refine z_aload_n d_Md_product_66 rfl rfl ?_
            refine z_mg HG d_Md_product_67 (L_Md_41 HG) (by decide) rfl ?_
            refine z_eqi (va_up_self _ _ _) ?_
            refine z_if_ne (tgt := 86) d_Md_product_70 rfl (fun c70 => ?_) (fun c70 => ?_)
            · rw [← nI_0, nI_eq (by omega) (by omega)] at c70
              omega
            · rw [← nI_0, nI_eq (by omega) (by omega)] at c70
              refine z_aload_n d_Md_product_73 rfl rfl ?_
              refine z_bipush (v := nI 41) d_Md_product_74 (by decide +kernel) ?_
              refine z_iconst (v := nI 0) d_Md_product_76 (by decide) ?_
              refine z_iload_n d_Md_product_77 rfl rfl ?_
              refine z_iadd d_Md_product_78 ?_
              refine z_eqi ((nI_add _ _).trans (pk_bump (Nat.zero_add js.length))) ?_
              refine z_mc (as := [.int (nI 41), .int (nI js.length)]) (dY := d + 2) HG d_Md_product_79 rfl (by omega) (Y_Md_90 HG) rfl rfl (Nat.le_of_ble_eq_true rfl) (c_Md_copy HG (by omega) (by omega) (by omega) r41) (fun v3 s3 A3 hp3 => ?_)
              obtain ⟨rfl, rfl, wr3⟩ := hp3
              have q45 : m_sq4 s (va_up s1 0 (nI 0)) := hp1.2.1.tr m_sq4.up0
              refine z_aload_n d_Md_product_82 rfl rfl ?_
              refine z_mc (as := []) (dY := d) HG d_Md_product_83 rfl (by omega) (Y_Md_141 HG) rfl rfl (Nat.le_of_ble_eq_true rfl) (c_Md_close (n := js.length) (ne := cs.length) HG (by omega) (by omega) (q45.1.trans h3) (q45.2.1.trans h5)) (fun v6 s6 A6 hp6 => ?_)
              obtain ⟨rfl, rfl, rfl⟩ := hp6
              exact z_return d_Md_product_86 rfl ⟨_, _, _, rfl, rfl, rfl, rfl, H.bound (fun r r1 r2 r3 => (hp1.2.2.2.1.same (Or.inl r1)).tr (wr3.same r2)) (by rw [wr3.1 3 (by decide) (by decide), hp1.2.2.2.1.2.2.1]) (by rw [wr3.1 4 (by decide) (by decide), hp1.2.2.2.1.2.2.2.1]) (by rw [wr3.1 5 (by decide) (by decide), hp1.2.2.2.1.2.2.2.2]) wr3.row (wr3.keep (by omega) hY1) q45⟩
        · have c28 := b_eq c28
          refine z_aload_n d_Md_product_31 rfl rfl ?_
          refine z_bipush (v := nI 6) d_Md_product_32 (by decide +kernel) ?_
          refine z_iload_n d_Md_product_34 rfl rfl ?_
          refine z_iadd d_Md_product_35 ?_
          refine z_eqi (nI_add _ _) ?_
          refine z_iconst (v := nI 1) d_Md_product_36 (by decide) ?_
          refine z_mr (as := [.int (nI (6 + js.length)), .int (nI 1)]) (dY := d + 1) HG d_Md_product_37 rfl (by omega) (Y_Md_129 HG) rfl rfl (Nat.le_of_ble_eq_true rfl) (c_Md_isOne HG (by omega) hY (by omega)) ?_
          refine z_if_ne (tgt := 47) d_Md_product_40 rfl (fun c40 => ?_) (fun c40 => ?_)
          · have c40 := b_ne c40
            rw [if_pos (show J.2.2 = [0] ∨ J.2.2 = [1] from Or.inr c40)]
            refine z_aload_n d_Md_product_47 rfl rfl ?_
            refine z_iconst (v := nI 4) d_Md_product_48 (by decide) ?_
            refine z_iconst (v := nI 0) d_Md_product_49 (by decide) ?_
            refine z_iload_n d_Md_product_50 rfl rfl ?_
            refine z_iadd d_Md_product_51 ?_
            refine z_eqi ((nI_add _ _).trans (pk_bump (Nat.zero_add js.length))) ?_
            refine z_mc (as := [.int (nI 4), .int (nI js.length)]) (dY := d + 2) HG d_Md_product_52 rfl (by omega) (Y_Md_138 HG) rfl rfl (Nat.le_of_ble_eq_true rfl) (c_Md_binds (ne := cs.length) HG (by omega) (by omega) (by omega) h5 hC hT) (fun v1 s1 A1 hp1 => ?_)
            have o1 := hp1.1
            subst o1
            have hY1 := hp1.2.2.2.1.row (Or.inl (by omega)) hY
            refine z_if_eq (tgt := 62) d_Md_product_55 rfl (fun c55 => ?_) (fun c55 => ?_)
            · have c55 := b_eq c55
              rw [if_neg c55]
              refine z_iconst (v := nI 3) d_Md_product_62 (by decide) ?_
              refine z_mp HG d_Md_product_63 (L_Md_41 HG) (by decide) rfl rfl rfl rfl ?_
              refine z_aload_n d_Md_product_66 rfl rfl ?_
              refine z_mg HG d_Md_product_67 (L_Md_41 HG) (by decide) rfl ?_
              refine z_eqi (va_up_self _ _ _) ?_
              refine z_if_ne (tgt := 86) d_Md_product_70 rfl (fun c70 => ?_) (fun c70 => ?_)
              · rw [← nI_0, nI_eq (by omega) (by omega)] at c70
                exact z_return d_Md_product_86 rfl ⟨_, _, _, rfl, rfl, rfl, (va_up_self _ _ _).trans (by rw [show m_cd [z_ISE, z_IAE, z_AE] z_AE = 3 by decide +kernel]), H.sc hp1.2.2.2.1.s3 (hp1.2.1.tr m_sq4.up0)⟩
              · rw [← nI_0, nI_eq (by omega) (by omega)] at c70
                omega
            · have c55 := b_ne c55
              rw [if_pos c55]
              have r41 := hp1.2.2.2.2 c55
              refine z_iconst (v := nI 0) d_Md_product_58 (by decide) ?_
              refine z_goto (tgt := 63) d_Md_product_59 rfl ?_
              refine z_mp HG d_Md_product_63 (L_Md_41 HG) (by decide) rfl rfl rfl rfl ?_
              refine z_aload_n d_Md_product_66 rfl rfl ?_
              refine z_mg HG d_Md_product_67 (L_Md_41 HG) (by decide) rfl ?_
              refine z_eqi (va_up_self _ _ _) ?_
              refine z_if_ne (tgt := 86) d_Md_product_70 rfl (fun c70 => ?_) (fun c70 => ?_)
              · rw [← nI_0, nI_eq (by omega) (by omega)] at c70
                omega
              · rw [← nI_0, nI_eq (by omega) (by omega)] at c70
                refine z_aload_n d_Md_product_73 rfl rfl ?_
                refine z_bipush (v := nI 41) d_Md_product_74 (by decide +kernel) ?_
                refine z_iconst (v := nI 0) d_Md_product_76 (by decide) ?_
                refine z_iload_n d_Md_product_77 rfl rfl ?_
                refine z_iadd d_Md_product_78 ?_
                refine z_eqi ((nI_add _ _).trans (pk_bump (Nat.zero_add js.length))) ?_
                refine z_mc (as := [.int (nI 41), .int (nI js.length)]) (dY := d + 2) HG d_Md_product_79 rfl (by omega) (Y_Md_90 HG) rfl rfl (Nat.le_of_ble_eq_true rfl) (c_Md_copy HG (by omega) (by omega) (by omega) r41) (fun v3 s3 A3 hp3 => ?_)
                obtain ⟨rfl, rfl, wr3⟩ := hp3
                have q45 : m_sq4 s (va_up s1 0 (nI 0)) := hp1.2.1.tr m_sq4.up0
                refine z_aload_n d_Md_product_82 rfl rfl ?_
                refine z_mc (as := []) (dY := d) HG d_Md_product_83 rfl (by omega) (Y_Md_141 HG) rfl rfl (Nat.le_of_ble_eq_true rfl) (c_Md_close (n := js.length) (ne := cs.length) HG (by omega) (by omega) (q45.1.trans h3) (q45.2.1.trans h5)) (fun v6 s6 A6 hp6 => ?_)
                obtain ⟨rfl, rfl, rfl⟩ := hp6
                exact z_return d_Md_product_86 rfl ⟨_, _, _, rfl, rfl, rfl, rfl, H.bound (fun r r1 r2 r3 => (hp1.2.2.2.1.same (Or.inl r1)).tr (wr3.same r2)) (by rw [wr3.1 3 (by decide) (by decide), hp1.2.2.2.1.2.2.1]) (by rw [wr3.1 4 (by decide) (by decide), hp1.2.2.2.1.2.2.2.1]) (by rw [wr3.1 5 (by decide) (by decide), hp1.2.2.2.1.2.2.2.2]) wr3.row (wr3.keep (by omega) hY1) q45⟩
          · have c40 := b_eq c40
            rw [if_neg (fun hh => hh.elim c28 c40)]
            refine z_iconst (v := nI 2) d_Md_product_43 (by decide) ?_
            refine z_goto (tgt := 63) d_Md_product_44 rfl ?_
            refine z_mp HG d_Md_product_63 (L_Md_41 HG) (by decide) rfl rfl rfl rfl ?_
            refine z_aload_n d_Md_product_66 rfl rfl ?_
            refine z_mg HG d_Md_product_67 (L_Md_41 HG) (by decide) rfl ?_
            refine z_eqi (va_up_self _ _ _) ?_
            refine z_if_ne (tgt := 86) d_Md_product_70 rfl (fun c70 => ?_) (fun c70 => ?_)
            · rw [← nI_0, nI_eq (by omega) (by omega)] at c70
              exact z_return d_Md_product_86 rfl ⟨_, _, _, rfl, rfl, rfl, (va_up_self _ _ _).trans (by rw [show m_cd [z_ISE, z_IAE, z_AE] z_IAE = 2 by decide +kernel]), H.sc m_s3.rf m_sq4.up0⟩
            · rw [← nI_0, nI_eq (by omega) (by omega)] at c70
              omega
      · have c12 := b_eq c12
        rw [if_neg (fun hh => c12 (p_cb_iff.mpr hh))]
        refine z_iconst (v := nI 1) d_Md_product_15 (by decide) ?_
        refine z_goto (tgt := 63) d_Md_product_16 rfl ?_
        refine z_mp HG d_Md_product_63 (L_Md_41 HG) (by decide) rfl rfl rfl rfl ?_
        refine z_aload_n d_Md_product_66 rfl rfl ?_
        refine z_mg HG d_Md_product_67 (L_Md_41 HG) (by decide) rfl ?_
        refine z_eqi (va_up_self _ _ _) ?_
        refine z_if_ne (tgt := 86) d_Md_product_70 rfl (fun c70 => ?_) (fun c70 => ?_)
        · rw [← nI_0, nI_eq (by omega) (by omega)] at c70
          exact z_return d_Md_product_86 rfl ⟨_, _, _, rfl, rfl, rfl, (va_up_self _ _ _).trans (by rw [show m_cd [z_ISE, z_IAE, z_AE] z_ISE = 1 by decide +kernel]), H.sc m_s3.rf m_sq4.up0⟩
        · rw [← nI_0, nI_eq (by omega) (by omega)] at c70
          omega
end MI
