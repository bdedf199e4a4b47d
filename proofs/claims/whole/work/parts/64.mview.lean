/-! the reference: alone, views, drop, leave -/
def m_cd (l : List String) (X : String) : Nat := match l with
  | [] => 0
  | a :: t => if X = a then 1 else m_cd t X + 1
section MV
variable {G : z_G} {h : z_H} {q d n : Nat} {s : Nat → Int32} {A : Nat → Nat → Int32} {K : pK}
theorem p_cnt_cons {J : pJ} {js : List pJ} {n : Nat} : p_cnt (J :: js) n = (if J.1 = n then 1 else 0) + p_cnt js n := by
  unfold p_cnt
  rw [List.countP_cons, Nat.add_comm]
  by_cases h : J.1 = n
  · rw [if_pos h, if_pos (by simpa using h)]
  · rw [if_neg h, if_neg (by simpa using h)]
theorem p_cnt_snoc {J : pJ} {l : List pJ} {n : Nat} : p_cnt (l ++ [J]) n = p_cnt l n + (if J.1 = n then 1 else 0) := by
  unfold p_cnt
  rw [List.countP_append]
  have e := p_cnt_cons (J := J) (js := []) (n := n)
  unfold p_cnt at e
  rw [e]
  rfl
theorem p_cnt_rev {l : List pJ} {n : Nat} : p_cnt l.reverse n = p_cnt l n := List.countP_reverse
theorem l_Md_alone (HG : z_ok G) {J : pJ} {js : List pJ} {ne : Nat} (h3 : s 3 = nI (js.length + 1)) (h5 : s 5 = nI ne) (hne : ne ≤ 4) (hl : js.length < 6) (hJ : ∀ k J', js.reverse[k]? = some J' → A 3 k = nI J'.1 ∧ J'.1 ≤ 4) : ∀ (c k : Nat), k + c = js.length →
    z_V G m_Md_alone (d + 1) 4 [(0, .ref q), (1, .int (if p_cnt (js.reverse.take k) ne = 0 then nI 1 else nI 0)), (2, .int (nI k))] [] (md G h q s A) (z_rq (some (.int (if p_cnt js ne = 0 then nI 1 else nI 0))) (md G h q s A)) := by
  intro c
  induction c with
  | zero =>
    intro k hk
    rw [List.take_of_length_le (by rw [List.length_reverse]; omega), p_cnt_rev]
    refine z_iload_n d_Md_alone_4 rfl rfl ?_
    refine z_aload_n d_Md_alone_5 rfl rfl ?_
    refine z_mg HG d_Md_alone_6 (L_Md_107 HG) (by decide) rfl ?_
    refine z_eqi h3 ?_
    refine z_iconst (v := nI 1) d_Md_alone_9 (by decide) ?_
    refine z_isub d_Md_alone_10 ?_
    refine z_eqi ((pk_sub (by omega)).trans (pk_bump (show _ = js.length by omega))) ?_
    refine z_icmp_ge (tgt := 38) d_Md_alone_11 rfl (fun c11 => ?_) (fun c11 => ?_)
    · rw [nI_leI (by omega) (by omega)] at c11
      refine z_iload_n d_Md_alone_38 rfl rfl ?_
      by_cases hc : p_cnt js ne = 0
      · rw [if_pos hc]
        exact z_ireturn d_Md_alone_39 rfl rfl ⟨rfl, rfl⟩
      · rw [if_neg hc]
        exact z_ireturn d_Md_alone_39 rfl rfl ⟨rfl, rfl⟩
    · rw [nI_leI (by omega) (by omega)] at c11
      omega
  | succ c ih =>
    intro k hk
    have hkl : k < js.reverse.length := by rw [List.length_reverse]; omega
    have hg := List.getElem?_eq_getElem hkl
    have ht : js.reverse.take (k + 1) = js.reverse.take k ++ [js.reverse[k]] := by
      rw [List.take_succ, hg]
      rfl
    generalize js.reverse[k] = J' at hg ht
    obtain ⟨hA, hJ4⟩ := hJ k J' hg
    have hcs : p_cnt (js.reverse.take (k + 1)) ne = p_cnt (js.reverse.take k) ne + (if J'.1 = ne then 1 else 0) := by
      rw [ht, p_cnt_snoc]
    have ih1 := ih (k + 1) (by omega)
    rw [hcs] at ih1
    refine z_iload_n d_Md_alone_4 rfl rfl ?_
    refine z_aload_n d_Md_alone_5 rfl rfl ?_
    refine z_mg HG d_Md_alone_6 (L_Md_107 HG) (by decide) rfl ?_
    refine z_eqi h3 ?_
    refine z_iconst (v := nI 1) d_Md_alone_9 (by decide) ?_
    refine z_isub d_Md_alone_10 ?_
    refine z_eqi ((pk_sub (by omega)).trans (pk_bump (show _ = js.length by omega))) ?_
    refine z_icmp_ge (tgt := 38) d_Md_alone_11 rfl (fun c11 => ?_) (fun c11 => ?_)
    · rw [nI_leI (by omega) (by omega)] at c11
      omega
    · rw [nI_leI (by omega) (by omega)] at c11
      refine z_iload_n d_Md_alone_14 rfl rfl ?_
      refine z_if_eq (tgt := 30) d_Md_alone_15 rfl (fun c15 => ?_) (fun c15 => ?_)
      · have c15 := b_eq c15
        refine z_iconst (v := nI 0) d_Md_alone_30 (by decide) ?_
        refine z_istore_n d_Md_alone_31 rfl (by decide) ?_
        refine z_iinc (v := nI (k + 1)) d_Md_alone_32 rfl (i_inc _) (by decide) ?_
        refine z_goto (tgt := 4) d_Md_alone_35 rfl ?_
        rw [if_neg (show ¬ _ = 0 by omega)] at ih1
        refine z_fg [(0, .ref q), (1, .int (nI 0)), (2, .int (nI (k + 1)))] ⟨rfl, rfl, rfl, trivial⟩ ?_
        exact ih1
      · have c15 := b_ne c15
        refine z_aload_n d_Md_alone_18 rfl rfl ?_
        refine z_iload_n d_Md_alone_19 rfl rfl ?_
        refine z_mr (as := [.int (nI k)]) (dY := d) HG d_Md_alone_20 rfl (by omega) (Y_Md_110 HG) rfl rfl (Nat.le_of_ble_eq_true rfl) (c_Md_present HG (by omega) (by omega) (by omega) hA h5) ?_
        refine z_if_ne (tgt := 30) d_Md_alone_23 rfl (fun c23 => ?_) (fun c23 => ?_)
        · have c23 := b_ne c23
          refine z_iconst (v := nI 0) d_Md_alone_30 (by decide) ?_
          refine z_istore_n d_Md_alone_31 rfl (by decide) ?_
          refine z_iinc (v := nI (k + 1)) d_Md_alone_32 rfl (i_inc _) (by decide) ?_
          refine z_goto (tgt := 4) d_Md_alone_35 rfl ?_
          rw [if_neg (show ¬ _ = 0 by rw [if_pos c23]; omega)] at ih1
          refine z_fg [(0, .ref q), (1, .int (nI 0)), (2, .int (nI (k + 1)))] ⟨rfl, rfl, rfl, trivial⟩ ?_
          exact ih1
        · have c23 := b_eq c23
          refine z_iconst (v := nI 1) d_Md_alone_26 (by decide) ?_
          refine z_goto (tgt := 31) d_Md_alone_27 rfl ?_
          refine z_istore_n d_Md_alone_31 rfl (by decide) ?_
          refine z_iinc (v := nI (k + 1)) d_Md_alone_32 rfl (i_inc _) (by decide) ?_
          refine z_goto (tgt := 4) d_Md_alone_35 rfl ?_
          rw [if_pos (show _ = 0 by rw [c15, if_neg c23])] at ih1
          refine z_fg [(0, .ref q), (1, .int (nI 1)), (2, .int (nI (k + 1)))] ⟨rfl, rfl, rfl, trivial⟩ ?_
          exact ih1
theorem mK.cell (H : mK K s A) (P : pok K) {k : Nat} {J : pJ} (hk : K.1.reverse[k]? = some J) : A 3 k = nI J.1 ∧ J.1 ≤ 4 := by
  refine ⟨(H.2.2.1 k J hk).1, ?_⟩
  have h1 := (P.1 J (List.mem_reverse.mp (List.mem_of_getElem? hk))).1
  have h2 := H.2.1.2.1
  omega
theorem c_Md_alone (HG : z_ok G) (H : mK K s A) (Pk : pok K) : z_C G m_Md_alone (d + 1) [.ref q] (md G h q s A) (z_rq (some (.int (if p_cnt K.1.tail K.2.1.length = 0 then nI 1 else nI 0))) (md G h q s A)) := by
  refine z_C.of (Nat.le_of_ble_eq_true rfl) ?_
  have h6 := H.2.1.1
  have h4 := H.2.1.2.1
  have h3 := H.1.1
  cases hj : K.1 with
  | nil =>
    rw [hj] at h3
    have h3 : s 3 = nI 0 := h3
    rw [if_pos (show p_cnt (List.tail []) K.2.1.length = 0 from rfl)]
    refine z_iconst (v := nI 1) d_Md_alone_0 (by decide) ?_
    refine z_istore_n d_Md_alone_1 rfl (by decide) ?_
    refine z_iconst (v := nI 0) d_Md_alone_2 (by decide) ?_
    refine z_istore_n d_Md_alone_3 rfl (by decide) ?_
    refine z_iload_n d_Md_alone_4 rfl rfl ?_
    refine z_aload_n d_Md_alone_5 rfl rfl ?_
    refine z_mg HG d_Md_alone_6 (L_Md_107 HG) (by decide) rfl ?_
    refine z_eqi h3 ?_
    refine z_iconst (v := nI 1) d_Md_alone_9 (by decide) ?_
    refine z_isub d_Md_alone_10 ?_
    refine z_eqi (show nI 0 - nI 1 = -1 by decide) ?_
    refine z_icmp_ge (tgt := 38) d_Md_alone_11 rfl (fun c11 => ?_) (fun c11 => ?_)
    · refine z_iload_n d_Md_alone_38 rfl rfl ?_
      exact z_ireturn d_Md_alone_39 rfl rfl ⟨rfl, rfl⟩
    · exact absurd (by decide) c11
  | cons J js =>
    rw [hj] at h3 h6
    rw [List.length_cons] at h6
    refine z_iconst (v := nI 1) d_Md_alone_0 (by decide) ?_
    refine z_istore_n d_Md_alone_1 rfl (by decide) ?_
    refine z_iconst (v := nI 0) d_Md_alone_2 (by decide) ?_
    refine z_istore_n d_Md_alone_3 rfl (by decide) ?_
    refine z_fg [(0, .ref q), (1, .int (if p_cnt (js.reverse.take 0) K.2.1.length = 0 then nI 1 else nI 0)), (2, .int (nI 0))] ⟨rfl, rfl, rfl, trivial⟩ ?_
    exact l_Md_alone (J := J) HG h3 H.1.2.1 h4 (by omega) (fun k J' hk => H.cell Pk (by rw [hj, l_rl (by have := l_gi' hk; rw [List.length_reverse] at this; exact this)]; exact hk)) js.length 0 (by omega)
/-- what a view answers -/
def m_vw (K : pK) (x : Int32) : Option Value → (Nat → Int32) → (Nat → Nat → Int32) → Prop := fun o s' A' => o = some (.int x) ∧ mK K s' A'
theorem c_Md_counts (HG : z_ok G) (H : mK K s A) : z_C G m_Md_counts d [.ref q] (md G h q s A) (m_post G h q (m_vw K (nI (K.1.length + 8 * K.2.1.length + 64 * K.2.2.1.length + 1024 * K.2.2.2.length)))) := by
  refine z_C.of (Nat.le_of_ble_eq_true rfl) ?_
  refine z_aload_n d_Md_counts_0 rfl rfl ?_
  refine z_iconst (v := nI 0) d_Md_counts_1 (by decide) ?_
  refine z_mp HG d_Md_counts_2 (L_Md_41 HG) (by decide) rfl rfl rfl rfl ?_
  refine z_aload_n d_Md_counts_5 rfl rfl ?_
  refine z_mg HG d_Md_counts_6 (L_Md_107 HG) (by decide) rfl ?_
  refine z_eqi ((va_up_ne _ _ (by decide)).trans H.1.1) ?_
  refine z_bipush (v := nI 8) d_Md_counts_9 (by decide +kernel) ?_
  refine z_aload_n d_Md_counts_11 rfl rfl ?_
  refine z_mg HG d_Md_counts_12 (L_Md_104 HG) (by decide) rfl ?_
  refine z_eqi ((va_up_ne _ _ (by decide)).trans H.1.2.1) ?_
  refine z_imul d_Md_counts_15 ?_
  refine z_eqi (pk_mul _ _) ?_
  refine z_iadd d_Md_counts_16 ?_
  refine z_eqi (nI_add _ _) ?_
  refine z_bipush (v := nI 64) d_Md_counts_17 (by decide +kernel) ?_
  refine z_aload_n d_Md_counts_19 rfl rfl ?_
  refine z_mg HG d_Md_counts_20 (L_Md_117 HG) (by decide) rfl ?_
  refine z_eqi ((va_up_ne _ _ (by decide)).trans H.1.2.2.1) ?_
  refine z_imul d_Md_counts_23 ?_
  refine z_eqi (pk_mul _ _) ?_
  refine z_iadd d_Md_counts_24 ?_
  refine z_eqi (nI_add _ _) ?_
  refine z_sipush (v := nI 1024) d_Md_counts_25 (by decide +kernel) ?_
  refine z_aload_n d_Md_counts_28 rfl rfl ?_
  refine z_mg HG d_Md_counts_29 (L_Md_75 HG) (by decide) rfl ?_
  refine z_eqi ((va_up_ne _ _ (by decide)).trans H.1.2.2.2) ?_
  refine z_imul d_Md_counts_32 ?_
  refine z_eqi (pk_mul _ _) ?_
  refine z_iadd d_Md_counts_33 ?_
  refine z_eqi (nI_add _ _) ?_
  exact z_ireturn d_Md_counts_34 rfl rfl ⟨_, _, _, rfl, rfl, rfl, H.sc m_s3.rf m_sq4.up0⟩
theorem c_Md_judgement (HG : z_ok G) (H : mK K s A) {t : Nat} (k i : Int32) : z_C G m_Md_judgement (d + 2) [.ref q, .int k, .int (nI t), .int i] (md G h q s A) (m_post G h q (m_vw K (k_judg K k (nI t) i))) := by
  refine z_C.of (Nat.le_of_ble_eq_true rfl) ?_
  have h6 := H.2.1.1
  unfold k_judg
  refine z_aload_n d_Md_judgement_0 rfl rfl ?_
  refine z_iconst (v := nI 0) d_Md_judgement_1 (by decide) ?_
  refine z_mp HG d_Md_judgement_2 (L_Md_41 HG) (by decide) rfl rfl rfl rfl ?_
  refine z_iload_n d_Md_judgement_5 rfl rfl ?_
  refine z_if_lt (tgt := 17) d_Md_judgement_6 rfl (fun c6 => ?_) (fun c6 => ?_)
  · rw [k_ix_neg c6]
    refine z_iconst (v := -1) d_Md_judgement_17 (by decide) ?_
    refine z_goto (tgt := 45) d_Md_judgement_18 rfl ?_
    exact z_ireturn d_Md_judgement_45 rfl rfl ⟨_, _, _, rfl, rfl, rfl, H.sc m_s3.rf m_sq4.up0⟩
  · refine z_iload_n d_Md_judgement_9 rfl rfl ?_
    refine z_aload_n d_Md_judgement_10 rfl rfl ?_
    refine z_mg HG d_Md_judgement_11 (L_Md_107 HG) (by decide) rfl ?_
    refine z_eqi ((va_up_ne _ _ (by decide)).trans H.1.1) ?_
    refine z_icmp_lt (tgt := 21) d_Md_judgement_14 rfl (fun c14 => ?_) (fun c14 => ?_)
    · obtain ⟨j, hj, rfl⟩ := nI_of c6
      rw [nI_ltI (by omega) (by omega)] at c14
      rw [k_ix_nI (by omega) (by omega)]
      have hg := List.getElem?_eq_getElem c14
      dsimp only
      rw [hg]
      generalize K.1[j] = J at hg
      obtain ⟨u1, u2, u3⟩ := H.jd hg
      show z_V _ _ _ _ _ _ _ (m_post G h q (m_vw K (if nI t = 0 then p_at J.2.1 i else p_at J.2.2 i)))
      refine z_aload_n d_Md_judgement_21 rfl rfl ?_
      refine z_iload_n d_Md_judgement_22 rfl rfl ?_
      refine z_if_eq (tgt := 31) d_Md_judgement_23 rfl (fun c23 => ?_) (fun c23 => ?_)
      · rw [if_pos c23]
        refine z_iconst (v := nI 0) d_Md_judgement_31 (by decide) ?_
        refine z_aload_n d_Md_judgement_32 rfl rfl ?_
        refine z_mg HG d_Md_judgement_33 (L_Md_107 HG) (by decide) rfl ?_
        refine z_eqi ((va_up_ne _ _ (by decide)).trans H.1.1) ?_
        refine z_iadd d_Md_judgement_36 ?_
        refine z_eqi (nI_add _ _) ?_
        refine z_iconst (v := nI 1) d_Md_judgement_37 (by decide) ?_
        refine z_isub d_Md_judgement_38 ?_
        refine z_eqi (pk_sub (by omega)) ?_
        refine z_iload_n d_Md_judgement_39 rfl rfl ?_
        refine z_isub d_Md_judgement_40 ?_
        refine z_eqi ((pk_sub (by omega)).trans (pk_bump (show _ = K.1.length - 1 - j by omega))) ?_
        refine z_iload_n d_Md_judgement_41 rfl rfl ?_
        refine z_mr (as := [.int (nI (K.1.length - 1 - j)), .int i]) (dY := d + 1) HG d_Md_judgement_42 rfl (by omega) (Y_Md_156 HG) rfl rfl (Nat.le_of_ble_eq_true rfl) (c_Md_seen HG (by omega) u2 i) ?_
        exact z_ireturn d_Md_judgement_45 rfl rfl ⟨_, _, _, rfl, rfl, rfl, H.sc m_s3.rf m_sq4.up0⟩
      · rw [if_neg c23]
        refine z_bipush (v := nI 6) d_Md_judgement_26 (by decide +kernel) ?_
        refine z_goto (tgt := 32) d_Md_judgement_28 rfl ?_
        refine z_aload_n d_Md_judgement_32 rfl rfl ?_
        refine z_mg HG d_Md_judgement_33 (L_Md_107 HG) (by decide) rfl ?_
        refine z_eqi ((va_up_ne _ _ (by decide)).trans H.1.1) ?_
        refine z_iadd d_Md_judgement_36 ?_
        refine z_eqi (nI_add _ _) ?_
        refine z_iconst (v := nI 1) d_Md_judgement_37 (by decide) ?_
        refine z_isub d_Md_judgement_38 ?_
        refine z_eqi (pk_sub (by omega)) ?_
        refine z_iload_n d_Md_judgement_39 rfl rfl ?_
        refine z_isub d_Md_judgement_40 ?_
        refine z_eqi ((pk_sub (by omega)).trans (pk_bump (show _ = 6 + (K.1.length - 1 - j) by omega))) ?_
        refine z_iload_n d_Md_judgement_41 rfl rfl ?_
        refine z_mr (as := [.int (nI (6 + (K.1.length - 1 - j))), .int i]) (dY := d + 1) HG d_Md_judgement_42 rfl (by omega) (Y_Md_156 HG) rfl rfl (Nat.le_of_ble_eq_true rfl) (c_Md_seen HG (by omega) u3 i) ?_
        exact z_ireturn d_Md_judgement_45 rfl rfl ⟨_, _, _, rfl, rfl, rfl, H.sc m_s3.rf m_sq4.up0⟩
    · rw [k_ix_big c6 c14]
      refine z_iconst (v := -1) d_Md_judgement_17 (by decide) ?_
      refine z_goto (tgt := 45) d_Md_judgement_18 rfl ?_
      exact z_ireturn d_Md_judgement_45 rfl rfl ⟨_, _, _, rfl, rfl, rfl, H.sc m_s3.rf m_sq4.up0⟩
theorem c_Md_made (HG : z_ok G) (H : mK K s A) (k : Int32) : z_C G m_Md_made d [.ref q, .int k] (md G h q s A) (m_post G h q (m_vw K (k_made K k))) := by
  refine z_C.of (Nat.le_of_ble_eq_true rfl) ?_
  have h6 := H.2.1.1
  unfold k_made
  refine z_aload_n d_Md_made_0 rfl rfl ?_
  refine z_iconst (v := nI 0) d_Md_made_1 (by decide) ?_
  refine z_mp HG d_Md_made_2 (L_Md_41 HG) (by decide) rfl rfl rfl rfl ?_
  refine z_iload_n d_Md_made_5 rfl rfl ?_
  refine z_if_lt (tgt := 17) d_Md_made_6 rfl (fun c6 => ?_) (fun c6 => ?_)
  · rw [k_ix_neg c6]
    refine z_iconst (v := -1) d_Md_made_17 (by decide) ?_
    refine z_goto (tgt := 34) d_Md_made_18 rfl ?_
    exact z_ireturn d_Md_made_34 rfl rfl ⟨_, _, _, rfl, rfl, rfl, H.sc m_s3.rf m_sq4.up0⟩
  · refine z_iload_n d_Md_made_9 rfl rfl ?_
    refine z_aload_n d_Md_made_10 rfl rfl ?_
    refine z_mg HG d_Md_made_11 (L_Md_107 HG) (by decide) rfl ?_
    refine z_eqi ((va_up_ne _ _ (by decide)).trans H.1.1) ?_
    refine z_icmp_lt (tgt := 21) d_Md_made_14 rfl (fun c14 => ?_) (fun c14 => ?_)
    · obtain ⟨j, hj, rfl⟩ := nI_of c6
      rw [nI_ltI (by omega) (by omega)] at c14
      rw [k_ix_nI (by omega) (by omega)]
      have hg := List.getElem?_eq_getElem c14
      dsimp only
      rw [hg]
      generalize K.1[j] = J at hg
      obtain ⟨u1, u2, u3⟩ := H.jd hg
      refine z_aload_n d_Md_made_21 rfl rfl ?_
      refine z_mg HG d_Md_made_22 (L_Md_16 HG) (by decide) rfl ?_
      refine z_aload_n d_Md_made_25 rfl rfl ?_
      refine z_mg HG d_Md_made_26 (L_Md_107 HG) (by decide) rfl ?_
      refine z_eqi ((va_up_ne _ _ (by decide)).trans H.1.1) ?_
      refine z_iconst (v := nI 1) d_Md_made_29 (by decide) ?_
      refine z_isub d_Md_made_30 ?_
      refine z_eqi (pk_sub (by omega)) ?_
      refine z_iload_n d_Md_made_31 rfl rfl ?_
      refine z_isub d_Md_made_32 ?_
      refine z_eqi (pk_sub (by omega)) ?_
      refine z_ml HG 3 d_Md_made_33 (by decide) (show _ < 6 by omega) u1 ?_
      exact z_ireturn d_Md_made_34 rfl rfl ⟨_, _, _, rfl, rfl, rfl, H.sc m_s3.rf m_sq4.up0⟩
    · rw [k_ix_big c6 c14]
      refine z_iconst (v := -1) d_Md_made_17 (by decide) ?_
      refine z_goto (tgt := 34) d_Md_made_18 rfl ?_
      exact z_ireturn d_Md_made_34 rfl rfl ⟨_, _, _, rfl, rfl, rfl, H.sc m_s3.rf m_sq4.up0⟩
theorem c_Md_entry (HG : z_ok G) (H : mK K s A) (k i : Int32) : z_C G m_Md_entry (d + 2) [.ref q, .int k, .int i] (md G h q s A) (m_post G h q (m_vw K (k_entry K k i))) := by
  refine z_C.of (Nat.le_of_ble_eq_true rfl) ?_
  have h6 := H.2.1.2.1
  unfold k_entry
  refine z_aload_n d_Md_entry_0 rfl rfl ?_
  refine z_iconst (v := nI 0) d_Md_entry_1 (by decide) ?_
  refine z_mp HG d_Md_entry_2 (L_Md_41 HG) (by decide) rfl rfl rfl rfl ?_
  refine z_iload_n d_Md_entry_5 rfl rfl ?_
  refine z_if_lt (tgt := 17) d_Md_entry_6 rfl (fun c6 => ?_) (fun c6 => ?_)
  · rw [k_ix_neg c6]
    refine z_iconst (v := -1) d_Md_entry_17 (by decide) ?_
    refine z_goto (tgt := 37) d_Md_entry_18 rfl ?_
    exact z_ireturn d_Md_entry_37 rfl rfl ⟨_, _, _, rfl, rfl, rfl, H.sc m_s3.rf m_sq4.up0⟩
  · refine z_iload_n d_Md_entry_9 rfl rfl ?_
    refine z_aload_n d_Md_entry_10 rfl rfl ?_
    refine z_mg HG d_Md_entry_11 (L_Md_104 HG) (by decide) rfl ?_
    refine z_eqi ((va_up_ne _ _ (by decide)).trans H.1.2.1) ?_
    refine z_icmp_lt (tgt := 21) d_Md_entry_14 rfl (fun c14 => ?_) (fun c14 => ?_)
    · obtain ⟨j, hj, rfl⟩ := nI_of c6
      rw [nI_ltI (by omega) (by omega)] at c14
      rw [k_ix_nI (by omega) (by omega)]
      have hg := List.getElem?_eq_getElem c14
      dsimp only
      rw [hg]
      generalize K.2.1[j] = c at hg
      have u2 := H.ent hg
      refine z_aload_n d_Md_entry_21 rfl rfl ?_
      refine z_bipush (v := nI 12) d_Md_entry_22 (by decide +kernel) ?_
      refine z_aload_n d_Md_entry_24 rfl rfl ?_
      refine z_mg HG d_Md_entry_25 (L_Md_104 HG) (by decide) rfl ?_
      refine z_eqi ((va_up_ne _ _ (by decide)).trans H.1.2.1) ?_
      refine z_iadd d_Md_entry_28 ?_
      refine z_eqi (nI_add _ _) ?_
      refine z_iconst (v := nI 1) d_Md_entry_29 (by decide) ?_
      refine z_isub d_Md_entry_30 ?_
      refine z_eqi (pk_sub (by omega)) ?_
      refine z_iload_n d_Md_entry_31 rfl rfl ?_
      refine z_isub d_Md_entry_32 ?_
      refine z_eqi ((pk_sub (by omega)).trans (pk_bump (show _ = 12 + (K.2.1.length - 1 - j) by omega))) ?_
      refine z_iload_n d_Md_entry_33 rfl rfl ?_
      refine z_mr (as := [.int (nI (12 + (K.2.1.length - 1 - j))), .int i]) (dY := d + 1) HG d_Md_entry_34 rfl (by omega) (Y_Md_156 HG) rfl rfl (Nat.le_of_ble_eq_true rfl) (c_Md_seen HG (by omega) u2 i) ?_
      exact z_ireturn d_Md_entry_37 rfl rfl ⟨_, _, _, rfl, rfl, rfl, H.sc m_s3.rf m_sq4.up0⟩
    · rw [k_ix_big c6 c14]
      refine z_iconst (v := -1) d_Md_entry_17 (by decide) ?_
      refine z_goto (tgt := 37) d_Md_entry_18 rfl ?_
      exact z_ireturn d_Md_entry_37 rfl rfl ⟨_, _, _, rfl, rfl, rfl, H.sc m_s3.rf m_sq4.up0⟩
theorem c_Md_type (HG : z_ok G) (H : mK K s A) (k i : Int32) : z_C G m_Md_type (d + 2) [.ref q, .int k, .int i] (md G h q s A) (m_post G h q (m_vw K (k_type K k i))) := by
  refine z_C.of (Nat.le_of_ble_eq_true rfl) ?_
  have h6 := H.2.1.2.2.1
  unfold k_type
  refine z_aload_n d_Md_type_0 rfl rfl ?_
  refine z_iconst (v := nI 0) d_Md_type_1 (by decide) ?_
  refine z_mp HG d_Md_type_2 (L_Md_41 HG) (by decide) rfl rfl rfl rfl ?_
  refine z_iload_n d_Md_type_5 rfl rfl ?_
  refine z_if_lt (tgt := 17) d_Md_type_6 rfl (fun c6 => ?_) (fun c6 => ?_)
  · rw [k_ix_neg c6]
    refine z_iconst (v := -1) d_Md_type_17 (by decide) ?_
    exact z_ireturn d_Md_type_18 rfl rfl ⟨_, _, _, rfl, rfl, rfl, H.sc m_s3.rf m_sq4.up0⟩
  · refine z_iload_n d_Md_type_9 rfl rfl ?_
    refine z_aload_n d_Md_type_10 rfl rfl ?_
    refine z_mg HG d_Md_type_11 (L_Md_117 HG) (by decide) rfl ?_
    refine z_eqi ((va_up_ne _ _ (by decide)).trans H.1.2.2.1) ?_
    refine z_icmp_lt (tgt := 19) d_Md_type_14 rfl (fun c14 => ?_) (fun c14 => ?_)
    · obtain ⟨j, hj, rfl⟩ := nI_of c6
      rw [nI_ltI (by omega) (by omega)] at c14
      rw [k_ix_nI (by omega) (by omega)]
      have hg := List.getElem?_eq_getElem c14
      dsimp only
      rw [hg]
      generalize K.2.2.1[j] = c at hg
      obtain ⟨u1, u2⟩ := H.2.2.2.2.1 j c hg
      show z_V _ _ _ _ _ _ _ (m_post G h q (m_vw K (if i = -1 then (if c.2 = true then nI 1 else nI 0) else p_at c.1 i)))
      refine z_iload_n d_Md_type_19 rfl rfl ?_
      refine z_iconst (v := -1) d_Md_type_20 (by decide) ?_
      refine z_icmp_ne (tgt := 41) d_Md_type_21 rfl (fun c21 => ?_) (fun c21 => ?_)
      · rw [if_neg c21]
        refine z_aload_n d_Md_type_41 rfl rfl ?_
        refine z_bipush (v := nI 16) d_Md_type_42 (by decide +kernel) ?_
        refine z_iload_n d_Md_type_44 rfl rfl ?_
        refine z_iadd d_Md_type_45 ?_
        refine z_eqi (nI_add _ _) ?_
        refine z_iload_n d_Md_type_46 rfl rfl ?_
        refine z_mr (as := [.int (nI (16 + j)), .int i]) (dY := d + 1) HG d_Md_type_47 rfl (by omega) (Y_Md_156 HG) rfl rfl (Nat.le_of_ble_eq_true rfl) (c_Md_seen HG (by omega) u1 i) ?_
        exact z_ireturn d_Md_type_50 rfl rfl ⟨_, _, _, rfl, rfl, rfl, H.sc m_s3.rf m_sq4.up0⟩
      · rw [if_pos c21]
        refine z_aload_n d_Md_type_24 rfl rfl ?_
        refine z_mg HG d_Md_type_25 (L_Md_19 HG) (by decide) rfl ?_
        refine z_iload_n d_Md_type_28 rfl rfl ?_
        refine z_mlZ HG d_Md_type_29 (by omega) u2 ?_
        refine z_if_eq (tgt := 37) d_Md_type_30 rfl (fun c30 => ?_) (fun c30 => ?_)
        · have c30 := b_eq c30
          rw [if_neg c30]
          refine z_iconst (v := nI 0) d_Md_type_37 (by decide) ?_
          refine z_goto (tgt := 50) d_Md_type_38 rfl ?_
          exact z_ireturn d_Md_type_50 rfl rfl ⟨_, _, _, rfl, rfl, rfl, H.sc m_s3.rf m_sq4.up0⟩
        · have c30 := b_ne c30
          rw [if_pos c30]
          refine z_iconst (v := nI 1) d_Md_type_33 (by decide) ?_
          refine z_goto (tgt := 50) d_Md_type_34 rfl ?_
          exact z_ireturn d_Md_type_50 rfl rfl ⟨_, _, _, rfl, rfl, rfl, H.sc m_s3.rf m_sq4.up0⟩
    · rw [k_ix_big c6 c14]
      refine z_iconst (v := -1) d_Md_type_17 (by decide) ?_
      exact z_ireturn d_Md_type_18 rfl rfl ⟨_, _, _, rfl, rfl, rfl, H.sc m_s3.rf m_sq4.up0⟩
theorem c_Md_side (HG : z_ok G) (H : mK K s A) {t : Nat} (k i : Int32) : z_C G m_Md_side (d + 2) [.ref q, .int k, .int (nI t), .int i] (md G h q s A) (m_post G h q (m_vw K (k_side K k (nI t) i))) := by
  refine z_C.of (Nat.le_of_ble_eq_true rfl) ?_
  have h6 := H.2.1.2.2.2
  unfold k_side
  refine z_aload_n d_Md_side_0 rfl rfl ?_
  refine z_iconst (v := nI 0) d_Md_side_1 (by decide) ?_
  refine z_mp HG d_Md_side_2 (L_Md_41 HG) (by decide) rfl rfl rfl rfl ?_
  refine z_iload_n d_Md_side_5 rfl rfl ?_
  refine z_if_lt (tgt := 17) d_Md_side_6 rfl (fun c6 => ?_) (fun c6 => ?_)
  · rw [k_ix_neg c6]
    refine z_iconst (v := -1) d_Md_side_17 (by decide) ?_
    exact z_ireturn d_Md_side_18 rfl rfl ⟨_, _, _, rfl, rfl, rfl, H.sc m_s3.rf m_sq4.up0⟩
  · refine z_iload_n d_Md_side_9 rfl rfl ?_
    refine z_aload_n d_Md_side_10 rfl rfl ?_
    refine z_mg HG d_Md_side_11 (L_Md_75 HG) (by decide) rfl ?_
    refine z_eqi ((va_up_ne _ _ (by decide)).trans H.1.2.2.2) ?_
    refine z_icmp_lt (tgt := 19) d_Md_side_14 rfl (fun c14 => ?_) (fun c14 => ?_)
    · obtain ⟨j, hj, rfl⟩ := nI_of c6
      rw [nI_ltI (by omega) (by omega)] at c14
      rw [k_ix_nI (by omega) (by omega)]
      have hg := List.getElem?_eq_getElem c14
      dsimp only
      rw [hg]
      generalize K.2.2.2[j] = R at hg
      obtain ⟨⟨u1, u2⟩, u3⟩ := H.2.2.2.2.2 j R hg
      show z_V _ _ _ _ _ _ _ (m_post G h q (m_vw K (if i = -1 then nI R.2.2 else if nI t = 0 then p_at R.1 i else p_at R.2.1 i)))
      refine z_iload_n d_Md_side_19 rfl rfl ?_
      refine z_iconst (v := -1) d_Md_side_20 (by decide) ?_
      refine z_icmp_ne (tgt := 33) d_Md_side_21 rfl (fun c21 => ?_) (fun c21 => ?_)
      · rw [if_neg c21]
        refine z_aload_n d_Md_side_33 rfl rfl ?_
        refine z_iload_n d_Md_side_34 rfl rfl ?_
        refine z_if_eq (tgt := 43) d_Md_side_35 rfl (fun c35 => ?_) (fun c35 => ?_)
        · rw [if_pos c35]
          refine z_bipush (v := nI 24) d_Md_side_43 (by decide +kernel) ?_
          refine z_iload_n d_Md_side_45 rfl rfl ?_
          refine z_iadd d_Md_side_46 ?_
          refine z_eqi (nI_add _ _) ?_
          refine z_iload_n d_Md_side_47 rfl rfl ?_
          refine z_mr (as := [.int (nI (24 + j)), .int i]) (dY := d + 1) HG d_Md_side_48 rfl (by omega) (Y_Md_156 HG) rfl rfl (Nat.le_of_ble_eq_true rfl) (c_Md_seen HG (by omega) u1 i) ?_
          exact z_ireturn d_Md_side_51 rfl rfl ⟨_, _, _, rfl, rfl, rfl, H.sc m_s3.rf m_sq4.up0⟩
        · rw [if_neg c35]
          refine z_bipush (v := nI 32) d_Md_side_38 (by decide +kernel) ?_
          refine z_goto (tgt := 45) d_Md_side_40 rfl ?_
          refine z_iload_n d_Md_side_45 rfl rfl ?_
          refine z_iadd d_Md_side_46 ?_
          refine z_eqi (nI_add _ _) ?_
          refine z_iload_n d_Md_side_47 rfl rfl ?_
          refine z_mr (as := [.int (nI (32 + j)), .int i]) (dY := d + 1) HG d_Md_side_48 rfl (by omega) (Y_Md_156 HG) rfl rfl (Nat.le_of_ble_eq_true rfl) (c_Md_seen HG (by omega) u2 i) ?_
          exact z_ireturn d_Md_side_51 rfl rfl ⟨_, _, _, rfl, rfl, rfl, H.sc m_s3.rf m_sq4.up0⟩
      · rw [if_pos c21]
        refine z_aload_n d_Md_side_24 rfl rfl ?_
        refine z_mg HG d_Md_side_25 (L_Md_23 HG) (by decide) rfl ?_
        refine z_iload_n d_Md_side_28 rfl rfl ?_
        refine z_ml HG 5 d_Md_side_29 (by decide) (show _ < 8 by omega) u3 ?_
        refine z_goto (tgt := 51) d_Md_side_30 rfl ?_
        exact z_ireturn d_Md_side_51 rfl rfl ⟨_, _, _, rfl, rfl, rfl, H.sc m_s3.rf m_sq4.up0⟩
    · rw [k_ix_big c6 c14]
      refine z_iconst (v := -1) d_Md_side_17 (by decide) ?_
      exact z_ireturn d_Md_side_18 rfl rfl ⟨_, _, _, rfl, rfl, rfl, H.sc m_s3.rf m_sq4.up0⟩
theorem c_Md_drop (HG : z_ok G) (H : mK K s A) : z_C G m_Md_drop d [.ref q] (md G h q s A) (m_post G h q (m_out (fun _ => 0) K (k_drop K))) := by
  refine z_C.of (Nat.le_of_ble_eq_true rfl) ?_
  obtain ⟨js, K2⟩ := K
  have h6 := H.2.1.1
  have h6 : js.length ≤ 6 := h6
  have h3 : s 3 = nI js.length := H.1.1
  cases js with
  | nil =>
    have h3 : s 3 = nI 0 := h3
    refine z_aload_n d_Md_drop_0 rfl rfl ?_
    refine z_iconst (v := nI 0) d_Md_drop_1 (by decide) ?_
    refine z_mp HG d_Md_drop_2 (L_Md_41 HG) (by decide) rfl rfl rfl rfl ?_
    refine z_aload_n d_Md_drop_5 rfl rfl ?_
    refine z_mg HG d_Md_drop_6 (L_Md_107 HG) (by decide) rfl ?_
    refine z_eqi ((va_up_ne _ _ (by decide)).trans h3) ?_
    refine z_if_ne (tgt := 14) d_Md_drop_9 rfl (fun c9 => ?_) (fun c9 => ?_)
    · rw [← nI_0, nI_eq (by omega) (by omega)] at c9
      omega
    · rw [← nI_0, nI_eq (by omega) (by omega)] at c9
      refine z_iconst (v := nI 0) d_Md_drop_12 (by decide) ?_
      exact z_ireturn d_Md_drop_13 rfl rfl ⟨_, _, _, rfl, rfl, rfl, va_up_self _ _ _, H.sc m_s3.rf m_sq4.up0⟩
  | cons J js =>
    rw [List.length_cons] at h6
    have h3 : s 3 = nI (js.length + 1) := h3
    refine z_aload_n d_Md_drop_0 rfl rfl ?_
    refine z_iconst (v := nI 0) d_Md_drop_1 (by decide) ?_
    refine z_mp HG d_Md_drop_2 (L_Md_41 HG) (by decide) rfl rfl rfl rfl ?_
    refine z_aload_n d_Md_drop_5 rfl rfl ?_
    refine z_mg HG d_Md_drop_6 (L_Md_107 HG) (by decide) rfl ?_
    refine z_eqi ((va_up_ne _ _ (by decide)).trans h3) ?_
    refine z_if_ne (tgt := 14) d_Md_drop_9 rfl (fun c9 => ?_) (fun c9 => ?_)
    · rw [← nI_0, nI_eq (by omega) (by omega)] at c9
      refine z_aload_n d_Md_drop_14 rfl rfl ?_
      refine z_dup d_Md_drop_15 rfl ?_
      refine z_mg HG d_Md_drop_16 (L_Md_107 HG) (by decide) rfl ?_
      refine z_eqi ((va_up_ne _ _ (by decide)).trans h3) ?_
      refine z_iconst (v := nI 1) d_Md_drop_19 (by decide) ?_
      refine z_isub d_Md_drop_20 ?_
      refine z_eqi ((pk_sub (by omega)).trans (pk_bump (show _ = js.length by omega))) ?_
      refine z_mp HG d_Md_drop_21 (L_Md_107 HG) (by decide) rfl rfl rfl rfl ?_
      refine z_iconst (v := nI 1) d_Md_drop_24 (by decide) ?_
      exact z_ireturn d_Md_drop_25 rfl rfl ⟨_, _, _, rfl, rfl, rfl, (va_up_ne _ _ (by decide)).trans (va_up_self _ _ _), H.pop (va_up_self _ _ _) ((va_up_ne _ _ (by decide)).trans (va_up_ne _ _ (by decide))) ((va_up_ne _ _ (by decide)).trans (va_up_ne _ _ (by decide))) ((va_up_ne _ _ (by decide)).trans (va_up_ne _ _ (by decide)))⟩
    · rw [← nI_0, nI_eq (by omega) (by omega)] at c9
      omega
theorem c_Md_leave (HG : z_ok G) (H : mK K s A) (Pk : pok K) : z_C G m_Md_leave (d + 2) [.ref q] (md G h q s A) (m_post G h q (m_out (fun _ => 0) K (k_leave K))) := by
  refine z_C.of (Nat.le_of_ble_eq_true rfl) ?_
  have H0 := H.sc (s' := va_up s 0 (nI 0)) m_s3.rf m_sq4.up0
  have e0 : va_up s 0 (nI 0) 0 = nI 0 := va_up_self _ _ _
  obtain ⟨js, cs, K2⟩ := K
  have h4 : cs.length ≤ 4 := H.2.1.2.1
  have h6 : js.length ≤ 6 := H.2.1.1
  have h5 : va_up s 0 (nI 0) 5 = nI cs.length := H0.1.2.1
  have h3 : va_up s 0 (nI 0) 3 = nI js.length := H0.1.1
  cases cs with
  | nil =>
    have h5 : va_up s 0 (nI 0) 5 = nI 0 := h5
    refine z_aload_n d_Md_leave_0 rfl rfl ?_
    refine z_iconst (v := nI 0) d_Md_leave_1 (by decide) ?_
    refine z_mp HG d_Md_leave_2 (L_Md_41 HG) (by decide) rfl rfl rfl rfl ?_
    generalize va_up s 0 (nI 0) = s0 at H0 e0 h5 h3 ⊢
    refine z_aload_n d_Md_leave_5 rfl rfl ?_
    refine z_mg HG d_Md_leave_6 (L_Md_104 HG) (by decide) rfl ?_
    refine z_eqi h5 ?_
    refine z_if_eq (tgt := 32) d_Md_leave_9 rfl (fun c9 => ?_) (fun c9 => ?_)
    · rw [← nI_0, nI_eq (by omega) (by omega)] at c9
      refine z_iconst (v := nI 0) d_Md_leave_32 (by decide) ?_
      exact z_ireturn d_Md_leave_33 rfl rfl ⟨_, _, _, rfl, rfl, rfl, e0, H0⟩
    · rw [← nI_0, nI_eq (by omega) (by omega)] at c9
      omega
  | cons c cs =>
    have h5 : va_up s 0 (nI 0) 5 = nI (cs.length + 1) := h5
    rw [List.length_cons] at h4
    have hal := c_Md_alone (d := d) (q := q) (h := h) HG H0 Pk
    have hal : z_C G m_Md_alone (d + 1) [.ref q] (md G h q (va_up s 0 (nI 0)) A) (z_rq (some (.int (if p_cnt js.tail (cs.length + 1) = 0 then nI 1 else nI 0))) (md G h q (va_up s 0 (nI 0)) A)) := hal
    show z_V _ _ _ _ _ _ _ (m_post G h q (m_out (fun _ => 0) (js, c :: cs, K2) (if p_cnt js (cs.length + 1) = 0 then .inr (some (.int (nI 1)), (js, cs, K2)) else .inr (some (.int (nI 0)), (js, c :: cs, K2)))))
    cases js with
    | nil =>
      have h3 : va_up s 0 (nI 0) 3 = nI 0 := h3
      rw [if_pos (show p_cnt [] (cs.length + 1) = 0 from rfl)]
      refine z_aload_n d_Md_leave_0 rfl rfl ?_
      refine z_iconst (v := nI 0) d_Md_leave_1 (by decide) ?_
      refine z_mp HG d_Md_leave_2 (L_Md_41 HG) (by decide) rfl rfl rfl rfl ?_
      generalize va_up s 0 (nI 0) = s0 at H0 e0 h5 h3 hal ⊢
      refine z_aload_n d_Md_leave_5 rfl rfl ?_
      refine z_mg HG d_Md_leave_6 (L_Md_104 HG) (by decide) rfl ?_
      refine z_eqi h5 ?_
      refine z_if_eq (tgt := 32) d_Md_leave_9 rfl (fun c9 => ?_) (fun c9 => ?_)
      · rw [← nI_0, nI_eq (by omega) (by omega)] at c9
        omega
      · rw [← nI_0, nI_eq (by omega) (by omega)] at c9
        refine z_aload_n d_Md_leave_12 rfl rfl ?_
        refine z_mr (as := []) (dY := d + 1) HG d_Md_leave_13 rfl (by omega) (Y_Md_132 HG) rfl rfl (Nat.le_of_ble_eq_true rfl) hal ?_
        refine z_if_eq (tgt := 32) d_Md_leave_16 rfl (fun c16 => ?_) (fun c16 => ?_)
        · have c16 := b_eq c16
          exact absurd rfl c16
        · have c16 := b_ne c16
          refine z_aload_n d_Md_leave_19 rfl rfl ?_
          refine z_aload_n d_Md_leave_20 rfl rfl ?_
          refine z_mg HG d_Md_leave_21 (L_Md_107 HG) (by decide) rfl ?_
          refine z_eqi h3 ?_
          refine z_iconst (v := nI 1) d_Md_leave_24 (by decide) ?_
          refine z_isub d_Md_leave_25 ?_
          refine z_eqi (show nI 0 - nI 1 = -1 by decide) ?_
          refine z_mr (as := [.int ((-1))]) (dY := d) HG d_Md_leave_26 rfl (by omega) (Y_Md_110 HG) rfl rfl (Nat.le_of_ble_eq_true rfl) (c_Md_presentN HG) ?_
          refine z_if_eq (tgt := 34) d_Md_leave_29 rfl (fun c29 => ?_) (fun c29 => ?_)
          · rw [← nI_0, nI_eq (by omega) (by omega)] at c29
            refine z_aload_n d_Md_leave_34 rfl rfl ?_
            refine z_dup d_Md_leave_35 rfl ?_
            refine z_mg HG d_Md_leave_36 (L_Md_104 HG) (by decide) rfl ?_
            refine z_eqi h5 ?_
            refine z_iconst (v := nI 1) d_Md_leave_39 (by decide) ?_
            refine z_isub d_Md_leave_40 ?_
            refine z_eqi ((pk_sub (by omega)).trans (pk_bump (show _ = cs.length by omega))) ?_
            refine z_mp HG d_Md_leave_41 (L_Md_104 HG) (by decide) rfl rfl rfl rfl ?_
            refine z_iconst (v := nI 1) d_Md_leave_44 (by decide) ?_
            exact z_ireturn d_Md_leave_45 rfl rfl ⟨_, _, _, rfl, rfl, rfl, (va_up_ne _ _ (by decide)).trans e0, H0.cpop (va_up_ne _ _ (by decide)) (va_up_self _ _ _) (va_up_ne _ _ (by decide)) (va_up_ne _ _ (by decide))⟩
          · rw [← nI_0, nI_eq (by omega) (by omega)] at c29
            omega
    | cons J js =>
      have h3 : va_up s 0 (nI 0) 3 = nI (js.length + 1) := h3
      rw [List.length_cons] at h6
      have hJ := H.cell Pk (k := js.length) (J := J) l_rt
      obtain ⟨hJ1, hJ2⟩ := hJ
      rw [p_cnt_cons]
      refine z_aload_n d_Md_leave_0 rfl rfl ?_
      refine z_iconst (v := nI 0) d_Md_leave_1 (by decide) ?_
      refine z_mp HG d_Md_leave_2 (L_Md_41 HG) (by decide) rfl rfl rfl rfl ?_
      generalize va_up s 0 (nI 0) = s0 at H0 e0 h5 h3 hal ⊢
      refine z_aload_n d_Md_leave_5 rfl rfl ?_
      refine z_mg HG d_Md_leave_6 (L_Md_104 HG) (by decide) rfl ?_
      refine z_eqi h5 ?_
      refine z_if_eq (tgt := 32) d_Md_leave_9 rfl (fun c9 => ?_) (fun c9 => ?_)
      · rw [← nI_0, nI_eq (by omega) (by omega)] at c9
        omega
      · rw [← nI_0, nI_eq (by omega) (by omega)] at c9
        refine z_aload_n d_Md_leave_12 rfl rfl ?_
        refine z_mr (as := []) (dY := d + 1) HG d_Md_leave_13 rfl (by omega) (Y_Md_132 HG) rfl rfl (Nat.le_of_ble_eq_true rfl) hal ?_
        refine z_if_eq (tgt := 32) d_Md_leave_16 rfl (fun c16 => ?_) (fun c16 => ?_)
        · have c16 := b_eq c16
          rw [if_neg (show ¬ _ = 0 by have c16 : ¬ p_cnt js (cs.length + 1) = 0 := c16; omega)]
          refine z_iconst (v := nI 0) d_Md_leave_32 (by decide) ?_
          exact z_ireturn d_Md_leave_33 rfl rfl ⟨_, _, _, rfl, rfl, rfl, e0, H0⟩
        · have c16 := b_ne c16
          have c16 : p_cnt js (cs.length + 1) = 0 := c16
          refine z_aload_n d_Md_leave_19 rfl rfl ?_
          refine z_aload_n d_Md_leave_20 rfl rfl ?_
          refine z_mg HG d_Md_leave_21 (L_Md_107 HG) (by decide) rfl ?_
          refine z_eqi h3 ?_
          refine z_iconst (v := nI 1) d_Md_leave_24 (by decide) ?_
          refine z_isub d_Md_leave_25 ?_
          refine z_eqi ((pk_sub (by omega)).trans (pk_bump (show _ = js.length by omega))) ?_
          refine z_mr (as := [.int (nI js.length)]) (dY := d) HG d_Md_leave_26 rfl (by omega) (Y_Md_110 HG) rfl rfl (Nat.le_of_ble_eq_true rfl) (c_Md_present HG (by omega) (by omega) (by omega) hJ1 h5) ?_
          refine z_if_eq (tgt := 34) d_Md_leave_29 rfl (fun c29 => ?_) (fun c29 => ?_)
          · have c29 := b_eq c29
            rw [if_pos (show _ = 0 by rw [c16, if_neg c29])]
            refine z_aload_n d_Md_leave_34 rfl rfl ?_
            refine z_dup d_Md_leave_35 rfl ?_
            refine z_mg HG d_Md_leave_36 (L_Md_104 HG) (by decide) rfl ?_
            refine z_eqi h5 ?_
            refine z_iconst (v := nI 1) d_Md_leave_39 (by decide) ?_
            refine z_isub d_Md_leave_40 ?_
            refine z_eqi ((pk_sub (by omega)).trans (pk_bump (show _ = cs.length by omega))) ?_
            refine z_mp HG d_Md_leave_41 (L_Md_104 HG) (by decide) rfl rfl rfl rfl ?_
            refine z_iconst (v := nI 1) d_Md_leave_44 (by decide) ?_
            exact z_ireturn d_Md_leave_45 rfl rfl ⟨_, _, _, rfl, rfl, rfl, (va_up_ne _ _ (by decide)).trans e0, H0.cpop (va_up_ne _ _ (by decide)) (va_up_self _ _ _) (va_up_ne _ _ (by decide)) (va_up_ne _ _ (by decide))⟩
          · have c29 := b_ne c29
            rw [if_neg (show ¬ _ = 0 by rw [if_pos c29]; omega)]
            refine z_iconst (v := nI 0) d_Md_leave_32 (by decide) ?_
            exact z_ireturn d_Md_leave_33 rfl rfl ⟨_, _, _, rfl, rfl, rfl, e0, H0⟩
end MV
