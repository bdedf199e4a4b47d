/-! the reference: sort, constant, variable, assume -/
section MC
variable {G : z_G} {h : z_H} {q d n e : Nat} {s s' : Nat → Int32} {A A1 A2 A3 A4 : Nat → Nat → Int32} {K : pK} {t y : List Nat}
theorem mK.pushed (H : mK K s A) (hn : n = K.1.length) (hl : n < 6) (p : m_pu n e A A1) (w1 : m_wr A1 A2 n t) (k : m_s3 A2 A3) (w2 : m_wr A3 A4 (6 + n) y) (e3 : s' 3 = nI (n + 1)) (e5 : s' 5 = s 5) (e6 : s' 6 = s 6) (e8 : s' 8 = s 8) : mK ((e, t, y) :: K.1, K.2) s' A4 := by
  refine mK.push (J := (e, t, y)) H hn hl e3 e5 e6 e8 (fun r h1 h2 h3 => ?_) (fun j hj => ?_) ?_ ?_ ?_ ?_ w2.row
  · have p1 : m_same A A1 r := ⟨p.2.1 r h2 h3, fun i _ => congrFun (p.1 1 (by decide) (by decide)) _⟩
    exact ((p1.tr (w1.same h2)).tr (k.1 r h1)).tr (w2.same h3)
  · rw [w2.1 3 (by decide) (by decide), k.2.1, w1.1 3 (by decide) (by decide)]
    exact p.2.2.1 j hj
  · rw [w2.1 4 (by decide) (by decide), k.2.2.1, w1.1 4 (by decide) (by decide)]
    exact p.1 4 (by decide) (by decide)
  · rw [w2.1 5 (by decide) (by decide), k.2.2.2, w1.1 5 (by decide) (by decide)]
    exact p.1 5 (by decide) (by decide)
  · show A4 3 n = nI e
    rw [w2.1 3 (by decide) (by decide), k.2.1, w1.1 3 (by decide) (by decide)]
    exact p.2.2.2.1
  · exact w2.keep (by omega) (k.row (by omega) w1.row)
theorem c_Md_sort (HG : z_ok G) (H : mK K s A) : z_C G m_Md_sort (d + 1) [.ref q] (md G h q s A) (m_post G h q (m_outv (m_cd [z_UOE]) K (k_sort K))) := by
  refine z_C.of (Nat.le_of_ble_eq_true rfl) ?_
  have h6 := H.2.1.1
  have h3 := H.1.1
  have h5 := H.1.2.1
  by_cases hc : K.1.length = 6
  · rw [hc] at h3
    rw [show k_sort K = .inl z_UOE from if_pos hc]
    refine z_aload_n d_Md_sort_0 rfl rfl ?_
    refine z_aload_n d_Md_sort_1 rfl rfl ?_
    refine z_mr (as := []) (dY := d) HG d_Md_sort_2 rfl (by omega) (Y_Md_113 HG) rfl rfl (Nat.le_of_ble_eq_true rfl) (c_Md_pushX HG h3) ?_
    refine z_if_eq (tgt := 12) d_Md_sort_5 rfl (fun c5 => ?_) (fun c5 => ?_)
    · rw [← nI_0, nI_eq (by omega) (by omega)] at c5
      refine z_iconst (v := nI 1) d_Md_sort_12 (by decide) ?_
      refine z_mp HG d_Md_sort_13 (L_Md_41 HG) (by decide) rfl rfl rfl rfl ?_
      refine z_aload_n d_Md_sort_16 rfl rfl ?_
      refine z_mg HG d_Md_sort_17 (L_Md_41 HG) (by decide) rfl ?_
      refine z_eqi (va_up_self _ _ _) ?_
      refine z_if_ne (tgt := 50) d_Md_sort_20 rfl (fun c20 => ?_) (fun c20 => ?_)
      · rw [← nI_0, nI_eq (by omega) (by omega)] at c20
        exact z_return d_Md_sort_50 rfl ⟨_, _, _, rfl, rfl, rfl, (va_up_self _ _ _).trans (by rw [show m_cd [z_UOE] z_UOE = 1 by decide +kernel]), H.sc m_s3.rf m_sq4.up0⟩
      · rw [← nI_0, nI_eq (by omega) (by omega)] at c20
        omega
    · rw [← nI_0, nI_eq (by omega) (by omega)] at c5
      omega
  · rw [show k_sort K = .inr (none, ((K.2.1.length, [0], [1]) :: K.1, K.2)) from if_neg hc]
    generalize hn : K.1.length = n at h3 h6 hc
    refine z_aload_n d_Md_sort_0 rfl rfl ?_
    refine z_aload_n d_Md_sort_1 rfl rfl ?_
    refine z_mc (as := []) (dY := d) HG d_Md_sort_2 rfl (by omega) (Y_Md_113 HG) rfl rfl (Nat.le_of_ble_eq_true rfl) (c_Md_push HG (by omega) h3 h5) (fun v1 s1 A1 hp1 => ?_)
    obtain ⟨rfl, rfl, pu⟩ := hp1
    refine z_if_eq (tgt := 12) d_Md_sort_5 rfl (fun c5 => ?_) (fun c5 => ?_)
    · rw [← nI_0, nI_eq (by omega) (by omega)] at c5
      omega
    · rw [← nI_0, nI_eq (by omega) (by omega)] at c5
      refine z_iconst (v := nI 0) d_Md_sort_8 (by decide) ?_
      refine z_goto (tgt := 13) d_Md_sort_9 rfl ?_
      refine z_mp HG d_Md_sort_13 (L_Md_41 HG) (by decide) rfl rfl rfl rfl ?_
      refine z_aload_n d_Md_sort_16 rfl rfl ?_
      refine z_mg HG d_Md_sort_17 (L_Md_41 HG) (by decide) rfl ?_
      refine z_eqi (va_up_self _ _ _) ?_
      refine z_if_ne (tgt := 50) d_Md_sort_20 rfl (fun c20 => ?_) (fun c20 => ?_)
      · rw [← nI_0, nI_eq (by omega) (by omega)] at c20
        omega
      · rw [← nI_0, nI_eq (by omega) (by omega)] at c20
        refine z_aload_n d_Md_sort_23 rfl rfl ?_
        refine z_iconst (v := nI 0) d_Md_sort_24 (by decide) ?_
        refine z_aload_n d_Md_sort_25 rfl rfl ?_
        refine z_mg HG d_Md_sort_26 (L_Md_107 HG) (by decide) rfl ?_
        refine z_eqi ((va_up_ne _ _ (by decide)).trans (va_up_self _ _ _)) ?_
        refine z_iadd d_Md_sort_29 ?_
        refine z_eqi (nI_add _ _) ?_
        refine z_iconst (v := nI 1) d_Md_sort_30 (by decide) ?_
        refine z_isub d_Md_sort_31 ?_
        refine z_eqi ((pk_sub (by omega)).trans (pk_bump (show _ = n by omega))) ?_
        refine z_iconst (v := nI 0) d_Md_sort_32 (by decide) ?_
        refine z_mc (as := [.int (nI n), .int (nI 0)]) (dY := d) HG d_Md_sort_33 rfl (by omega) (Y_Md_53 HG) rfl rfl (Nat.le_of_ble_eq_true rfl) (c_Md_add HG (by omega) pu.2.2.2.2.1 (by omega)) (fun v2 s2 A2 hp2 => ?_)
        obtain ⟨rfl, hp2⟩ := hp2
        obtain ⟨rfl, w1⟩ := hp2.fit (Nat.le_of_ble_eq_true rfl)
        refine z_aload_n d_Md_sort_36 rfl rfl ?_
        refine z_bipush (v := nI 6) d_Md_sort_37 (by decide +kernel) ?_
        refine z_aload_n d_Md_sort_39 rfl rfl ?_
        refine z_mg HG d_Md_sort_40 (L_Md_107 HG) (by decide) rfl ?_
        refine z_eqi ((va_up_ne _ _ (by decide)).trans (va_up_self _ _ _)) ?_
        refine z_iadd d_Md_sort_43 ?_
        refine z_eqi (nI_add _ _) ?_
        refine z_iconst (v := nI 1) d_Md_sort_44 (by decide) ?_
        refine z_isub d_Md_sort_45 ?_
        refine z_eqi ((pk_sub (by omega)).trans (pk_bump (show _ = 6 + n by omega))) ?_
        refine z_iconst (v := nI 1) d_Md_sort_46 (by decide) ?_
        refine z_mc (as := [.int (nI (6 + n)), .int (nI 1)]) (dY := d) HG d_Md_sort_47 rfl (by omega) (Y_Md_53 HG) rfl rfl (Nat.le_of_ble_eq_true rfl) (c_Md_add HG (by omega) (w1.keep (by omega) pu.2.2.2.2.2) (by omega)) (fun v3 s3 A3 hp3 => ?_)
        obtain ⟨rfl, hp3⟩ := hp3
        obtain ⟨rfl, w2⟩ := hp3.fit (Nat.le_of_ble_eq_true rfl)
        exact z_return d_Md_sort_50 rfl ⟨_, _, _, rfl, rfl, rfl, rfl, H.pushed hn.symm (by omega) pu w1 m_s3.rf w2 rfl rfl rfl rfl⟩
theorem c_Md_constant (HG : z_ok G) (H : mK K s A) (i : Int32) : z_C G m_Md_constant (d + 2) [.ref q, .int i] (md G h q s A) (m_post G h q (m_outv (m_cd [z_IOB, z_UOE]) K (k_const K i))) := by
  refine z_C.of (Nat.le_of_ble_eq_true rfl) ?_
  have h6 := H.2.1.1
  have h8 := H.2.1.2.2.1
  have h3 := H.1.1
  have h5 := H.1.2.1
  unfold k_const
  refine z_aload_n d_Md_constant_0 rfl rfl ?_
  refine z_iload_n d_Md_constant_1 rfl rfl ?_
  refine z_if_lt (tgt := 13) d_Md_constant_2 rfl (fun c2 => ?_) (fun c2 => ?_)
  · rw [k_ix_neg c2]
    refine z_iconst (v := nI 1) d_Md_constant_13 (by decide) ?_
    refine z_goto (tgt := 29) d_Md_constant_14 rfl ?_
    refine z_mp HG d_Md_constant_29 (L_Md_41 HG) (by decide) rfl rfl rfl rfl ?_
    refine z_aload_n d_Md_constant_32 rfl rfl ?_
    refine z_mg HG d_Md_constant_33 (L_Md_41 HG) (by decide) rfl ?_
    refine z_eqi (va_up_self _ _ _) ?_
    refine z_if_ne (tgt := 72) d_Md_constant_36 rfl (fun c36 => ?_) (fun c36 => ?_)
    · rw [← nI_0, nI_eq (by omega) (by omega)] at c36
      exact z_return d_Md_constant_72 rfl ⟨_, _, _, rfl, rfl, rfl, (va_up_self _ _ _).trans (by rw [show m_cd [z_IOB, z_UOE] z_IOB = 1 by decide +kernel]), H.sc m_s3.rf m_sq4.up0⟩
    · rw [← nI_0, nI_eq (by omega) (by omega)] at c36
      omega
  · refine z_iload_n d_Md_constant_5 rfl rfl ?_
    refine z_aload_n d_Md_constant_6 rfl rfl ?_
    refine z_mg HG d_Md_constant_7 (L_Md_117 HG) (by decide) rfl ?_
    refine z_eqi H.1.2.2.1 ?_
    refine z_icmp_lt (tgt := 17) d_Md_constant_10 rfl (fun c10 => ?_) (fun c10 => ?_)
    · obtain ⟨j, hj, rfl⟩ := nI_of c2
      rw [nI_ltI (by omega) (by omega)] at c10
      rw [k_ix_nI (by omega) (by omega)]
      have hg := List.getElem?_eq_getElem c10
      dsimp only
      rw [hg]
      generalize K.2.2.1[j] = c at hg
      have u1 := (H.2.2.2.2.1 j c hg).1
      by_cases hc : K.1.length = 6
      · rw [hc] at h3
        rw [if_pos hc]
        refine z_aload_n d_Md_constant_17 rfl rfl ?_
        refine z_mr (as := []) (dY := d) HG d_Md_constant_18 rfl (by omega) (Y_Md_113 HG) rfl rfl (Nat.le_of_ble_eq_true rfl) (c_Md_pushX HG h3) ?_
        refine z_if_eq (tgt := 28) d_Md_constant_21 rfl (fun c21 => ?_) (fun c21 => ?_)
        · rw [← nI_0, nI_eq (by omega) (by omega)] at c21
          refine z_iconst (v := nI 2) d_Md_constant_28 (by decide) ?_
          refine z_mp HG d_Md_constant_29 (L_Md_41 HG) (by decide) rfl rfl rfl rfl ?_
          refine z_aload_n d_Md_constant_32 rfl rfl ?_
          refine z_mg HG d_Md_constant_33 (L_Md_41 HG) (by decide) rfl ?_
          refine z_eqi (va_up_self _ _ _) ?_
          refine z_if_ne (tgt := 72) d_Md_constant_36 rfl (fun c36 => ?_) (fun c36 => ?_)
          · rw [← nI_0, nI_eq (by omega) (by omega)] at c36
            exact z_return d_Md_constant_72 rfl ⟨_, _, _, rfl, rfl, rfl, (va_up_self _ _ _).trans (by rw [show m_cd [z_IOB, z_UOE] z_UOE = 2 by decide +kernel]), H.sc m_s3.rf m_sq4.up0⟩
          · rw [← nI_0, nI_eq (by omega) (by omega)] at c36
            omega
        · rw [← nI_0, nI_eq (by omega) (by omega)] at c21
          omega
      · rw [if_neg hc]
        generalize hn : K.1.length = n at h3 h6 hc
        refine z_aload_n d_Md_constant_17 rfl rfl ?_
        refine z_mc (as := []) (dY := d) HG d_Md_constant_18 rfl (by omega) (Y_Md_113 HG) rfl rfl (Nat.le_of_ble_eq_true rfl) (c_Md_push HG (by omega) h3 h5) (fun v1 s1 A1 hp1 => ?_)
        obtain ⟨rfl, rfl, pu⟩ := hp1
        refine z_if_eq (tgt := 28) d_Md_constant_21 rfl (fun c21 => ?_) (fun c21 => ?_)
        · rw [← nI_0, nI_eq (by omega) (by omega)] at c21
          omega
        · rw [← nI_0, nI_eq (by omega) (by omega)] at c21
          refine z_iconst (v := nI 0) d_Md_constant_24 (by decide) ?_
          refine z_goto (tgt := 29) d_Md_constant_25 rfl ?_
          refine z_mp HG d_Md_constant_29 (L_Md_41 HG) (by decide) rfl rfl rfl rfl ?_
          refine z_aload_n d_Md_constant_32 rfl rfl ?_
          refine z_mg HG d_Md_constant_33 (L_Md_41 HG) (by decide) rfl ?_
          refine z_eqi (va_up_self _ _ _) ?_
          refine z_if_ne (tgt := 72) d_Md_constant_36 rfl (fun c36 => ?_) (fun c36 => ?_)
          · rw [← nI_0, nI_eq (by omega) (by omega)] at c36
            omega
          · rw [← nI_0, nI_eq (by omega) (by omega)] at c36
            have u1p : mrow A1 (16 + j) c.1 := (show m_same A A1 (16 + j) from ⟨pu.2.1 _ (by omega) (by omega), fun i _ => congrFun (pu.1 1 (by decide) (by decide)) _⟩).row u1
            refine z_aload_n d_Md_constant_39 rfl rfl ?_
            refine z_iconst (v := nI 0) d_Md_constant_40 (by decide) ?_
            refine z_aload_n d_Md_constant_41 rfl rfl ?_
            refine z_mg HG d_Md_constant_42 (L_Md_107 HG) (by decide) rfl ?_
            refine z_eqi ((va_up_ne _ _ (by decide)).trans (va_up_self _ _ _)) ?_
            refine z_iadd d_Md_constant_45 ?_
            refine z_eqi (nI_add _ _) ?_
            refine z_iconst (v := nI 1) d_Md_constant_46 (by decide) ?_
            refine z_isub d_Md_constant_47 ?_
            refine z_eqi ((pk_sub (by omega)).trans (pk_bump (show _ = n by omega))) ?_
            refine z_bipush (v := nI 10) d_Md_constant_48 (by decide +kernel) ?_
            refine z_iload_n d_Md_constant_50 rfl rfl ?_
            refine z_iadd d_Md_constant_51 ?_
            refine z_eqi (nI_add _ _) ?_
            refine z_mc (as := [.int (nI n), .int (nI (10 + j))]) (dY := d) HG d_Md_constant_52 rfl (by omega) (Y_Md_53 HG) rfl rfl (Nat.le_of_ble_eq_true rfl) (c_Md_add HG (by omega) pu.2.2.2.2.1 (by omega)) (fun v2 s2 A2 hp2 => ?_)
            obtain ⟨rfl, hp2⟩ := hp2
            obtain ⟨rfl, w1⟩ := hp2.fit (Nat.le_of_ble_eq_true rfl)
            refine z_aload_n d_Md_constant_55 rfl rfl ?_
            refine z_bipush (v := nI 6) d_Md_constant_56 (by decide +kernel) ?_
            refine z_aload_n d_Md_constant_58 rfl rfl ?_
            refine z_mg HG d_Md_constant_59 (L_Md_107 HG) (by decide) rfl ?_
            refine z_eqi ((va_up_ne _ _ (by decide)).trans (va_up_self _ _ _)) ?_
            refine z_iadd d_Md_constant_62 ?_
            refine z_eqi (nI_add _ _) ?_
            refine z_iconst (v := nI 1) d_Md_constant_63 (by decide) ?_
            refine z_isub d_Md_constant_64 ?_
            refine z_eqi ((pk_sub (by omega)).trans (pk_bump (show _ = 6 + n by omega))) ?_
            refine z_bipush (v := nI 16) d_Md_constant_65 (by decide +kernel) ?_
            refine z_iload_n d_Md_constant_67 rfl rfl ?_
            refine z_iadd d_Md_constant_68 ?_
            refine z_eqi (nI_add _ _) ?_
            refine z_mc (as := [.int (nI (6 + n)), .int (nI (16 + j))]) (dY := d + 1) HG d_Md_constant_69 rfl (by omega) (Y_Md_57 HG) rfl rfl (Nat.le_of_ble_eq_true rfl) (c_Md_addRow HG (by omega) (by omega) (by omega) (w1.keep (by omega) pu.2.2.2.2.2) (w1.keep (by omega) u1p)) (fun v3 s3 A3 hp3 => ?_)
            obtain ⟨rfl, hp3⟩ := hp3
            obtain ⟨rfl, w2⟩ := hp3.fit (by have := u1.len; simp only [List.length_nil]; omega)
            exact z_return d_Md_constant_72 rfl ⟨_, _, _, rfl, rfl, rfl, rfl, H.pushed hn.symm (by omega) pu w1 m_s3.rf w2 rfl rfl rfl rfl⟩
    · rw [k_ix_big c2 c10]
      refine z_iconst (v := nI 1) d_Md_constant_13 (by decide) ?_
      refine z_goto (tgt := 29) d_Md_constant_14 rfl ?_
      refine z_mp HG d_Md_constant_29 (L_Md_41 HG) (by decide) rfl rfl rfl rfl ?_
      refine z_aload_n d_Md_constant_32 rfl rfl ?_
      refine z_mg HG d_Md_constant_33 (L_Md_41 HG) (by decide) rfl ?_
      refine z_eqi (va_up_self _ _ _) ?_
      refine z_if_ne (tgt := 72) d_Md_constant_36 rfl (fun c36 => ?_) (fun c36 => ?_)
      · rw [← nI_0, nI_eq (by omega) (by omega)] at c36
        exact z_return d_Md_constant_72 rfl ⟨_, _, _, rfl, rfl, rfl, (va_up_self _ _ _).trans (by rw [show m_cd [z_IOB, z_UOE] z_IOB = 1 by decide +kernel]), H.sc m_s3.rf m_sq4.up0⟩
      · rw [← nI_0, nI_eq (by omega) (by omega)] at c36
        omega
theorem c_Md_variable (HG : z_ok G) (H : mK K s A) (Pk : pok K) (i : Int32) : z_C G m_Md_variable (d + 2) [.ref q, .int i] (md G h q s A) (m_post G h q (m_outv (m_cd [z_IOB, z_UOE]) K (k_var K i))) := by
  refine z_C.of (Nat.le_of_ble_eq_true rfl) ?_
  have h6 := H.2.1.1
  have h4 := H.2.1.2.1
  have h3 := H.1.1
  have h5 := H.1.2.1
  unfold k_var
  refine z_aload_n d_Md_variable_0 rfl rfl ?_
  refine z_iload_n d_Md_variable_1 rfl rfl ?_
  refine z_if_lt (tgt := 13) d_Md_variable_2 rfl (fun c2 => ?_) (fun c2 => ?_)
  · rw [k_ix_neg c2]
    refine z_iconst (v := nI 1) d_Md_variable_13 (by decide) ?_
    refine z_goto (tgt := 29) d_Md_variable_14 rfl ?_
    refine z_mp HG d_Md_variable_29 (L_Md_41 HG) (by decide) rfl rfl rfl rfl ?_
    refine z_aload_n d_Md_variable_32 rfl rfl ?_
    refine z_mg HG d_Md_variable_33 (L_Md_41 HG) (by decide) rfl ?_
    refine z_eqi (va_up_self _ _ _) ?_
    refine z_if_ne (tgt := 97) d_Md_variable_36 rfl (fun c36 => ?_) (fun c36 => ?_)
    · rw [← nI_0, nI_eq (by omega) (by omega)] at c36
      exact z_return d_Md_variable_97 rfl ⟨_, _, _, rfl, rfl, rfl, (va_up_self _ _ _).trans (by rw [show m_cd [z_IOB, z_UOE] z_IOB = 1 by decide +kernel]), H.sc m_s3.rf m_sq4.up0⟩
    · rw [← nI_0, nI_eq (by omega) (by omega)] at c36
      omega
  · refine z_iload_n d_Md_variable_5 rfl rfl ?_
    refine z_aload_n d_Md_variable_6 rfl rfl ?_
    refine z_mg HG d_Md_variable_7 (L_Md_104 HG) (by decide) rfl ?_
    refine z_eqi H.1.2.1 ?_
    refine z_icmp_lt (tgt := 17) d_Md_variable_10 rfl (fun c10 => ?_) (fun c10 => ?_)
    · obtain ⟨j, hj, rfl⟩ := nI_of c2
      rw [nI_ltI (by omega) (by omega)] at c10
      rw [k_ix_nI (by omega) (by omega)]
      have hg := List.getElem?_eq_getElem c10
      dsimp only
      rw [hg]
      generalize K.2.1[j] = c at hg
      have u1 := H.ent hg
      have hcw := Pk.2.1 j c hg
      have hc40 := u1.len
      by_cases hc : K.1.length = 6
      · rw [hc] at h3
        rw [if_pos hc]
        refine z_aload_n d_Md_variable_17 rfl rfl ?_
        refine z_mr (as := []) (dY := d) HG d_Md_variable_18 rfl (by omega) (Y_Md_113 HG) rfl rfl (Nat.le_of_ble_eq_true rfl) (c_Md_pushX HG h3) ?_
        refine z_if_eq (tgt := 28) d_Md_variable_21 rfl (fun c21 => ?_) (fun c21 => ?_)
        · rw [← nI_0, nI_eq (by omega) (by omega)] at c21
          refine z_iconst (v := nI 2) d_Md_variable_28 (by decide) ?_
          refine z_mp HG d_Md_variable_29 (L_Md_41 HG) (by decide) rfl rfl rfl rfl ?_
          refine z_aload_n d_Md_variable_32 rfl rfl ?_
          refine z_mg HG d_Md_variable_33 (L_Md_41 HG) (by decide) rfl ?_
          refine z_eqi (va_up_self _ _ _) ?_
          refine z_if_ne (tgt := 97) d_Md_variable_36 rfl (fun c36 => ?_) (fun c36 => ?_)
          · rw [← nI_0, nI_eq (by omega) (by omega)] at c36
            exact z_return d_Md_variable_97 rfl ⟨_, _, _, rfl, rfl, rfl, (va_up_self _ _ _).trans (by rw [show m_cd [z_IOB, z_UOE] z_UOE = 2 by decide +kernel]), H.sc m_s3.rf m_sq4.up0⟩
          · rw [← nI_0, nI_eq (by omega) (by omega)] at c36
            omega
        · rw [← nI_0, nI_eq (by omega) (by omega)] at c21
          omega
      · rw [if_neg hc]
        generalize hn : K.1.length = n at h3 h6 hc
        refine z_aload_n d_Md_variable_17 rfl rfl ?_
        refine z_mc (as := []) (dY := d) HG d_Md_variable_18 rfl (by omega) (Y_Md_113 HG) rfl rfl (Nat.le_of_ble_eq_true rfl) (c_Md_push HG (by omega) h3 h5) (fun v1 s1 A1 hp1 => ?_)
        obtain ⟨rfl, rfl, pu⟩ := hp1
        refine z_if_eq (tgt := 28) d_Md_variable_21 rfl (fun c21 => ?_) (fun c21 => ?_)
        · rw [← nI_0, nI_eq (by omega) (by omega)] at c21
          omega
        · rw [← nI_0, nI_eq (by omega) (by omega)] at c21
          refine z_iconst (v := nI 0) d_Md_variable_24 (by decide) ?_
          refine z_goto (tgt := 29) d_Md_variable_25 rfl ?_
          refine z_mp HG d_Md_variable_29 (L_Md_41 HG) (by decide) rfl rfl rfl rfl ?_
          refine z_aload_n d_Md_variable_32 rfl rfl ?_
          refine z_mg HG d_Md_variable_33 (L_Md_41 HG) (by decide) rfl ?_
          refine z_eqi (va_up_self _ _ _) ?_
          refine z_if_ne (tgt := 97) d_Md_variable_36 rfl (fun c36 => ?_) (fun c36 => ?_)
          · rw [← nI_0, nI_eq (by omega) (by omega)] at c36
            omega
          · rw [← nI_0, nI_eq (by omega) (by omega)] at c36
            have u1p : mrow A1 (12 + (K.2.1.length - 1 - j)) c := (show m_same A A1 (12 + (K.2.1.length - 1 - j)) from ⟨pu.2.1 _ (by omega) (by omega), fun i _ => congrFun (pu.1 1 (by decide) (by decide)) _⟩).row u1
            refine z_bipush (v := nI 12) d_Md_variable_39 (by decide +kernel) ?_
            refine z_aload_n d_Md_variable_41 rfl rfl ?_
            refine z_mg HG d_Md_variable_42 (L_Md_104 HG) (by decide) rfl ?_
            refine z_eqi ((va_up_ne _ _ (by decide)).trans ((va_up_ne _ _ (by decide)).trans h5)) ?_
            refine z_iadd d_Md_variable_45 ?_
            refine z_eqi (nI_add _ _) ?_
            refine z_iconst (v := nI 1) d_Md_variable_46 (by decide) ?_
            refine z_isub d_Md_variable_47 ?_
            refine z_eqi (pk_sub (by omega)) ?_
            refine z_iload_n d_Md_variable_48 rfl rfl ?_
            refine z_isub d_Md_variable_49 ?_
            refine z_eqi ((pk_sub (by omega)).trans (pk_bump (show _ = 12 + (K.2.1.length - 1 - j) by omega))) ?_
            refine z_istore_n d_Md_variable_50 rfl (by decide) ?_
            refine z_aload_n d_Md_variable_51 rfl rfl ?_
            refine z_iconst (v := nI 0) d_Md_variable_52 (by decide) ?_
            refine z_aload_n d_Md_variable_53 rfl rfl ?_
            refine z_mg HG d_Md_variable_54 (L_Md_107 HG) (by decide) rfl ?_
            refine z_eqi ((va_up_ne _ _ (by decide)).trans (va_up_self _ _ _)) ?_
            refine z_iadd d_Md_variable_57 ?_
            refine z_eqi (nI_add _ _) ?_
            refine z_iconst (v := nI 1) d_Md_variable_58 (by decide) ?_
            refine z_isub d_Md_variable_59 ?_
            refine z_eqi ((pk_sub (by omega)).trans (pk_bump (show _ = n by omega))) ?_
            refine z_bipush (v := nI 100) d_Md_variable_60 (by decide +kernel) ?_
            refine z_iload_n d_Md_variable_62 rfl rfl ?_
            refine z_iadd d_Md_variable_63 ?_
            refine z_eqi (nI_add _ _) ?_
            refine z_mc (as := [.int (nI n), .int (nI (100 + j))]) (dY := d) HG d_Md_variable_64 rfl (by omega) (Y_Md_53 HG) rfl rfl (Nat.le_of_ble_eq_true rfl) (c_Md_add HG (by omega) pu.2.2.2.2.1 (by omega)) (fun v2 s2 A2 hp2 => ?_)
            obtain ⟨rfl, hp2⟩ := hp2
            obtain ⟨rfl, w1⟩ := hp2.fit (Nat.le_of_ble_eq_true rfl)
            have u2 := w1.keep (by omega) u1p
            refine z_aload_n d_Md_variable_67 rfl rfl ?_
            refine z_iload_n d_Md_variable_68 rfl rfl ?_
            refine z_iconst (v := nI 0) d_Md_variable_69 (by decide) ?_
            refine z_mc (as := [.int (nI (12 + (K.2.1.length - 1 - j))), .int (nI 0)]) (dY := d + 1) HG d_Md_variable_70 rfl (by omega) (Y_Md_71 HG) rfl rfl (Nat.le_of_ble_eq_true rfl) (c_Md_measure (t := 0) (k := 6) HG (by omega) (Or.inl ⟨rfl, rfl⟩) u2 hcw) (fun v3 s3 A3 hp3 => ?_)
            obtain ⟨rfl, rfl, k1, k2⟩ := hp3
            have u3 := k1.row (Or.inl rfl) u2
            have hc0 : 0 < c.length := l_nd (i := 0) hcw
            obtain ⟨b6, hA6, hDD⟩ := k2.sub0 hcw hc0
            have hpe : c.length = 0 + p_end 1 (c.drop 0) := by
              rw [Nat.zero_add, List.drop_zero]
              exact (p_end_full hcw).symm
            refine z_aload_n d_Md_variable_73 rfl rfl ?_
            refine z_bipush (v := nI 6) d_Md_variable_74 (by decide +kernel) ?_
            refine z_aload_n d_Md_variable_76 rfl rfl ?_
            refine z_mg HG d_Md_variable_77 (L_Md_107 HG) (by decide) rfl ?_
            refine z_eqi ((va_up_ne _ _ (by decide)).trans (va_up_self _ _ _)) ?_
            refine z_iadd d_Md_variable_80 ?_
            refine z_eqi (nI_add _ _) ?_
            refine z_iconst (v := nI 1) d_Md_variable_81 (by decide) ?_
            refine z_isub d_Md_variable_82 ?_
            refine z_eqi ((pk_sub (by omega)).trans (pk_bump (show _ = 6 + n by omega))) ?_
            refine z_iload_n d_Md_variable_83 rfl rfl ?_
            refine z_iconst (v := nI 0) d_Md_variable_84 (by decide) ?_
            refine z_aload_n d_Md_variable_85 rfl rfl ?_
            refine z_mg HG d_Md_variable_86 (L_Md_13 HG) (by decide) rfl ?_
            refine z_iload_n d_Md_variable_89 rfl rfl ?_
            refine z_ml HG 2 d_Md_variable_90 (by decide) (show _ < 43 by omega) u3.1 ?_
            refine z_iload_n d_Md_variable_91 rfl rfl ?_
            refine z_iconst (v := nI 1) d_Md_variable_92 (by decide) ?_
            refine z_iadd d_Md_variable_93 ?_
            refine z_eqi (nI_add _ _) ?_
            refine z_mc (as := [.int (nI (6 + n)), .int (nI (12 + (K.2.1.length - 1 - j))), .int (nI 0), .int (nI c.length), .int (nI (j + 1))]) (dY := d + 1) HG d_Md_variable_94 rfl (by omega) (Y_Md_64 HG) rfl rfl (Nat.le_of_ble_eq_true rfl) (c_Md_addShifted HG (by omega) (by omega) (by omega) (by omega) hc0 hpe (k1.row (Or.inl rfl) (w1.keep (by omega) pu.2.2.2.2.2)) u3 hA6 hDD (p_wf_200 hcw (by omega) hc40)) (fun v4 s4 A4 hp4 => ?_)
            obtain ⟨rfl, hp4⟩ := hp4
            have hpl : (p_lift (j + 1) [0] c).length = c.length := by
              rw [p_lift_len]
              exact p_end_full hcw
            obtain ⟨rfl, w2⟩ := hp4.fit (by rw [List.drop_zero, hpl]; simp only [List.length_nil]; omega)
            rw [List.drop_zero] at w2
            exact z_return d_Md_variable_97 rfl ⟨_, _, _, rfl, rfl, rfl, rfl, H.pushed hn.symm (by omega) pu w1 (k1.s3 (Or.inl rfl)) w2 rfl rfl rfl rfl⟩
    · rw [k_ix_big c2 c10]
      refine z_iconst (v := nI 1) d_Md_variable_13 (by decide) ?_
      refine z_goto (tgt := 29) d_Md_variable_14 rfl ?_
      refine z_mp HG d_Md_variable_29 (L_Md_41 HG) (by decide) rfl rfl rfl rfl ?_
      refine z_aload_n d_Md_variable_32 rfl rfl ?_
      refine z_mg HG d_Md_variable_33 (L_Md_41 HG) (by decide) rfl ?_
      refine z_eqi (va_up_self _ _ _) ?_
      refine z_if_ne (tgt := 97) d_Md_variable_36 rfl (fun c36 => ?_) (fun c36 => ?_)
      · rw [← nI_0, nI_eq (by omega) (by omega)] at c36
        exact z_return d_Md_variable_97 rfl ⟨_, _, _, rfl, rfl, rfl, (va_up_self _ _ _).trans (by rw [show m_cd [z_IOB, z_UOE] z_IOB = 1 by decide +kernel]), H.sc m_s3.rf m_sq4.up0⟩
      · rw [← nI_0, nI_eq (by omega) (by omega)] at c36
        omega
theorem c_Md_assume (HG : z_ok G) (H : mK K s A) (Pk : pok K) : z_C G m_Md_assume (d + 3) [.ref q] (md G h q s A) (m_post G h q (m_outv (m_cd [z_ISE, z_UOE, z_IAE]) K (k_assume K))) := by
  refine z_C.of (Nat.le_of_ble_eq_true rfl) ?_
  obtain ⟨js, cs, K2⟩ := K
  have h6 : js.length ≤ 6 := H.2.1.1
  have h4 : cs.length ≤ 4 := H.2.1.2.1
  have h3 : s 3 = nI js.length := H.1.1
  have h5 : s 5 = nI cs.length := H.1.2.1
  cases js with
  | nil =>
    have h3 : s 3 = nI 0 := h3
    rw [show k_assume ([], cs, K2) = .inl z_ISE from rfl]
    refine z_aload_n d_Md_assume_0 rfl rfl ?_
    refine z_mg HG d_Md_assume_1 (L_Md_107 HG) (by decide) rfl ?_
    refine z_eqi h3 ?_
    refine z_iconst (v := nI 1) d_Md_assume_4 (by decide) ?_
    refine z_isub d_Md_assume_5 ?_
    refine z_eqi (show nI 0 - nI 1 = -1 by decide) ?_
    refine z_istore_n d_Md_assume_6 rfl (by decide) ?_
    refine z_aload_n d_Md_assume_7 rfl rfl ?_
    refine z_aload_n d_Md_assume_8 rfl rfl ?_
    refine z_iload_n d_Md_assume_9 rfl rfl ?_
    refine z_mr (as := [.int ((-1))]) (dY := d) HG d_Md_assume_10 rfl (by omega) (Y_Md_110 HG) rfl rfl (Nat.le_of_ble_eq_true rfl) (c_Md_presentN HG) ?_
    refine z_if_ne (tgt := 20) d_Md_assume_13 rfl (fun c13 => ?_) (fun c13 => ?_)
    · rw [← nI_0, nI_eq (by omega) (by omega)] at c13
      omega
    · rw [← nI_0, nI_eq (by omega) (by omega)] at c13
      refine z_iconst (v := nI 1) d_Md_assume_16 (by decide) ?_
      refine z_goto (tgt := 49) d_Md_assume_17 rfl ?_
      refine z_mp HG d_Md_assume_49 (L_Md_41 HG) (by decide) rfl rfl rfl rfl ?_
      refine z_aload_n d_Md_assume_52 rfl rfl ?_
      refine z_mg HG d_Md_assume_53 (L_Md_41 HG) (by decide) rfl ?_
      refine z_eqi (va_up_self _ _ _) ?_
      refine z_if_ne (tgt := 93) d_Md_assume_56 rfl (fun c56 => ?_) (fun c56 => ?_)
      · rw [← nI_0, nI_eq (by omega) (by omega)] at c56
        exact z_return d_Md_assume_93 rfl ⟨_, _, _, rfl, rfl, rfl, (va_up_self _ _ _).trans (by rw [show m_cd [z_ISE, z_UOE, z_IAE] z_ISE = 1 by decide +kernel]), H.sc m_s3.rf m_sq4.up0⟩
      · rw [← nI_0, nI_eq (by omega) (by omega)] at c56
        omega
  | cons J js =>
    have h3 : s 3 = nI (js.length + 1) := h3
    rw [List.length_cons] at h6
    obtain ⟨hJ1, hJ2⟩ := H.cell Pk (k := js.length) (J := J) l_rt
    obtain ⟨-, hT, hY⟩ := H.top
    show z_V _ _ _ _ _ _ _ (m_post G h q (m_outv (m_cd [z_ISE, z_UOE, z_IAE]) (J :: js, cs, K2) (if J.1 = cs.length then (if cs.length = 4 then .inl z_UOE else if J.2.2 = [0] then .inr (none, (js, J.2.1 :: cs, K2)) else .inl z_IAE) else .inl z_ISE)))
    refine z_aload_n d_Md_assume_0 rfl rfl ?_
    refine z_mg HG d_Md_assume_1 (L_Md_107 HG) (by decide) rfl ?_
    refine z_eqi h3 ?_
    refine z_iconst (v := nI 1) d_Md_assume_4 (by decide) ?_
    refine z_isub d_Md_assume_5 ?_
    refine z_eqi ((pk_sub (by omega)).trans (pk_bump (show _ = js.length by omega))) ?_
    refine z_istore_n d_Md_assume_6 rfl (by decide) ?_
    refine z_aload_n d_Md_assume_7 rfl rfl ?_
    refine z_aload_n d_Md_assume_8 rfl rfl ?_
    refine z_iload_n d_Md_assume_9 rfl rfl ?_
    refine z_mr (as := [.int (nI js.length)]) (dY := d) HG d_Md_assume_10 rfl (by omega) (Y_Md_110 HG) rfl rfl (Nat.le_of_ble_eq_true rfl) (c_Md_present HG (by omega) (by omega) (by omega) hJ1 h5) ?_
    refine z_if_ne (tgt := 20) d_Md_assume_13 rfl (fun c13 => ?_) (fun c13 => ?_)
    · have c13 := b_ne c13
      rw [if_pos c13]
      refine z_aload_n d_Md_assume_20 rfl rfl ?_
      refine z_mg HG d_Md_assume_21 (L_Md_104 HG) (by decide) rfl ?_
      refine z_eqi h5 ?_
      refine z_iconst (v := nI 4) d_Md_assume_24 (by decide) ?_
      refine z_icmp_ne (tgt := 32) d_Md_assume_25 rfl (fun c25 => ?_) (fun c25 => ?_)
      · rw [nI_eq (by omega) (by omega)] at c25
        rw [if_neg c25]
        refine z_aload_n d_Md_assume_32 rfl rfl ?_
        refine z_bipush (v := nI 6) d_Md_assume_33 (by decide +kernel) ?_
        refine z_iload_n d_Md_assume_35 rfl rfl ?_
        refine z_iadd d_Md_assume_36 ?_
        refine z_eqi (nI_add _ _) ?_
        refine z_iconst (v := nI 0) d_Md_assume_37 (by decide) ?_
        refine z_mr (as := [.int (nI (6 + js.length)), .int (nI 0)]) (dY := d + 1) HG d_Md_assume_38 rfl (by omega) (Y_Md_129 HG) rfl rfl (Nat.le_of_ble_eq_true rfl) (c_Md_isOne HG (by omega) hY (by omega)) ?_
        refine z_if_ne (tgt := 48) d_Md_assume_41 rfl (fun c41 => ?_) (fun c41 => ?_)
        · have c41 := b_ne c41
          rw [if_pos c41]
          refine z_iconst (v := nI 0) d_Md_assume_48 (by decide) ?_
          refine z_mp HG d_Md_assume_49 (L_Md_41 HG) (by decide) rfl rfl rfl rfl ?_
          refine z_aload_n d_Md_assume_52 rfl rfl ?_
          refine z_mg HG d_Md_assume_53 (L_Md_41 HG) (by decide) rfl ?_
          refine z_eqi (va_up_self _ _ _) ?_
          refine z_if_ne (tgt := 93) d_Md_assume_56 rfl (fun c56 => ?_) (fun c56 => ?_)
          · rw [← nI_0, nI_eq (by omega) (by omega)] at c56
            omega
          · rw [← nI_0, nI_eq (by omega) (by omega)] at c56
            refine z_aload_n d_Md_assume_59 rfl rfl ?_
            refine z_iconst (v := nI 0) d_Md_assume_60 (by decide) ?_
            refine z_iload_n d_Md_assume_61 rfl rfl ?_
            refine z_iadd d_Md_assume_62 ?_
            refine z_eqi ((nI_add _ _).trans (pk_bump (Nat.zero_add js.length))) ?_
            refine z_bipush (v := nI 12) d_Md_assume_63 (by decide +kernel) ?_
            refine z_aload_n d_Md_assume_65 rfl rfl ?_
            refine z_mg HG d_Md_assume_66 (L_Md_104 HG) (by decide) rfl ?_
            refine z_eqi ((va_up_ne _ _ (by decide)).trans h5) ?_
            refine z_iadd d_Md_assume_69 ?_
            refine z_eqi (nI_add _ _) ?_
            refine z_mc (as := [.int (nI js.length), .int (nI (12 + cs.length))]) (dY := d + 2) HG d_Md_assume_70 rfl (by omega) (Y_Md_90 HG) rfl rfl (Nat.le_of_ble_eq_true rfl) (c_Md_copy HG (by omega) (by omega) (by omega) hT) (fun v1 s1 A1 hp1 => ?_)
            obtain ⟨rfl, rfl, hp1⟩ := hp1
            refine z_aload_n d_Md_assume_73 rfl rfl ?_
            refine z_dup d_Md_assume_74 rfl ?_
            refine z_mg HG d_Md_assume_75 (L_Md_104 HG) (by decide) rfl ?_
            refine z_eqi ((va_up_ne _ _ (by decide)).trans h5) ?_
            refine z_iconst (v := nI 1) d_Md_assume_78 (by decide) ?_
            refine z_iadd d_Md_assume_79 ?_
            refine z_eqi (nI_add _ _) ?_
            refine z_mp HG d_Md_assume_80 (L_Md_104 HG) (by decide) rfl rfl rfl rfl ?_
            refine z_aload_n d_Md_assume_83 rfl rfl ?_
            refine z_dup d_Md_assume_84 rfl ?_
            refine z_mg HG d_Md_assume_85 (L_Md_107 HG) (by decide) rfl ?_
            refine z_eqi ((va_up_ne _ _ (by decide)).trans ((va_up_ne _ _ (by decide)).trans h3)) ?_
            refine z_iconst (v := nI 1) d_Md_assume_88 (by decide) ?_
            refine z_isub d_Md_assume_89 ?_
            refine z_eqi ((pk_sub (by omega)).trans (pk_bump (show _ = js.length by omega))) ?_
            refine z_mp HG d_Md_assume_90 (L_Md_107 HG) (by decide) rfl rfl rfl rfl ?_
            exact z_return d_Md_assume_93 rfl ⟨_, _, _, rfl, rfl, rfl, rfl, ((H.sc m_s3.rf (m_sq4.up0 (v := nI 0))).pop (s' := va_up (va_up s 0 (nI 0)) 3 (nI js.length)) rfl rfl rfl rfl).cpush (by omega) hp1 rfl rfl rfl rfl⟩
        · have c41 := b_eq c41
          rw [if_neg c41]
          refine z_iconst (v := nI 3) d_Md_assume_44 (by decide) ?_
          refine z_goto (tgt := 49) d_Md_assume_45 rfl ?_
          refine z_mp HG d_Md_assume_49 (L_Md_41 HG) (by decide) rfl rfl rfl rfl ?_
          refine z_aload_n d_Md_assume_52 rfl rfl ?_
          refine z_mg HG d_Md_assume_53 (L_Md_41 HG) (by decide) rfl ?_
          refine z_eqi (va_up_self _ _ _) ?_
          refine z_if_ne (tgt := 93) d_Md_assume_56 rfl (fun c56 => ?_) (fun c56 => ?_)
          · rw [← nI_0, nI_eq (by omega) (by omega)] at c56
            exact z_return d_Md_assume_93 rfl ⟨_, _, _, rfl, rfl, rfl, (va_up_self _ _ _).trans (by rw [show m_cd [z_ISE, z_UOE, z_IAE] z_IAE = 3 by decide +kernel]), H.sc m_s3.rf m_sq4.up0⟩
          · rw [← nI_0, nI_eq (by omega) (by omega)] at c56
            omega
      · rw [nI_eq (by omega) (by omega)] at c25
        rw [if_pos c25]
        refine z_iconst (v := nI 2) d_Md_assume_28 (by decide) ?_
        refine z_goto (tgt := 49) d_Md_assume_29 rfl ?_
        refine z_mp HG d_Md_assume_49 (L_Md_41 HG) (by decide) rfl rfl rfl rfl ?_
        refine z_aload_n d_Md_assume_52 rfl rfl ?_
        refine z_mg HG d_Md_assume_53 (L_Md_41 HG) (by decide) rfl ?_
        refine z_eqi (va_up_self _ _ _) ?_
        refine z_if_ne (tgt := 93) d_Md_assume_56 rfl (fun c56 => ?_) (fun c56 => ?_)
        · rw [← nI_0, nI_eq (by omega) (by omega)] at c56
          exact z_return d_Md_assume_93 rfl ⟨_, _, _, rfl, rfl, rfl, (va_up_self _ _ _).trans (by rw [show m_cd [z_ISE, z_UOE, z_IAE] z_UOE = 2 by decide +kernel]), H.sc m_s3.rf m_sq4.up0⟩
        · rw [← nI_0, nI_eq (by omega) (by omega)] at c56
          omega
    · have c13 := b_eq c13
      rw [if_neg c13]
      refine z_iconst (v := nI 1) d_Md_assume_16 (by decide) ?_
      refine z_goto (tgt := 49) d_Md_assume_17 rfl ?_
      refine z_mp HG d_Md_assume_49 (L_Md_41 HG) (by decide) rfl rfl rfl rfl ?_
      refine z_aload_n d_Md_assume_52 rfl rfl ?_
      refine z_mg HG d_Md_assume_53 (L_Md_41 HG) (by decide) rfl ?_
      refine z_eqi (va_up_self _ _ _) ?_
      refine z_if_ne (tgt := 93) d_Md_assume_56 rfl (fun c56 => ?_) (fun c56 => ?_)
      · rw [← nI_0, nI_eq (by omega) (by omega)] at c56
        exact z_return d_Md_assume_93 rfl ⟨_, _, _, rfl, rfl, rfl, (va_up_self _ _ _).trans (by rw [show m_cd [z_ISE, z_UOE, z_IAE] z_ISE = 1 by decide +kernel]), H.sc m_s3.rf m_sq4.up0⟩
      · rw [← nI_0, nI_eq (by omega) (by omega)] at c56
        omega
end MC
