/-! the reference: declare, normal, same -/
section MO
variable {G : z_G} {h : z_H} {q d n : Nat} {s s' : Nat → Int32} {A A1 : Nat → Nat → Int32} {K : pK} {c : List Nat}
theorem mK.kpush {js : List pJ} {cs : List (List Nat)} {ks : List (List Nat × Bool)} {Rs : List pR} {b : Bool} {t : Nat} (H : mK (js, cs, ks, Rs) s A) (hl : ks.length < 8) (w : m_wr A A1 (16 + ks.length) c) (ht : nI t = if b = true then nI 1 else nI 0) (e3 : s' 3 = s 3) (e5 : s' 5 = s 5) (e6 : s' 6 = nI (ks.length + 1)) (e8 : s' 8 = s 8) : mK (js, cs, ks ++ [(c, b)], Rs) s' (va_up A1 4 (upd (A1 4) ks.length (nI t))) := by
  obtain ⟨⟨a1, a2, a3, a4⟩, ⟨b1, b2, b3, b4⟩, cc, dd, f, g⟩ := H
  have u : ∀ k, k ≠ 4 → va_up A1 4 (upd (A1 4) ks.length (nI t)) k = A1 k := fun k hk => va_up_ne _ _ hk
  have u1 := u 1 (by decide)
  have u2 := u 2 (by decide)
  have b1 : js.length ≤ 6 := b1
  have b2 : cs.length ≤ 4 := b2
  refine ⟨⟨e3.trans a1, e5.trans a2, ?_, e8.trans a4⟩, ⟨b1, b2, ?_, b4⟩, fun j J' hj => ?_, fun j c0 hj => ?_, fun j c0 hj => ?_, fun j R hj => ?_⟩
  · show s' 6 = nI (ks ++ [(c, b)]).length
    rw [List.length_append]
    exact e6
  · show (ks ++ [(c, b)]).length ≤ 8
    rw [List.length_append]
    exact hl
  · have h2 : j < js.reverse.length := l_gi' hj
    rw [List.length_reverse] at h2
    obtain ⟨v1, v2, v3⟩ := cc j J' hj
    exact ⟨by rw [u 3 (by decide), w.1 3 (by decide) (by decide)]; exact v1, (w.keep (by omega) v2).eqv u1 u2, (w.keep (by omega) v3).eqv u1 u2⟩
  · have h2 : j < cs.reverse.length := l_gi' hj
    rw [List.length_reverse] at h2
    exact (w.keep (by omega) (dd j c0 hj)).eqv u1 u2
  · have hj : (ks ++ [(c, b)])[j]? = some c0 := hj
    by_cases h1 : j < ks.length
    · rw [List.getElem?_append_left h1] at hj
      obtain ⟨v1, v2⟩ := f j c0 hj
      refine ⟨(w.keep (by omega) v1).eqv u1 u2, ?_⟩
      rw [va_up_self, w.1 4 (by decide) (by decide)]
      exact (if_neg (by omega)).trans v2
    · have h2 := l_gi' hj
      rw [List.length_append] at h2
      have h2 : j < ks.length + 1 := h2
      have h3 : j = ks.length := by omega
      subst h3
      rw [List.getElem?_append_right (Nat.le_refl _), Nat.sub_self] at hj
      cases hj
      refine ⟨w.row.eqv u1 u2, ?_⟩
      rw [va_up_self]
      exact (if_pos rfl).trans ht
  · have h2 : j < Rs.length := l_gi' hj
    obtain ⟨⟨v1, v2⟩, v3⟩ := g j R hj
    exact ⟨⟨(w.keep (by omega) v1).eqv u1 u2, (w.keep (by omega) v2).eqv u1 u2⟩, by rw [u 5 (by decide), w.1 5 (by decide) (by decide)]; exact v3⟩
theorem c_Md_declare (HG : z_ok G) (H : mK K s A) (Pk : pok K) {t : Nat} {b : Bool} (ht : t = 0 ∧ b = false ∨ t = 1 ∧ b = true) : z_C G m_Md_declare (d + 3) [.ref q, .int (nI t)] (md G h q s A) (m_post G h q (m_out (m_cd [z_ISE, z_UOE, z_IAE]) K (k_declare K b))) := by
  refine z_C.of (Nat.le_of_ble_eq_true rfl) ?_
  have htn : vp_nar .boolean (nI t) = nI t := by
    rcases ht with ⟨rfl, -⟩ | ⟨rfl, -⟩
    · first | rfl | decide
    · first | rfl | decide
  have htb : nI t = if b = true then nI 1 else nI 0 := by
    rcases ht with ⟨rfl, rfl⟩ | ⟨rfl, rfl⟩ <;> rfl
  obtain ⟨js, cs, ks, Rs⟩ := K
  have h6 : js.length ≤ 6 := H.2.1.1
  have h4 : cs.length ≤ 4 := H.2.1.2.1
  have h8 : ks.length ≤ 8 := H.2.1.2.2.1
  have h3 : s 3 = nI js.length := H.1.1
  have h5 : s 5 = nI cs.length := H.1.2.1
  have hk : s 6 = nI ks.length := H.1.2.2.1
  cases js with
  | nil =>
    have h3 : s 3 = nI 0 := h3
    rw [show k_declare ([], cs, ks, Rs) b = .inl z_ISE from rfl]
    refine z_aload_n d_Md_declare_0 rfl rfl ?_
    refine z_mg HG d_Md_declare_1 (L_Md_107 HG) (by decide) rfl ?_
    refine z_eqi h3 ?_
    refine z_iconst (v := nI 1) d_Md_declare_4 (by decide) ?_
    refine z_isub d_Md_declare_5 ?_
    refine z_eqi (show nI 0 - nI 1 = -1 by decide) ?_
    refine z_istore_n d_Md_declare_6 rfl (by decide) ?_
    refine z_aload_n d_Md_declare_7 rfl rfl ?_
    refine z_aload_n d_Md_declare_8 rfl rfl ?_
    refine z_mg HG d_Md_declare_9 (L_Md_107 HG) (by decide) rfl ?_
    refine z_eqi h3 ?_
    refine z_if_eq (tgt := 22) d_Md_declare_12 rfl (fun c12 => ?_) (fun c12 => ?_)
    · rw [← nI_0, nI_eq (by omega) (by omega)] at c12
      refine z_iconst (v := nI 1) d_Md_declare_22 (by decide) ?_
      refine z_goto (tgt := 68) d_Md_declare_23 rfl ?_
      refine z_mp HG d_Md_declare_68 (L_Md_41 HG) (by decide) rfl rfl rfl rfl ?_
      refine z_aload_n d_Md_declare_71 rfl rfl ?_
      refine z_mg HG d_Md_declare_72 (L_Md_41 HG) (by decide) rfl ?_
      refine z_eqi (va_up_self _ _ _) ?_
      refine z_if_eq (tgt := 80) d_Md_declare_75 rfl (fun c75 => ?_) (fun c75 => ?_)
      · rw [← nI_0, nI_eq (by omega) (by omega)] at c75
        omega
      · rw [← nI_0, nI_eq (by omega) (by omega)] at c75
        refine z_iconst (v := nI 0) d_Md_declare_78 (by decide) ?_
        exact z_ireturn d_Md_declare_79 rfl rfl ⟨_, _, _, rfl, rfl, ⟨_, rfl⟩, (va_up_self _ _ _).trans (by rw [show m_cd [z_ISE, z_UOE, z_IAE] z_ISE = 1 by decide +kernel]), H.sc m_s3.rf m_sq4.up0⟩
    · rw [← nI_0, nI_eq (by omega) (by omega)] at c12
      omega
  | cons J js =>
    have h3 : s 3 = nI (js.length + 1) := h3
    rw [List.length_cons] at h6
    cases cs with
    | cons c cs =>
      have h5 : s 5 = nI (cs.length + 1) := h5
      rw [List.length_cons] at h4
      rw [show k_declare (J :: js, c :: cs, ks, Rs) b = .inl z_ISE from rfl]
      refine z_aload_n d_Md_declare_0 rfl rfl ?_
      refine z_mg HG d_Md_declare_1 (L_Md_107 HG) (by decide) rfl ?_
      refine z_eqi h3 ?_
      refine z_iconst (v := nI 1) d_Md_declare_4 (by decide) ?_
      refine z_isub d_Md_declare_5 ?_
      refine z_eqi ((pk_sub (by omega)).trans (pk_bump (show _ = js.length by omega))) ?_
      refine z_istore_n d_Md_declare_6 rfl (by decide) ?_
      refine z_aload_n d_Md_declare_7 rfl rfl ?_
      refine z_aload_n d_Md_declare_8 rfl rfl ?_
      refine z_mg HG d_Md_declare_9 (L_Md_107 HG) (by decide) rfl ?_
      refine z_eqi h3 ?_
      refine z_if_eq (tgt := 22) d_Md_declare_12 rfl (fun c12 => ?_) (fun c12 => ?_)
      · rw [← nI_0, nI_eq (by omega) (by omega)] at c12
        omega
      · rw [← nI_0, nI_eq (by omega) (by omega)] at c12
        refine z_aload_n d_Md_declare_15 rfl rfl ?_
        refine z_mg HG d_Md_declare_16 (L_Md_104 HG) (by decide) rfl ?_
        refine z_eqi h5 ?_
        refine z_if_le (tgt := 26) d_Md_declare_19 rfl (fun c19 => ?_) (fun c19 => ?_)
        · rw [← nI_0, nI_leI (by omega) (by omega)] at c19
          omega
        · rw [← nI_0, nI_leI (by omega) (by omega)] at c19
          refine z_iconst (v := nI 1) d_Md_declare_22 (by decide) ?_
          refine z_goto (tgt := 68) d_Md_declare_23 rfl ?_
          refine z_mp HG d_Md_declare_68 (L_Md_41 HG) (by decide) rfl rfl rfl rfl ?_
          refine z_aload_n d_Md_declare_71 rfl rfl ?_
          refine z_mg HG d_Md_declare_72 (L_Md_41 HG) (by decide) rfl ?_
          refine z_eqi (va_up_self _ _ _) ?_
          refine z_if_eq (tgt := 80) d_Md_declare_75 rfl (fun c75 => ?_) (fun c75 => ?_)
          · rw [← nI_0, nI_eq (by omega) (by omega)] at c75
            omega
          · rw [← nI_0, nI_eq (by omega) (by omega)] at c75
            refine z_iconst (v := nI 0) d_Md_declare_78 (by decide) ?_
            exact z_ireturn d_Md_declare_79 rfl rfl ⟨_, _, _, rfl, rfl, ⟨_, rfl⟩, (va_up_self _ _ _).trans (by rw [show m_cd [z_ISE, z_UOE, z_IAE] z_ISE = 1 by decide +kernel]), H.sc m_s3.rf m_sq4.up0⟩
    | nil =>
      have h5 : s 5 = nI 0 := h5
      obtain ⟨-, hT, hY⟩ := H.top
      have hJ0 : J.1 = 0 := Nat.le_zero.mp (Pk.1 J List.mem_cons_self).1
      show z_V _ _ _ _ _ _ _ (m_post G h q (m_out (m_cd [z_ISE, z_UOE, z_IAE]) (J :: js, [], ks, Rs) (if J.1 = 0 then (if ks.length = 8 then .inl z_UOE else if J.2.2 = [0] ∨ J.2.2 = [1] then .inr (some (.int (nI ks.length)), (js, [], ks ++ [(J.2.1, b)], Rs)) else .inl z_IAE) else .inl z_ISE)))
      rw [if_pos hJ0]
      refine z_aload_n d_Md_declare_0 rfl rfl ?_
      refine z_mg HG d_Md_declare_1 (L_Md_107 HG) (by decide) rfl ?_
      refine z_eqi h3 ?_
      refine z_iconst (v := nI 1) d_Md_declare_4 (by decide) ?_
      refine z_isub d_Md_declare_5 ?_
      refine z_eqi ((pk_sub (by omega)).trans (pk_bump (show _ = js.length by omega))) ?_
      refine z_istore_n d_Md_declare_6 rfl (by decide) ?_
      refine z_aload_n d_Md_declare_7 rfl rfl ?_
      refine z_aload_n d_Md_declare_8 rfl rfl ?_
      refine z_mg HG d_Md_declare_9 (L_Md_107 HG) (by decide) rfl ?_
      refine z_eqi h3 ?_
      refine z_if_eq (tgt := 22) d_Md_declare_12 rfl (fun c12 => ?_) (fun c12 => ?_)
      · rw [← nI_0, nI_eq (by omega) (by omega)] at c12
        omega
      · rw [← nI_0, nI_eq (by omega) (by omega)] at c12
        refine z_aload_n d_Md_declare_15 rfl rfl ?_
        refine z_mg HG d_Md_declare_16 (L_Md_104 HG) (by decide) rfl ?_
        refine z_eqi h5 ?_
        refine z_if_le (tgt := 26) d_Md_declare_19 rfl (fun c19 => ?_) (fun c19 => ?_)
        · rw [← nI_0, nI_leI (by omega) (by omega)] at c19
          refine z_aload_n d_Md_declare_26 rfl rfl ?_
          refine z_mg HG d_Md_declare_27 (L_Md_117 HG) (by decide) rfl ?_
          refine z_eqi hk ?_
          refine z_bipush (v := nI 8) d_Md_declare_30 (by decide +kernel) ?_
          refine z_icmp_ne (tgt := 39) d_Md_declare_32 rfl (fun c32 => ?_) (fun c32 => ?_)
          · rw [nI_eq (by omega) (by omega)] at c32
            rw [if_neg c32]
            refine z_aload_n d_Md_declare_39 rfl rfl ?_
            refine z_bipush (v := nI 6) d_Md_declare_40 (by decide +kernel) ?_
            refine z_iload_n d_Md_declare_42 rfl rfl ?_
            refine z_iadd d_Md_declare_43 ?_
            refine z_eqi (nI_add _ _) ?_
            refine z_iconst (v := nI 0) d_Md_declare_44 (by decide) ?_
            refine z_mr (as := [.int (nI (6 + js.length)), .int (nI 0)]) (dY := d + 1) HG d_Md_declare_45 rfl (by omega) (Y_Md_129 HG) rfl rfl (Nat.le_of_ble_eq_true rfl) (c_Md_isOne HG (by omega) hY (by omega)) ?_
            refine z_if_ne (tgt := 67) d_Md_declare_48 rfl (fun c48 => ?_) (fun c48 => ?_)
            · have c48 := b_ne c48
              rw [if_pos (show J.2.2 = [0] ∨ J.2.2 = [1] from Or.inl c48)]
              refine z_iconst (v := nI 0) d_Md_declare_67 (by decide) ?_
              refine z_mp HG d_Md_declare_68 (L_Md_41 HG) (by decide) rfl rfl rfl rfl ?_
              refine z_aload_n d_Md_declare_71 rfl rfl ?_
              refine z_mg HG d_Md_declare_72 (L_Md_41 HG) (by decide) rfl ?_
              refine z_eqi (va_up_self _ _ _) ?_
              refine z_if_eq (tgt := 80) d_Md_declare_75 rfl (fun c75 => ?_) (fun c75 => ?_)
              · rw [← nI_0, nI_eq (by omega) (by omega)] at c75
                refine z_aload_n d_Md_declare_80 rfl rfl ?_
                refine z_iconst (v := nI 0) d_Md_declare_81 (by decide) ?_
                refine z_iload_n d_Md_declare_82 rfl rfl ?_
                refine z_iadd d_Md_declare_83 ?_
                refine z_eqi ((nI_add _ _).trans (pk_bump (Nat.zero_add js.length))) ?_
                refine z_bipush (v := nI 16) d_Md_declare_84 (by decide +kernel) ?_
                refine z_aload_n d_Md_declare_86 rfl rfl ?_
                refine z_mg HG d_Md_declare_87 (L_Md_117 HG) (by decide) rfl ?_
                refine z_eqi ((va_up_ne _ _ (by decide)).trans hk) ?_
                refine z_iadd d_Md_declare_90 ?_
                refine z_eqi (nI_add _ _) ?_
                refine z_mc (as := [.int (nI js.length), .int (nI (16 + ks.length))]) (dY := d + 2) HG d_Md_declare_91 rfl (by omega) (Y_Md_90 HG) rfl rfl (Nat.le_of_ble_eq_true rfl) (c_Md_copy HG (by omega) (by omega) (by omega) hT) (fun v1 s1 A1 hp1 => ?_)
                obtain ⟨rfl, rfl, wr⟩ := hp1
                refine z_aload_n d_Md_declare_94 rfl rfl ?_
                refine z_mg HG d_Md_declare_95 (L_Md_19 HG) (by decide) rfl ?_
                refine z_aload_n d_Md_declare_98 rfl rfl ?_
                refine z_mg HG d_Md_declare_99 (L_Md_117 HG) (by decide) rfl ?_
                refine z_eqi ((va_up_ne _ _ (by decide)).trans hk) ?_
                refine z_iload_n d_Md_declare_102 rfl rfl ?_
                refine z_msZ HG d_Md_declare_103 (by omega) htn ?_
                refine z_aload_n d_Md_declare_104 rfl rfl ?_
                refine z_dup d_Md_declare_105 rfl ?_
                refine z_mg HG d_Md_declare_106 (L_Md_117 HG) (by decide) rfl ?_
                refine z_eqi ((va_up_ne _ _ (by decide)).trans hk) ?_
                refine z_iconst (v := nI 1) d_Md_declare_109 (by decide) ?_
                refine z_iadd d_Md_declare_110 ?_
                refine z_eqi (nI_add _ _) ?_
                refine z_mp HG d_Md_declare_111 (L_Md_117 HG) (by decide) rfl rfl rfl rfl ?_
                refine z_aload_n d_Md_declare_114 rfl rfl ?_
                refine z_dup d_Md_declare_115 rfl ?_
                refine z_mg HG d_Md_declare_116 (L_Md_107 HG) (by decide) rfl ?_
                refine z_eqi ((va_up_ne _ _ (by decide)).trans ((va_up_ne _ _ (by decide)).trans h3)) ?_
                refine z_iconst (v := nI 1) d_Md_declare_119 (by decide) ?_
                refine z_isub d_Md_declare_120 ?_
                refine z_eqi ((pk_sub (by omega)).trans (pk_bump (show _ = js.length by omega))) ?_
                refine z_mp HG d_Md_declare_121 (L_Md_107 HG) (by decide) rfl rfl rfl rfl ?_
                refine z_aload_n d_Md_declare_124 rfl rfl ?_
                refine z_mg HG d_Md_declare_125 (L_Md_117 HG) (by decide) rfl ?_
                refine z_eqi ((va_up_ne _ _ (by decide)).trans (va_up_self _ _ _)) ?_
                refine z_iconst (v := nI 1) d_Md_declare_128 (by decide) ?_
                refine z_isub d_Md_declare_129 ?_
                refine z_eqi ((pk_sub (by omega)).trans (pk_bump (show _ = ks.length by omega))) ?_
                exact z_ireturn d_Md_declare_130 rfl rfl ⟨_, _, _, rfl, rfl, rfl, rfl, ((H.sc m_s3.rf (m_sq4.up0 (v := nI 0))).pop (s' := va_up (va_up s 0 (nI 0)) 3 (nI js.length)) rfl rfl rfl rfl).kpush (by omega) wr htb rfl rfl rfl rfl⟩
              · rw [← nI_0, nI_eq (by omega) (by omega)] at c75
                omega
            · have c48 := b_eq c48
              refine z_aload_n d_Md_declare_51 rfl rfl ?_
              refine z_bipush (v := nI 6) d_Md_declare_52 (by decide +kernel) ?_
              refine z_iload_n d_Md_declare_54 rfl rfl ?_
              refine z_iadd d_Md_declare_55 ?_
              refine z_eqi (nI_add _ _) ?_
              refine z_iconst (v := nI 1) d_Md_declare_56 (by decide) ?_
              refine z_mr (as := [.int (nI (6 + js.length)), .int (nI 1)]) (dY := d + 1) HG d_Md_declare_57 rfl (by omega) (Y_Md_129 HG) rfl rfl (Nat.le_of_ble_eq_true rfl) (c_Md_isOne HG (by omega) hY (by omega)) ?_
              refine z_if_ne (tgt := 67) d_Md_declare_60 rfl (fun c60 => ?_) (fun c60 => ?_)
              · have c60 := b_ne c60
                rw [if_pos (show J.2.2 = [0] ∨ J.2.2 = [1] from Or.inr c60)]
                refine z_iconst (v := nI 0) d_Md_declare_67 (by decide) ?_
                refine z_mp HG d_Md_declare_68 (L_Md_41 HG) (by decide) rfl rfl rfl rfl ?_
                refine z_aload_n d_Md_declare_71 rfl rfl ?_
                refine z_mg HG d_Md_declare_72 (L_Md_41 HG) (by decide) rfl ?_
                refine z_eqi (va_up_self _ _ _) ?_
                refine z_if_eq (tgt := 80) d_Md_declare_75 rfl (fun c75 => ?_) (fun c75 => ?_)
                · rw [← nI_0, nI_eq (by omega) (by omega)] at c75
                  refine z_aload_n d_Md_declare_80 rfl rfl ?_
                  refine z_iconst (v := nI 0) d_Md_declare_81 (by decide) ?_
                  refine z_iload_n d_Md_declare_82 rfl rfl ?_
                  refine z_iadd d_Md_declare_83 ?_
                  refine z_eqi ((nI_add _ _).trans (pk_bump (Nat.zero_add js.length))) ?_
                  refine z_bipush (v := nI 16) d_Md_declare_84 (by decide +kernel) ?_
                  refine z_aload_n d_Md_declare_86 rfl rfl ?_
                  refine z_mg HG d_Md_declare_87 (L_Md_117 HG) (by decide) rfl ?_
                  refine z_eqi ((va_up_ne _ _ (by decide)).trans hk) ?_
                  refine z_iadd d_Md_declare_90 ?_
                  refine z_eqi (nI_add _ _) ?_
                  refine z_mc (as := [.int (nI js.length), .int (nI (16 + ks.length))]) (dY := d + 2) HG d_Md_declare_91 rfl (by omega) (Y_Md_90 HG) rfl rfl (Nat.le_of_ble_eq_true rfl) (c_Md_copy HG (by omega) (by omega) (by omega) hT) (fun v1 s1 A1 hp1 => ?_)
                  obtain ⟨rfl, rfl, wr⟩ := hp1
                  refine z_aload_n d_Md_declare_94 rfl rfl ?_
                  refine z_mg HG d_Md_declare_95 (L_Md_19 HG) (by decide) rfl ?_
                  refine z_aload_n d_Md_declare_98 rfl rfl ?_
                  refine z_mg HG d_Md_declare_99 (L_Md_117 HG) (by decide) rfl ?_
                  refine z_eqi ((va_up_ne _ _ (by decide)).trans hk) ?_
                  refine z_iload_n d_Md_declare_102 rfl rfl ?_
                  refine z_msZ HG d_Md_declare_103 (by omega) htn ?_
                  refine z_aload_n d_Md_declare_104 rfl rfl ?_
                  refine z_dup d_Md_declare_105 rfl ?_
                  refine z_mg HG d_Md_declare_106 (L_Md_117 HG) (by decide) rfl ?_
                  refine z_eqi ((va_up_ne _ _ (by decide)).trans hk) ?_
                  refine z_iconst (v := nI 1) d_Md_declare_109 (by decide) ?_
                  refine z_iadd d_Md_declare_110 ?_
                  refine z_eqi (nI_add _ _) ?_
                  refine z_mp HG d_Md_declare_111 (L_Md_117 HG) (by decide) rfl rfl rfl rfl ?_
                  refine z_aload_n d_Md_declare_114 rfl rfl ?_
                  refine z_dup d_Md_declare_115 rfl ?_
                  refine z_mg HG d_Md_declare_116 (L_Md_107 HG) (by decide) rfl ?_
                  refine z_eqi ((va_up_ne _ _ (by decide)).trans ((va_up_ne _ _ (by decide)).trans h3)) ?_
                  refine z_iconst (v := nI 1) d_Md_declare_119 (by decide) ?_
                  refine z_isub d_Md_declare_120 ?_
                  refine z_eqi ((pk_sub (by omega)).trans (pk_bump (show _ = js.length by omega))) ?_
                  refine z_mp HG d_Md_declare_121 (L_Md_107 HG) (by decide) rfl rfl rfl rfl ?_
                  refine z_aload_n d_Md_declare_124 rfl rfl ?_
                  refine z_mg HG d_Md_declare_125 (L_Md_117 HG) (by decide) rfl ?_
                  refine z_eqi ((va_up_ne _ _ (by decide)).trans (va_up_self _ _ _)) ?_
                  refine z_iconst (v := nI 1) d_Md_declare_128 (by decide) ?_
                  refine z_isub d_Md_declare_129 ?_
                  refine z_eqi ((pk_sub (by omega)).trans (pk_bump (show _ = ks.length by omega))) ?_
                  exact z_ireturn d_Md_declare_130 rfl rfl ⟨_, _, _, rfl, rfl, rfl, rfl, ((H.sc m_s3.rf (m_sq4.up0 (v := nI 0))).pop (s' := va_up (va_up s 0 (nI 0)) 3 (nI js.length)) rfl rfl rfl rfl).kpush (by omega) wr htb rfl rfl rfl rfl⟩
                · rw [← nI_0, nI_eq (by omega) (by omega)] at c75
                  omega
              · have c60 := b_eq c60
                rw [if_neg (fun hh => hh.elim c48 c60)]
                refine z_iconst (v := nI 3) d_Md_declare_63 (by decide) ?_
                refine z_goto (tgt := 68) d_Md_declare_64 rfl ?_
                refine z_mp HG d_Md_declare_68 (L_Md_41 HG) (by decide) rfl rfl rfl rfl ?_
                refine z_aload_n d_Md_declare_71 rfl rfl ?_
                refine z_mg HG d_Md_declare_72 (L_Md_41 HG) (by decide) rfl ?_
                refine z_eqi (va_up_self _ _ _) ?_
                refine z_if_eq (tgt := 80) d_Md_declare_75 rfl (fun c75 => ?_) (fun c75 => ?_)
                · rw [← nI_0, nI_eq (by omega) (by omega)] at c75
                  omega
                · rw [← nI_0, nI_eq (by omega) (by omega)] at c75
                  refine z_iconst (v := nI 0) d_Md_declare_78 (by decide) ?_
                  exact z_ireturn d_Md_declare_79 rfl rfl ⟨_, _, _, rfl, rfl, ⟨_, rfl⟩, (va_up_self _ _ _).trans (by rw [show m_cd [z_ISE, z_UOE, z_IAE] z_IAE = 3 by decide +kernel]), H.sc m_s3.rf m_sq4.up0⟩
          · rw [nI_eq (by omega) (by omega)] at c32
            rw [if_pos c32]
            refine z_iconst (v := nI 2) d_Md_declare_35 (by decide) ?_
            refine z_goto (tgt := 68) d_Md_declare_36 rfl ?_
            refine z_mp HG d_Md_declare_68 (L_Md_41 HG) (by decide) rfl rfl rfl rfl ?_
            refine z_aload_n d_Md_declare_71 rfl rfl ?_
            refine z_mg HG d_Md_declare_72 (L_Md_41 HG) (by decide) rfl ?_
            refine z_eqi (va_up_self _ _ _) ?_
            refine z_if_eq (tgt := 80) d_Md_declare_75 rfl (fun c75 => ?_) (fun c75 => ?_)
            · rw [← nI_0, nI_eq (by omega) (by omega)] at c75
              omega
            · rw [← nI_0, nI_eq (by omega) (by omega)] at c75
              refine z_iconst (v := nI 0) d_Md_declare_78 (by decide) ?_
              exact z_ireturn d_Md_declare_79 rfl rfl ⟨_, _, _, rfl, rfl, ⟨_, rfl⟩, (va_up_self _ _ _).trans (by rw [show m_cd [z_ISE, z_UOE, z_IAE] z_UOE = 2 by decide +kernel]), H.sc m_s3.rf m_sq4.up0⟩
        · rw [← nI_0, nI_leI (by omega) (by omega)] at c19
          omega
theorem k_normal_no {J : pJ} {js : List pJ} {K2 : List (List Nat) × List (List Nat × Bool) × List pR} (hz : p_norm K2.2.2 51 J.2.1 = none) : k_normal (J :: js, K2) = .inl z_AE := by
  show (match p_norm K2.2.2 51 J.2.1 with | none => _ | some z => _) = _
  rw [hz]
theorem k_normal_ok {J : pJ} {js : List pJ} {K2 : List (List Nat) × List (List Nat × Bool) × List pR} {z : Nat × List Nat} (hz : p_norm K2.2.2 51 J.2.1 = some z) : k_normal (J :: js, K2) = .inr (some (.int (nI z.1)), ((J.1, z.2, J.2.2) :: js, K2)) := by
  show (match p_norm K2.2.2 51 J.2.1 with | none => _ | some z => _) = _
  rw [hz]
theorem mK.term {J : pJ} {js : List pJ} {K2 : List (List Nat) × List (List Nat × Bool) × List pR} {t : List Nat} {B : Nat → Nat → Int32} (H : mK (J :: js, K2) s A) (k : m_s3 A A1) (w : m_wr A1 B js.length t) (q4 : m_sq4 s s') : mK ((J.1, t, J.2.2) :: js, K2) s' B := by
  have h6 : js.length + 1 ≤ 6 := H.2.1.1
  have h3 : s 3 = nI (js.length + 1) := H.1.1
  obtain ⟨hA, hT, hY⟩ := H.top
  refine mK.push (J := (J.1, t, J.2.2)) (K := (js, K2)) (n := js.length) (H.pop (s' := va_up s 3 (nI js.length)) rfl rfl rfl rfl) rfl h6 (q4.1.trans h3) q4.2.1 q4.2.2.1 q4.2.2.2 (fun r r1 r2 r3 => (k.1 r r1).tr (w.same r2)) (fun j hj => by rw [w.1 3 (by decide) (by decide), k.2.1]) (by rw [w.1 4 (by decide) (by decide), k.2.2.1]) (by rw [w.1 5 (by decide) (by decide), k.2.2.2]) ?_ w.row (w.keep (by omega) (k.row (by omega) hY))
  rw [w.1 3 (by decide) (by decide), k.2.1]
  exact hA
theorem c_Md_normal (HG : z_ok G) (H : mK K s A) (Pk : pok K) : z_C G m_Md_normal (d + 6) [.ref q] (md G h q s A) (m_post G h q (m_out (m_cd [z_ISE, z_AE]) K (k_normal K))) := by
  refine z_C.of (Nat.le_of_ble_eq_true rfl) ?_
  obtain ⟨js, K2⟩ := K
  have h6 : js.length ≤ 6 := H.2.1.1
  have h4 : K2.1.length ≤ 4 := H.2.1.2.1
  have h3 : s 3 = nI js.length := H.1.1
  have h8 : s 8 = nI K2.2.2.length := H.1.2.2.2
  cases js with
  | nil =>
    have h3 : s 3 = nI 0 := h3
    rw [show k_normal ([], K2) = .inl z_ISE from rfl]
    refine z_aload_n d_Md_normal_0 rfl rfl ?_
    refine z_mg HG d_Md_normal_1 (L_Md_107 HG) (by decide) rfl ?_
    refine z_eqi h3 ?_
    refine z_if_ne (tgt := 13) d_Md_normal_4 rfl (fun c4 => ?_) (fun c4 => ?_)
    · rw [← nI_0, nI_eq (by omega) (by omega)] at c4
      omega
    · rw [← nI_0, nI_eq (by omega) (by omega)] at c4
      refine z_aload_n d_Md_normal_7 rfl rfl ?_
      refine z_iconst (v := nI 1) d_Md_normal_8 (by decide) ?_
      refine z_mc (as := [.int (nI 1)]) (dY := d) HG d_Md_normal_9 rfl (by omega) (Y_Md_153 HG) rfl rfl (Nat.le_of_ble_eq_true rfl) (c_Md_raise (c := 1) HG) (fun v1 s1 A1 hp1 => ?_)
      obtain ⟨rfl, rfl, rfl⟩ := hp1
      exact z_ireturn d_Md_normal_12 rfl rfl ⟨_, _, _, rfl, rfl, ⟨_, rfl⟩, (va_up_self _ _ _).trans (by rw [show m_cd [z_ISE, z_AE] z_ISE = 1 by decide +kernel]), H.sc m_s3.rf m_sq4.up0⟩
  | cons J js =>
    have h3 : s 3 = nI (js.length + 1) := h3
    rw [List.length_cons] at h6
    obtain ⟨-, hT, hY⟩ := H.top
    have hJw := Pk.1 J List.mem_cons_self
    refine z_aload_n d_Md_normal_0 rfl rfl ?_
    refine z_mg HG d_Md_normal_1 (L_Md_107 HG) (by decide) rfl ?_
    refine z_eqi h3 ?_
    refine z_if_ne (tgt := 13) d_Md_normal_4 rfl (fun c4 => ?_) (fun c4 => ?_)
    · rw [← nI_0, nI_eq (by omega) (by omega)] at c4
      refine z_aload_n d_Md_normal_13 rfl rfl ?_
      refine z_iconst (v := nI 0) d_Md_normal_14 (by decide) ?_
      refine z_mp HG d_Md_normal_15 (L_Md_45 HG) (by decide) rfl rfl rfl rfl ?_
      refine z_aload_n d_Md_normal_18 rfl rfl ?_
      refine z_iconst (v := nI 0) d_Md_normal_19 (by decide) ?_
      refine z_aload_n d_Md_normal_20 rfl rfl ?_
      refine z_mg HG d_Md_normal_21 (L_Md_107 HG) (by decide) rfl ?_
      refine z_eqi ((va_up_ne _ _ (by decide)).trans h3) ?_
      refine z_iadd d_Md_normal_24 ?_
      refine z_eqi (nI_add _ _) ?_
      refine z_iconst (v := nI 1) d_Md_normal_25 (by decide) ?_
      refine z_isub d_Md_normal_26 ?_
      refine z_eqi ((pk_sub (by omega)).trans (pk_bump (show _ = js.length by omega))) ?_
      refine z_mc (as := [.int (nI js.length)]) (dY := d + 5) HG d_Md_normal_27 rfl (by omega) (Y_Md_120 HG) rfl rfl (Nat.le_of_ble_eq_true rfl) (c_Md_normalOf (n := J.1) (Rs := K2.2.2) HG (by omega) (by have := hJw.1; exact Nat.le_trans this h4) Pk.2.2.2 ((va_up_ne _ _ (by decide)).trans h8) (va_up_self _ _ _) hJw.2.1 hT H.rs) (fun v1 s1 A1 hp1 => ?_)
      cases hz : p_norm K2.2.2 51 J.2.1 with
      | none =>
        rw [hz] at hp1
        obtain ⟨⟨nv, rfl⟩, rfl, sx, l0, u2⟩ := hp1
        rw [k_normal_no hz]
        refine z_istore_n d_Md_normal_30 rfl (by decide) ?_
        refine z_aload_n d_Md_normal_31 rfl rfl ?_
        refine z_mg HG d_Md_normal_32 (L_Md_45 HG) (by decide) rfl ?_
        refine z_eqi (va_up_self _ _ _) ?_
        refine z_if_eq (tgt := 44) d_Md_normal_35 rfl (fun c35 => ?_) (fun c35 => ?_)
        · rw [← nI_0, nI_eq (by omega) (by omega)] at c35
          omega
        · rw [← nI_0, nI_eq (by omega) (by omega)] at c35
          refine z_aload_n d_Md_normal_38 rfl rfl ?_
          refine z_iconst (v := nI 2) d_Md_normal_39 (by decide) ?_
          refine z_mc (as := [.int (nI 2)]) (dY := d) HG d_Md_normal_40 rfl (by omega) (Y_Md_153 HG) rfl rfl (Nat.le_of_ble_eq_true rfl) (c_Md_raise (c := 2) HG) (fun v2 s2 A2 hp2 => ?_)
          obtain ⟨rfl, rfl, rfl⟩ := hp2
          exact z_ireturn d_Md_normal_43 rfl rfl ⟨_, _, _, rfl, rfl, ⟨_, rfl⟩, (va_up_self _ _ _).trans (by rw [show m_cd [z_ISE, z_AE] z_AE = 2 by decide +kernel]), H.sc sx.s3 ((m_sq4.up10.tr m_sq4.up10).tr m_sq4.up0)⟩
      | some z =>
        rw [hz] at hp1
        obtain ⟨rfl, rfl, sx, u2⟩ := hp1
        rw [k_normal_ok hz]
        refine z_istore_n d_Md_normal_30 rfl (by decide) ?_
        refine z_aload_n d_Md_normal_31 rfl rfl ?_
        refine z_mg HG d_Md_normal_32 (L_Md_45 HG) (by decide) rfl ?_
        refine z_eqi (va_up_self _ _ _) ?_
        refine z_if_eq (tgt := 44) d_Md_normal_35 rfl (fun c35 => ?_) (fun c35 => ?_)
        · rw [← nI_0, nI_eq (by omega) (by omega)] at c35
          refine z_aload_n d_Md_normal_44 rfl rfl ?_
          refine z_iconst (v := nI 0) d_Md_normal_45 (by decide) ?_
          refine z_mp HG d_Md_normal_46 (L_Md_41 HG) (by decide) rfl rfl rfl rfl ?_
          refine z_aload_n d_Md_normal_49 rfl rfl ?_
          refine z_bipush (v := nI 40) d_Md_normal_50 (by decide +kernel) ?_
          refine z_iconst (v := nI 0) d_Md_normal_52 (by decide) ?_
          refine z_aload_n d_Md_normal_53 rfl rfl ?_
          refine z_mg HG d_Md_normal_54 (L_Md_107 HG) (by decide) rfl ?_
          refine z_eqi ((va_up_ne _ _ (by decide)).trans ((va_up_ne _ _ (by decide)).trans h3)) ?_
          refine z_iadd d_Md_normal_57 ?_
          refine z_eqi (nI_add _ _) ?_
          refine z_iconst (v := nI 1) d_Md_normal_58 (by decide) ?_
          refine z_isub d_Md_normal_59 ?_
          refine z_eqi ((pk_sub (by omega)).trans (pk_bump (show _ = js.length by omega))) ?_
          refine z_mc (as := [.int (nI 40), .int (nI js.length)]) (dY := d + 2) HG d_Md_normal_60 rfl (by omega) (Y_Md_90 HG) rfl rfl (Nat.le_of_ble_eq_true rfl) (c_Md_copy (d := d) HG (by omega) (by omega) (by omega) u2) (fun v3 s3 A3 hp3 => ?_)
          obtain ⟨rfl, rfl, wr⟩ := hp3
          refine z_iload_n d_Md_normal_63 rfl rfl ?_
          exact z_ireturn d_Md_normal_64 rfl rfl ⟨_, _, _, rfl, rfl, by rw [Nat.zero_add], rfl, H.term sx.s3 wr (m_sq4.up10.tr m_sq4.up0)⟩
        · rw [← nI_0, nI_eq (by omega) (by omega)] at c35
          omega
    · rw [← nI_0, nI_eq (by omega) (by omega)] at c4
      omega
theorem k_same_n1 {JA JB : pJ} {js : List pJ} {K2 : List (List Nat) × List (List Nat × Bool) × List pR} (he : JA.1 = JB.1) (hz : p_norm K2.2.2 51 JB.2.1 = none) : k_same (JA :: JB :: js, K2) = .inl z_AE := by
  show (if JA.1 = JB.1 then (match p_norm K2.2.2 51 JB.2.1 with | none => _ | some zb => _) else _) = _
  rw [if_pos he, hz]
theorem k_same_n2 {JA JB : pJ} {js : List pJ} {K2 : List (List Nat) × List (List Nat × Bool) × List pR} {zb : Nat × List Nat} (he : JA.1 = JB.1) (hz : p_norm K2.2.2 51 JB.2.1 = some zb) (hz2 : p_norm K2.2.2 51 JA.2.1 = none) : k_same (JA :: JB :: js, K2) = .inl z_AE := by
  show (if JA.1 = JB.1 then (match p_norm K2.2.2 51 JB.2.1 with | none => _ | some zb => (match p_norm K2.2.2 51 JA.2.1 with | none => _ | some za => _)) else _) = _
  rw [if_pos he, hz]
  show (match p_norm K2.2.2 51 JA.2.1 with | none => _ | some za => _) = _
  rw [hz2]
theorem k_same_ok {JA JB : pJ} {js : List pJ} {K2 : List (List Nat) × List (List Nat × Bool) × List pR} {za zb : Nat × List Nat} (he : JA.1 = JB.1) (hz : p_norm K2.2.2 51 JB.2.1 = some zb) (hz2 : p_norm K2.2.2 51 JA.2.1 = some za) : k_same (JA :: JB :: js, K2) = .inr (some (.int (if za.2 = zb.2 then nI 1 else nI 0)), (JA :: JB :: js, K2)) := by
  show (if JA.1 = JB.1 then (match p_norm K2.2.2 51 JB.2.1 with | none => _ | some zb => (match p_norm K2.2.2 51 JA.2.1 with | none => _ | some za => _)) else _) = _
  rw [if_pos he, hz]
  show (match p_norm K2.2.2 51 JA.2.1 with | none => _ | some za => _) = _
  rw [hz2]
theorem c_Md_same (HG : z_ok G) (H : mK K s A) (Pk : pok K) : z_C G m_Md_same (d + 6) [.ref q] (md G h q s A) (m_post G h q (m_out (m_cd [z_ISE, z_AE]) K (k_same K))) := by
  refine z_C.of (Nat.le_of_ble_eq_true rfl) ?_
  have H0 := H.sc (s' := va_up s 0 (nI 0)) m_s3.rf m_sq4.up0
  have e0 : va_up s 0 (nI 0) 0 = nI 0 := va_up_self _ _ _
  obtain ⟨js, K2⟩ := K
  have h6 : js.length ≤ 6 := H0.2.1.1
  have h4 : K2.1.length ≤ 4 := H0.2.1.2.1
  have h3 : va_up s 0 (nI 0) 3 = nI js.length := H0.1.1
  have h8 : va_up s 0 (nI 0) 8 = nI K2.2.2.length := H0.1.2.2.2
  have few : js.length < 2 → z_V G m_Md_same (d + 6) 0 [(0, .ref q)] [] (md G h q s A) (m_post G h q (m_out (m_cd [z_ISE, z_AE]) (js, K2) (.inl z_ISE))) := by
    intro hlt
    refine z_aload_n d_Md_same_0 rfl rfl ?_
    refine z_iconst (v := nI 0) d_Md_same_1 (by decide) ?_
    refine z_mp HG d_Md_same_2 (L_Md_41 HG) (by decide) rfl rfl rfl rfl ?_
    generalize va_up s 0 (nI 0) = s0 at H0 e0 h3 h8 ⊢
    refine z_aload_n d_Md_same_5 rfl rfl ?_
    refine z_mg HG d_Md_same_6 (L_Md_107 HG) (by decide) rfl ?_
    refine z_eqi h3 ?_
    refine z_iconst (v := nI 2) d_Md_same_9 (by decide) ?_
    refine z_icmp_lt (tgt := 38) d_Md_same_10 rfl (fun c10 => ?_) (fun c10 => ?_)
    · rw [nI_ltI (by omega) (by omega)] at c10
      refine z_aload_n d_Md_same_38 rfl rfl ?_
      refine z_iconst (v := nI 1) d_Md_same_39 (by decide) ?_
      refine z_mp HG d_Md_same_40 (L_Md_41 HG) (by decide) rfl rfl rfl rfl ?_
      refine z_iconst (v := nI 0) d_Md_same_43 (by decide) ?_
      exact z_ireturn d_Md_same_44 rfl rfl ⟨_, _, _, rfl, rfl, ⟨_, rfl⟩, (va_up_self _ _ _).trans (by rw [show m_cd [z_ISE, z_AE] z_ISE = 1 by decide +kernel]), H0.sc m_s3.rf m_sq4.up0⟩
    · rw [nI_ltI (by omega) (by omega)] at c10
      omega
  cases js with
  | nil => exact few (by decide)
  | cons JA js =>
    cases js with
    | nil => exact few (Nat.lt_succ_self 1)
    | cons JB js =>
      clear few
      have h3 : va_up s 0 (nI 0) 3 = nI (js.length + 2) := h3
      have h6 : js.length + 2 ≤ 6 := h6
      obtain ⟨a1, a2, a3⟩ := H0.2.2.1 (js.length + 1) JA l_rt
      obtain ⟨b1, b2, b3⟩ := H0.2.2.1 js.length JB (by rw [l_rl (Nat.lt_succ_self _)]; exact l_rt)
      have hAw := Pk.1 JA List.mem_cons_self
      have hBw := Pk.1 JB (List.mem_cons_of_mem _ List.mem_cons_self)
      have hA4 : JA.1 ≤ 4 := Nat.le_trans hAw.1 h4
      have hB4 : JB.1 ≤ 4 := Nat.le_trans hBw.1 h4
      refine z_aload_n d_Md_same_0 rfl rfl ?_
      refine z_iconst (v := nI 0) d_Md_same_1 (by decide) ?_
      refine z_mp HG d_Md_same_2 (L_Md_41 HG) (by decide) rfl rfl rfl rfl ?_
      generalize va_up s 0 (nI 0) = s0 at H0 e0 h3 h8 ⊢
      refine z_aload_n d_Md_same_5 rfl rfl ?_
      refine z_mg HG d_Md_same_6 (L_Md_107 HG) (by decide) rfl ?_
      refine z_eqi h3 ?_
      refine z_iconst (v := nI 2) d_Md_same_9 (by decide) ?_
      refine z_icmp_lt (tgt := 38) d_Md_same_10 rfl (fun c10 => ?_) (fun c10 => ?_)
      · rw [nI_ltI (by omega) (by omega)] at c10
        omega
      · rw [nI_ltI (by omega) (by omega)] at c10
        refine z_aload_n d_Md_same_13 rfl rfl ?_
        refine z_mg HG d_Md_same_14 (L_Md_16 HG) (by decide) rfl ?_
        refine z_aload_n d_Md_same_17 rfl rfl ?_
        refine z_mg HG d_Md_same_18 (L_Md_107 HG) (by decide) rfl ?_
        refine z_eqi h3 ?_
        refine z_iconst (v := nI 1) d_Md_same_21 (by decide) ?_
        refine z_isub d_Md_same_22 ?_
        refine z_eqi ((pk_sub (by omega)).trans (pk_bump (show _ = js.length + 1 by omega))) ?_
        refine z_ml HG 3 d_Md_same_23 (by decide) (show _ < 6 by omega) a1 ?_
        refine z_aload_n d_Md_same_24 rfl rfl ?_
        refine z_mg HG d_Md_same_25 (L_Md_16 HG) (by decide) rfl ?_
        refine z_aload_n d_Md_same_28 rfl rfl ?_
        refine z_mg HG d_Md_same_29 (L_Md_107 HG) (by decide) rfl ?_
        refine z_eqi h3 ?_
        refine z_iconst (v := nI 2) d_Md_same_32 (by decide) ?_
        refine z_isub d_Md_same_33 ?_
        refine z_eqi ((pk_sub (by omega)).trans (pk_bump (show _ = js.length by omega))) ?_
        refine z_ml HG 3 d_Md_same_34 (by decide) (show _ < 6 by omega) b1 ?_
        refine z_icmp_eq (tgt := 45) d_Md_same_35 rfl (fun c35 => ?_) (fun c35 => ?_)
        · rw [nI_eq (by omega) (by omega)] at c35
          refine z_aload_n d_Md_same_45 rfl rfl ?_
          refine z_iconst (v := nI 0) d_Md_same_46 (by decide) ?_
          refine z_mp HG d_Md_same_47 (L_Md_45 HG) (by decide) rfl rfl rfl rfl ?_
          refine z_aload_n d_Md_same_50 rfl rfl ?_
          refine z_iconst (v := nI 0) d_Md_same_51 (by decide) ?_
          refine z_aload_n d_Md_same_52 rfl rfl ?_
          refine z_mg HG d_Md_same_53 (L_Md_107 HG) (by decide) rfl ?_
          refine z_eqi ((va_up_ne _ _ (by decide)).trans h3) ?_
          refine z_iadd d_Md_same_56 ?_
          refine z_eqi (nI_add _ _) ?_
          refine z_iconst (v := nI 2) d_Md_same_57 (by decide) ?_
          refine z_isub d_Md_same_58 ?_
          refine z_eqi ((pk_sub (by omega)).trans (pk_bump (show _ = js.length by omega))) ?_
          refine z_mc (as := [.int (nI js.length)]) (dY := d + 5) HG d_Md_same_59 rfl (by omega) (Y_Md_120 HG) rfl rfl (Nat.le_of_ble_eq_true rfl) (c_Md_normalOf (n := JB.1) (Rs := K2.2.2) HG (by omega) hB4 Pk.2.2.2 ((va_up_ne _ _ (by decide)).trans h8) (va_up_self _ _ _) hBw.2.1 b2 H0.rs) (fun v1 s1 A1 hp1 => ?_)
          cases hz : p_norm K2.2.2 51 JB.2.1 with
          | none =>
            rw [hz] at hp1
            obtain ⟨⟨nv, rfl⟩, rfl, sx, l0, u2⟩ := hp1
            rw [k_same_n1 c35 hz]
            refine z_istore_n d_Md_same_62 rfl (by decide) ?_
            refine z_aload_n d_Md_same_63 rfl rfl ?_
            refine z_bipush (v := nI 40) d_Md_same_64 (by decide +kernel) ?_
            refine z_bipush (v := nI 42) d_Md_same_66 (by decide +kernel) ?_
            refine z_mc (as := [.int (nI 40), .int (nI 42)]) (dY := d + 2) HG d_Md_same_68 rfl (by omega) (Y_Md_90 HG) rfl rfl (Nat.le_of_ble_eq_true rfl) (c_Md_copy (d := d) HG (by omega) (by omega) (by omega) u2) (fun v2 s2 A2 hp2 => ?_)
            obtain ⟨rfl, rfl, wr⟩ := hp2
            refine z_aload_n d_Md_same_71 rfl rfl ?_
            refine z_mg HG d_Md_same_72 (L_Md_45 HG) (by decide) rfl ?_
            refine z_eqi (va_up_self _ _ _) ?_
            refine z_if_eq (tgt := 82) d_Md_same_75 rfl (fun c75 => ?_) (fun c75 => ?_)
            · rw [← nI_0, nI_eq (by omega) (by omega)] at c75
              omega
            · rw [← nI_0, nI_eq (by omega) (by omega)] at c75
              refine z_iconst (v := nI 0) d_Md_same_78 (by decide) ?_
              refine z_goto (tgt := 94) d_Md_same_79 rfl ?_
              refine z_istore_n d_Md_same_94 rfl (by decide) ?_
              refine z_aload_n d_Md_same_95 rfl rfl ?_
              refine z_aload_n d_Md_same_96 rfl rfl ?_
              refine z_mg HG d_Md_same_97 (L_Md_45 HG) (by decide) rfl ?_
              refine z_eqi (va_up_self _ _ _) ?_
              refine z_if_eq (tgt := 107) d_Md_same_100 rfl (fun c100 => ?_) (fun c100 => ?_)
              · rw [← nI_0, nI_eq (by omega) (by omega)] at c100
                omega
              · rw [← nI_0, nI_eq (by omega) (by omega)] at c100
                refine z_iconst (v := nI 2) d_Md_same_103 (by decide) ?_
                refine z_goto (tgt := 108) d_Md_same_104 rfl ?_
                refine z_mp HG d_Md_same_108 (L_Md_41 HG) (by decide) rfl rfl rfl rfl ?_
                refine z_aload_n d_Md_same_111 rfl rfl ?_
                refine z_mg HG d_Md_same_112 (L_Md_45 HG) (by decide) rfl ?_
                refine z_eqi ((va_up_ne _ _ (by decide)).trans (va_up_self _ _ _)) ?_
                refine z_if_ne (tgt := 133) d_Md_same_115 rfl (fun c115 => ?_) (fun c115 => ?_)
                · rw [← nI_0, nI_eq (by omega) (by omega)] at c115
                  refine z_iconst (v := nI 0) d_Md_same_133 (by decide) ?_
                  exact z_ireturn d_Md_same_134 rfl rfl ⟨_, _, _, rfl, rfl, ⟨_, rfl⟩, (va_up_self _ _ _).trans (by rw [show m_cd [z_ISE, z_AE] z_AE = 2 by decide +kernel]), H0.sc (sx.s3.tr (wr.s3 (by omega))) ((m_sq4.up10.tr m_sq4.up10).tr m_sq4.up0)⟩
                · rw [← nI_0, nI_eq (by omega) (by omega)] at c115
                  omega
          | some zb =>
            rw [hz] at hp1
            obtain ⟨rfl, rfl, sx, u2⟩ := hp1
            refine z_istore_n d_Md_same_62 rfl (by decide) ?_
            refine z_aload_n d_Md_same_63 rfl rfl ?_
            refine z_bipush (v := nI 40) d_Md_same_64 (by decide +kernel) ?_
            refine z_bipush (v := nI 42) d_Md_same_66 (by decide +kernel) ?_
            refine z_mc (as := [.int (nI 40), .int (nI 42)]) (dY := d + 2) HG d_Md_same_68 rfl (by omega) (Y_Md_90 HG) rfl rfl (Nat.le_of_ble_eq_true rfl) (c_Md_copy (d := d) HG (by omega) (by omega) (by omega) u2) (fun v2 s2 A2 hp2 => ?_)
            obtain ⟨rfl, rfl, wr⟩ := hp2
            refine z_aload_n d_Md_same_71 rfl rfl ?_
            refine z_mg HG d_Md_same_72 (L_Md_45 HG) (by decide) rfl ?_
            refine z_eqi (va_up_self _ _ _) ?_
            refine z_if_eq (tgt := 82) d_Md_same_75 rfl (fun c75 => ?_) (fun c75 => ?_)
            · rw [← nI_0, nI_eq (by omega) (by omega)] at c75
              refine z_aload_n d_Md_same_82 rfl rfl ?_
              refine z_iconst (v := nI 0) d_Md_same_83 (by decide) ?_
              refine z_aload_n d_Md_same_84 rfl rfl ?_
              refine z_mg HG d_Md_same_85 (L_Md_107 HG) (by decide) rfl ?_
              refine z_eqi ((va_up_ne _ _ (by decide)).trans h3) ?_
              refine z_iadd d_Md_same_88 ?_
              refine z_eqi (nI_add _ _) ?_
              refine z_iconst (v := nI 1) d_Md_same_89 (by decide) ?_
              refine z_isub d_Md_same_90 ?_
              refine z_eqi ((pk_sub (by omega)).trans (pk_bump (show _ = js.length + 1 by omega))) ?_
              refine z_mc (as := [.int (nI (js.length + 1))]) (dY := d + 5) HG d_Md_same_91 rfl (by omega) (Y_Md_120 HG) rfl rfl (Nat.le_of_ble_eq_true rfl) (c_Md_normalOf (n := JA.1) (Rs := K2.2.2) HG (by omega) hA4 Pk.2.2.2 ((va_up_ne _ _ (by decide)).trans h8) (va_up_self _ _ _) hAw.2.1 (wr.keep (by omega) (sx.row (Or.inl (by omega)) a2)) (mK.rs (H0.sc (sx.s3.tr (wr.s3 (by omega))) (m_sq4.rf (s := s0))))) (fun v3 s3 A3 hp3 => ?_)
              cases hz2 : p_norm K2.2.2 51 JA.2.1 with
              | none =>
                rw [hz2] at hp3
                obtain ⟨⟨nv, rfl⟩, rfl, sx2, l0, u3⟩ := hp3
                rw [k_same_n2 c35 hz hz2]
                refine z_istore_n d_Md_same_94 rfl (by decide) ?_
                refine z_aload_n d_Md_same_95 rfl rfl ?_
                refine z_aload_n d_Md_same_96 rfl rfl ?_
                refine z_mg HG d_Md_same_97 (L_Md_45 HG) (by decide) rfl ?_
                refine z_eqi (va_up_self _ _ _) ?_
                refine z_if_eq (tgt := 107) d_Md_same_100 rfl (fun c100 => ?_) (fun c100 => ?_)
                · rw [← nI_0, nI_eq (by omega) (by omega)] at c100
                  omega
                · rw [← nI_0, nI_eq (by omega) (by omega)] at c100
                  refine z_iconst (v := nI 2) d_Md_same_103 (by decide) ?_
                  refine z_goto (tgt := 108) d_Md_same_104 rfl ?_
                  refine z_mp HG d_Md_same_108 (L_Md_41 HG) (by decide) rfl rfl rfl rfl ?_
                  refine z_aload_n d_Md_same_111 rfl rfl ?_
                  refine z_mg HG d_Md_same_112 (L_Md_45 HG) (by decide) rfl ?_
                  refine z_eqi ((va_up_ne _ _ (by decide)).trans (va_up_self _ _ _)) ?_
                  refine z_if_ne (tgt := 133) d_Md_same_115 rfl (fun c115 => ?_) (fun c115 => ?_)
                  · rw [← nI_0, nI_eq (by omega) (by omega)] at c115
                    refine z_iconst (v := nI 0) d_Md_same_133 (by decide) ?_
                    exact z_ireturn d_Md_same_134 rfl rfl ⟨_, _, _, rfl, rfl, ⟨_, rfl⟩, (va_up_self _ _ _).trans (by rw [show m_cd [z_ISE, z_AE] z_AE = 2 by decide +kernel]), H0.sc ((sx.s3.tr (wr.s3 (by omega))).tr sx2.s3) ((m_sq4.up10.tr m_sq4.up10).tr m_sq4.up0)⟩
                  · rw [← nI_0, nI_eq (by omega) (by omega)] at c115
                    omega
              | some za =>
                rw [hz2] at hp3
                obtain ⟨rfl, rfl, sx2, u3⟩ := hp3
                rw [k_same_ok c35 hz hz2]
                have z3 := sx2.row (Or.inr rfl) wr.row
                refine z_istore_n d_Md_same_94 rfl (by decide) ?_
                refine z_aload_n d_Md_same_95 rfl rfl ?_
                refine z_aload_n d_Md_same_96 rfl rfl ?_
                refine z_mg HG d_Md_same_97 (L_Md_45 HG) (by decide) rfl ?_
                refine z_eqi (va_up_self _ _ _) ?_
                refine z_if_eq (tgt := 107) d_Md_same_100 rfl (fun c100 => ?_) (fun c100 => ?_)
                · rw [← nI_0, nI_eq (by omega) (by omega)] at c100
                  refine z_iconst (v := nI 0) d_Md_same_107 (by decide) ?_
                  refine z_mp HG d_Md_same_108 (L_Md_41 HG) (by decide) rfl rfl rfl rfl ?_
                  refine z_aload_n d_Md_same_111 rfl rfl ?_
                  refine z_mg HG d_Md_same_112 (L_Md_45 HG) (by decide) rfl ?_
                  refine z_eqi ((va_up_ne _ _ (by decide)).trans (va_up_self _ _ _)) ?_
                  refine z_if_ne (tgt := 133) d_Md_same_115 rfl (fun c115 => ?_) (fun c115 => ?_)
                  · rw [← nI_0, nI_eq (by omega) (by omega)] at c115
                    omega
                  · rw [← nI_0, nI_eq (by omega) (by omega)] at c115
                    refine z_aload_n d_Md_same_118 rfl rfl ?_
                    refine z_bipush (v := nI 40) d_Md_same_119 (by decide +kernel) ?_
                    refine z_bipush (v := nI 42) d_Md_same_121 (by decide +kernel) ?_
                    refine z_mr (as := [.int (nI 40), .int (nI 42)]) (dY := d + 1) HG d_Md_same_123 rfl (by omega) (Y_Md_147 HG) rfl rfl (Nat.le_of_ble_eq_true rfl) (c_Md_equal HG (by omega) (by omega) u3 z3) ?_
                    refine z_if_eq (tgt := 133) d_Md_same_126 rfl (fun c126 => ?_) (fun c126 => ?_)
                    · have c126 := b_eq c126
                      rw [if_neg c126]
                      refine z_iconst (v := nI 0) d_Md_same_133 (by decide) ?_
                      exact z_ireturn d_Md_same_134 rfl rfl ⟨_, _, _, rfl, rfl, rfl, va_up_self _ _ _, H0.sc ((sx.s3.tr (wr.s3 (by omega))).tr sx2.s3) (m_sq4.up10.tr m_sq4.up0)⟩
                    · have c126 := b_ne c126
                      rw [if_pos c126]
                      refine z_iconst (v := nI 1) d_Md_same_129 (by decide) ?_
                      refine z_goto (tgt := 134) d_Md_same_130 rfl ?_
                      exact z_ireturn d_Md_same_134 rfl rfl ⟨_, _, _, rfl, rfl, rfl, va_up_self _ _ _, H0.sc ((sx.s3.tr (wr.s3 (by omega))).tr sx2.s3) (m_sq4.up10.tr m_sq4.up0)⟩
                · rw [← nI_0, nI_eq (by omega) (by omega)] at c100
                  omega
            · rw [← nI_0, nI_eq (by omega) (by omega)] at c75
              omega
        · rw [nI_eq (by omega) (by omega)] at c35
          rw [show k_same (JA :: JB :: js, K2) = .inl z_ISE from if_neg c35]
          refine z_aload_n d_Md_same_38 rfl rfl ?_
          refine z_iconst (v := nI 1) d_Md_same_39 (by decide) ?_
          refine z_mp HG d_Md_same_40 (L_Md_41 HG) (by decide) rfl rfl rfl rfl ?_
          refine z_iconst (v := nI 0) d_Md_same_43 (by decide) ?_
          exact z_ireturn d_Md_same_44 rfl rfl ⟨_, _, _, rfl, rfl, ⟨_, rfl⟩, (va_up_self _ _ _).trans (by rw [show m_cd [z_ISE, z_AE] z_ISE = 1 by decide +kernel]), H0.sc m_s3.rf m_sq4.up0⟩
end MO
