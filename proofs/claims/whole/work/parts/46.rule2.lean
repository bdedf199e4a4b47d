/-! rule -/
section KU
variable {G : z_G} {h : z_H} {d o : Nat} {K : pK}
def k_rule (K : pK) : String ⊕ (Option Value × pK) := match K.1 with
  | B :: A :: js => if B.1 = K.2.1.length ∧ A.1 = K.2.1.length then (if js.length = 0 then (if K.2.2.2.length = 8 then .inl z_UOE else if p_left K.2.2.1 K.2.1.length A.2.1 = true then (match p_norm K.2.2.2 51 A.2.2 with
      | none => .inl z_AE
      | some za => match p_norm K.2.2.2 51 B.2.2 with
        | none => .inl z_AE
        | some zb => if zb.2 = za.2 then .inr (some (.int (nI K.2.2.2.length)), ([], [], K.2.2.1, K.2.2.2 ++ [(A.2.1, B.2.1, K.2.1.length)])) else .inl z_IAE) else .inl z_IAE) else .inl z_ISE) else .inl z_ISE
  | _ => .inl z_ISE
theorem c_TK_rule (HG : z_ok G) (hrm : z_rm G h) (H : KAt G h o K) (P : pok K) : z_C G m_TK_rule (d + 6) [.ref o] h (tk_post G o K h (k_rule K)) := by
  obtain ⟨l1, l2, l3⟩ := H.len
  have hP4 := pok.e4 H P
  refine z_C.of (Nat.le_of_ble_eq_true rfl) ?_
  refine z_aload_n d_TK_rule_0 rfl rfl ?_
  refine z_iconst (v := nI 0) d_TK_rule_1 (by decide) ?_
  refine z_callVg (as := [.int (nI 0)]) (dY := d + 2) d_TK_rule_2 rfl (by omega) (Y_TK_99 HG) rfl H.2.1 (cl_TK HG) (Nat.le_of_ble_eq_true rfl) (c_TK_present HG hrm H.2.1 H.1 H.2.2.1 hP4 l2 (k := 0) (by omega)) (fun hc h' hh => ?_) (fun hc h' hh => ?_)
  · subst hh
    refine z_astore_n d_TK_rule_5 rfl (by decide) ?_
    refine z_aload_n d_TK_rule_6 rfl rfl ?_
    refine z_iconst (v := nI 1) d_TK_rule_7 (by decide) ?_
    refine z_callVg (as := [.int (nI 1)]) (dY := d + 2) d_TK_rule_8 rfl (by omega) (Y_TK_99 HG) rfl H.2.1 (cl_TK HG) (Nat.le_of_ble_eq_true rfl) (c_TK_present HG hrm H.2.1 H.1 H.2.2.1 hP4 l2 (k := 1) (by omega)) (fun hc1 h1 hh1 => ?_) (fun hc1 h1 hh1 => ?_)
    · subst hh1
      obtain ⟨js, cs, ks, Rs⟩ := K
      cases js with
      | nil =>
        obtain ⟨J, e, -⟩ := hc
        cases e
      | cons B js =>
        cases js with
        | nil =>
          obtain ⟨J, e, -⟩ := hc1
          cases e
        | cons A js =>
          have hcB : B.1 = cs.length := p_pres0.mp hc
          have hcA : A.1 = cs.length := by
            obtain ⟨J, e1, e2⟩ := hc1
            cases e1
            exact e2
          have l1' : js.length + 1 + 1 ≤ 6 := l1
          have l2' : cs.length ≤ 4 := l2
          have l3' : ks.length ≤ 8 := l3
          have eK : k_rule (B :: A :: js, cs, ks, Rs) = if B.1 = cs.length ∧ A.1 = cs.length then (if js.length = 0 then (if Rs.length = 8 then .inl z_UOE else if p_left ks cs.length A.2.1 = true then (match p_norm Rs 51 A.2.2 with
            | none => .inl z_AE
            | some za => match p_norm Rs 51 B.2.2 with
              | none => .inl z_AE
              | some zb => if zb.2 = za.2 then .inr (some (.int (nI Rs.length)), ([], [], ks, Rs ++ [(A.2.1, B.2.1, cs.length)])) else .inl z_IAE) else .inl z_IAE) else .inl z_ISE) else .inl z_ISE := rfl
          rw [eK, if_pos ⟨hcB, hcA⟩]
          have hB : jdAt G h1 (k_ju o (js.length + 1)) (some B) := H.2.2.1.get (k := 0) (J := B) rfl
          have hA : jdAt G h1 (k_ju o js.length) (some A) := H.2.2.1.get (k := 1) (J := A) rfl
          have ho : h1.2.2 o = some (k_tk o (js.length + 1 + 1) cs.length ks.length) := H.2.1
          obtain ⟨pb1, pb2, pb3⟩ := P.1 B List.mem_cons_self
          obtain ⟨pa1, pa2, pa3⟩ := P.1 A (List.mem_cons_of_mem _ List.mem_cons_self)
          rw [hcA] at pa2 pa3
          rw [hcB] at pb2 pb3
          have hub : o + 64 ≤ k_ju o (js.length + 1) ∧ k_ju o (js.length + 1) + 4 ≤ o + 93 := by unfold k_ju; omega
          have hua : o + 64 ≤ k_ju o js.length ∧ k_ju o js.length + 4 ≤ o + 93 := by unfold k_ju; omega
          show z_V G m_TK_rule (d + 6) 11 ((1, .ref (k_ju o (js.length + 1))) :: _) (.ref (k_ju o js.length) :: []) h1 _
          obtain ⟨fta, rta, hlta⟩ := rowL.get hA.2.1
          obtain ⟨fya, rya, hlya⟩ := rowL.get hA.2.2
          obtain ⟨x0, HR⟩ := H.2.2.2.2.2.2.1
          obtain ⟨a, b, nb, fx, fb', g, fr', hab, hq, -, -, -, -, -, -, -, hR⟩ := HR
          have hR8 : Rs.length ≤ 8 := hR.1
          refine z_astore_n d_TK_rule_11 rfl (by decide) ?_
          refine z_aload_n d_TK_rule_12 rfl rfl ?_
          refine z_getf (L_TK_15K HG) (by decide) (L_TK_15 HG) d_TK_rule_13 ho (by rfl) ?_
          refine z_iconst (v := nI 2) d_TK_rule_16 (by decide) ?_
          refine z_icmp_le (tgt := 28) d_TK_rule_17 rfl (fun c1 => ?_) (fun c1 => ?_)
          · rw [nI_leI (by omega) (by omega)] at c1
            rw [if_pos (by omega)]
            refine z_aload_n d_TK_rule_28 rfl rfl ?_
            refine z_getf (L_TK_41K HG) (by decide) (L_TK_41 HG) d_TK_rule_29 ho (by rfl) ?_
            refine z_getf (L_TK_149K HG) (by decide) (L_TK_149 HG) d_TK_rule_32 hq (by rfl) ?_
            refine z_bipush (v := nI 8) d_TK_rule_35 (by decide +kernel) ?_
            show z_V G m_TK_rule (d + 6) 37 _ (.int (nI 8) :: .int (nI Rs.length) :: _) h1 _
            refine z_icmp_ne (tgt := 48) d_TK_rule_37 rfl (fun c2 => ?_) (fun c2 => ?_)
            · rw [nI_eq (by omega) (by omega)] at c2
              rw [if_neg c2]
              refine z_aload_n d_TK_rule_48 rfl rfl ?_
              refine z_aload_n d_TK_rule_49 rfl rfl ?_
              refine z_getf (L_TK_64K HG) (by decide) (L_TK_64 HG) d_TK_rule_50 hA.ob (by rfl) ?_
              refine z_callV1r (dY := d + 2) d_TK_rule_53 rfl (by omega) (Y_TK_152 HG) ho (cl_TK HG) (Nat.le_of_ble_eq_true rfl) (c_TK_isLeftSide HG ho l2' H.2.2.2.2.1 rta hlta pa2) ?_
              by_cases hL : p_left ks cs.length A.2.1 = true
              · rw [if_pos hL, if_pos hL]
                refine z_if_ne (tgt := 67) d_TK_rule_56 rfl (fun c3 => ?_) (fun c3 => absurd c3 (by decide))
                refine z_aload_n d_TK_rule_67 rfl rfl ?_
                refine z_getf (L_TK_41K HG) (by decide) (L_TK_41 HG) d_TK_rule_68 ho (by rfl) ?_
                refine z_aload_n d_TK_rule_71 rfl rfl ?_
                refine z_getf (L_TK_71K HG) (by decide) (L_TK_71 HG) d_TK_rule_72 hA.ob (by rfl) ?_
                refine z_aload_n d_TK_rule_75 rfl rfl ?_
                refine z_getf (L_TK_46K HG) (by decide) (L_TK_46 HG) d_TK_rule_76 ho (by rfl) ?_
                cases hza : p_norm Rs 51 A.2.2 with
                | none =>
                  refine z_callV2x (dY := d + 5) d_TK_rule_79 rfl (by omega) (Y_TK_103 HG) hq (cl_Rw HG) (Nat.le_of_ble_eq_true rfl) (c_nmX HG hrm H P l2' (rr := 56) (by unfold scR; omega) (by omega) pa3 rya hlya hza) (fun h2 hh2 => ?_)
                  exact ⟨rfl, hh2⟩
                | some za =>
                  refine z_callV2q (dY := d + 5) d_TK_rule_79 rfl (by omega) (Y_TK_103 HG) hq (cl_Rw HG) (Nat.le_of_ble_eq_true rfl) (c_nm HG hrm H P l2' (rr := 56) (by unfold scR; omega) (by omega) pa3 rya hlya hza) (fun h2 hh2 => ?_)
                  obtain ⟨H2, kf2, ⟨f56, r56, hl56⟩, -⟩ := hh2
                  have hB2 : jdAt G h2 (k_ju o (js.length + 1)) (some B) := H2.2.2.1.get (k := 0) (J := B) rfl
                  have ho2 : h2.2.2 o = some (k_tk o (js.length + 1 + 1) cs.length ks.length) := H2.2.1
                  obtain ⟨fyb, ryb, hlyb⟩ := rowL.get hB2.2.2
                  obtain ⟨x02, HR2⟩ := H2.2.2.2.2.2.2.1
                  obtain ⟨a2, b2, nb2, fx2, fb2, g2, fr2, hab2, hq2, -⟩ := HR2
                  refine z_pop d_TK_rule_82 rfl ?_
                  refine z_aload_n d_TK_rule_83 rfl rfl ?_
                  refine z_getf (L_TK_41K HG) (by decide) (L_TK_41 HG) d_TK_rule_84 ho2 (by rfl) ?_
                  refine z_aload_n d_TK_rule_87 rfl rfl ?_
                  refine z_getf (L_TK_71K HG) (by decide) (L_TK_71 HG) d_TK_rule_88 hB2.ob (by rfl) ?_
                  refine z_aload_n d_TK_rule_91 rfl rfl ?_
                  refine z_getf (L_TK_50K HG) (by decide) (L_TK_50 HG) d_TK_rule_92 ho2 (by rfl) ?_
                  simp only []
                  cases hzb : p_norm Rs 51 B.2.2 with
                  | none =>
                    refine z_callV2x (dY := d + 5) d_TK_rule_95 rfl (by omega) (Y_TK_103 HG) hq2 (cl_Rw HG) (Nat.le_of_ble_eq_true rfl) (c_nmX HG (kf2.rm hrm) H2 P l2' (rr := 58) (by unfold scR; omega) (by omega) pb3 ryb hlyb hzb) (fun h3 hh3 => ?_)
                    obtain ⟨h4, e4, H4, kf4⟩ := hh3
                    exact ⟨rfl, h4, e4, H4, kf2.tr kf4⟩
                  | some zb =>
                    refine z_callV2q (dY := d + 5) d_TK_rule_95 rfl (by omega) (Y_TK_103 HG) hq2 (cl_Rw HG) (Nat.le_of_ble_eq_true rfl) (c_nm HG (kf2.rm hrm) H2 P l2' (rr := 58) (by unfold scR; omega) (by omega) pb3 ryb hlyb hzb) (fun h3 hh3 => ?_)
                    obtain ⟨H3, kf3, ⟨f58, r58, hl58⟩, kB⟩ := hh3
                    have kf3 := kf2.tr kf3
                    have ho3 : h3.2.2 o = some (k_tk o (js.length + 1 + 1) cs.length ks.length) := H3.2.1
                    have r56' : rowAt G h3 (o + 56) za.2.length f56 := ⟨(kB _ (by omega) (by omega) (by omega)).trans r56.1, (kB _ (by omega) (by omega) (by omega)).trans r56.2⟩
                    refine z_pop d_TK_rule_98 rfl ?_
                    refine z_aload_n d_TK_rule_99 rfl rfl ?_
                    refine z_getf (L_TK_50K HG) (by decide) (L_TK_50 HG) d_TK_rule_100 ho3 (by rfl) ?_
                    refine z_aload_n d_TK_rule_103 rfl rfl ?_
                    refine z_getf (L_TK_46K HG) (by decide) (L_TK_46 HG) d_TK_rule_104 ho3 (by rfl) ?_
                    refine z_callV1r (dY := d + 2) d_TK_rule_107 rfl (by omega) (Y_TK_156 HG) r58.1 (cl_Row HG) (Nat.le_of_ble_eq_true rfl) (c_Row_equalsRow HG r58 hl58 r56' hl56) ?_
                    simp only []
                    by_cases he : zb.2 = za.2
                    · rw [if_pos he, if_pos he]
                      refine z_if_ne (tgt := 121) d_TK_rule_110 rfl (fun c4 => ?_) (fun c4 => absurd c4 (by decide))
                      have hB3 : jdAt G h3 (k_ju o (js.length + 1)) (some B) := H3.2.2.1.get (k := 0) (J := B) rfl
                      have hA3 : jdAt G h3 (k_ju o js.length) (some A) := H3.2.2.1.get (k := 1) (J := A) rfl
                      obtain ⟨ga, sa, ma⟩ := rowL.get hA3.2.1
                      obtain ⟨gb, sb, mb⟩ := rowL.get hB3.2.1
                      obtain ⟨x03, HR3⟩ := H3.2.2.2.2.2.2.1
                      obtain ⟨a3, b3, nb3, fx3, fb3, g3, fr3, hab3, hq3, -⟩ := id HR3
                      refine z_aload_n d_TK_rule_121 rfl rfl ?_
                      refine z_getf (L_TK_41K HG) (by decide) (L_TK_41 HG) d_TK_rule_122 ho3 (by rfl) ?_
                      refine z_aload_n d_TK_rule_125 rfl rfl ?_
                      refine z_getf (L_TK_64K HG) (by decide) (L_TK_64 HG) d_TK_rule_126 hA3.ob (by rfl) ?_
                      refine z_aload_n d_TK_rule_129 rfl rfl ?_
                      refine z_getf (L_TK_64K HG) (by decide) (L_TK_64 HG) d_TK_rule_130 hB3.ob (by rfl) ?_
                      refine z_aload_n d_TK_rule_133 rfl rfl ?_
                      refine z_getf (L_TK_25K HG) (by decide) (L_TK_25 HG) d_TK_rule_134 ho3 (by rfl) ?_
                      refine z_callV3p (dY := d + 1) d_TK_rule_137 rfl (by omega) (Y_TK_159 HG) hq3 (cl_Rw HG) (Nat.le_of_ble_eq_true rfl) (c_Rw_addRule HG (show Rs.length < 8 by omega) l2' HR3 H3.2.2.2.2.2.2.2 (show k_out (o + 5) (k_ju o js.length + 1) by unfold k_out; omega) (show k_out (o + 5) (k_ju o (js.length + 1) + 1) by unfold k_out; omega) sa ma sb mb (fun f => rl_copy ma) (fun f => rl_copy mb)) (fun h4 hh4 => ?_)
                      obtain ⟨HR4, HA4, s1, s2, kC⟩ := hh4
                      have kf4 : k_ft o h1 h4 := kf3.tr ⟨s1, s2, fun y hy => kC y (by omega)⟩
                      have ho4 := (kC o (by omega)).trans ho3
                      refine z_aload_n d_TK_rule_140 rfl rfl ?_
                      refine z_iconst (v := nI 0) d_TK_rule_141 (by decide) ?_
                      refine z_putf (L_TK_15K HG) (by decide) (L_TK_15 HG) rfl d_TK_rule_142 ho4 rfl rfl (Nat.le_of_ble_eq_true rfl) ?_
                      have ho5 := z_set_at h4 o (k_tk o 0 cs.length ks.length)
                      show z_V G m_TK_rule (d + 6) 145 _ _ (z_set h4 o (k_tk o 0 cs.length ks.length)) _
                      refine z_aload_n d_TK_rule_145 rfl rfl ?_
                      refine z_iconst (v := nI 0) d_TK_rule_146 (by decide) ?_
                      refine z_putf (L_TK_25K HG) (by decide) (L_TK_25 HG) rfl d_TK_rule_147 ho5 rfl rfl (Nat.le_of_ble_eq_true rfl) ?_
                      show z_V G m_TK_rule (d + 6) 150 _ _ (z_set (z_set h4 o (k_tk o 0 cs.length ks.length)) o (k_tk o 0 0 ks.length)) _
                      rw [z_set_set]
                      have ho6 := z_set_at h4 o (k_tk o 0 0 ks.length)
                      have kD : ∀ y, y ≠ o → (z_set h4 o (k_tk o 0 0 ks.length)).2.2 y = h4.2.2 y := fun y hy => z_set_ne _ _ hy
                      have kf6 : k_ft o h1 (z_set h4 o (k_tk o 0 0 ks.length)) := kf4.tr (k_ft.set _ (by omega))
                      generalize z_set h4 o (k_tk o 0 0 ks.length) = h6 at ho6 kD kf6 ⊢
                      have HR6 := HR4.keep (h' := h6) (fun y hy => kD y (by omega))
                      obtain ⟨a6, b6, nb6, fx6, fb6, g6, fr6, hab6, hq6, -⟩ := id HR6
                      refine z_aload_n d_TK_rule_150 rfl rfl ?_
                      refine z_getf (L_TK_41K HG) (by decide) (L_TK_41 HG) d_TK_rule_151 ho6 (by rfl) ?_
                      refine z_getf (L_TK_149K HG) (by decide) (L_TK_149 HG) d_TK_rule_154 hq6 (by rfl) ?_
                      refine z_iconst (v := nI 1) d_TK_rule_157 (by decide) ?_
                      refine z_isub d_TK_rule_158 ?_
                      rw [List.length_append, pk_sub (by simp)]
                      have kE : ∀ y, y ≠ o → y < o + 5 ∨ o + 55 < y → h6.2.2 y = h3.2.2 y := fun y y1 y2 => (kD y y1).trans (kC y (by omega))
                      obtain ⟨q1, -, q3, q4, q5, q6, -, -⟩ := H3
                      exact z_ireturn d_TK_rule_159 rfl rfl ⟨rfl, ⟨q1.keep (fun y hy => kE y (by omega) (by omega)), ho6, q3.nil.keep (fun y hy => kE y (by omega) (by omega)), q4.nil.keep (fun y hy => kE y (by omega) (by omega)), q5.keep (kE _ (by omega) (by omega)) (fun y hy => kE y (by omega) (by omega)), q6.keep (fun y hy => kE y (by omega) (by omega)), ⟨x03, HR6⟩, HA4.keep (fun y hy => kD y (by omega))⟩, kf6⟩
                    · rw [if_neg he, if_neg he]
                      refine z_if_ne (tgt := 121) d_TK_rule_110 rfl (fun c4 => absurd nI_0 c4) (fun c4 => ?_)
                      exact z_throw d_TK_rule_113 d_TK_rule_116 d_TK_rule_117 d_TK_rule_120 rfl (by decide +kernel) (t_TK_111 HG) (kf3.rm hrm).1 (kf3.rm hrm).2 (by decide) ⟨rfl, h3, rfl, H3, kf3⟩
              · rw [if_neg hL, if_neg hL]
                refine z_if_ne (tgt := 67) d_TK_rule_56 rfl (fun c3 => absurd nI_0 c3) (fun c3 => ?_)
                exact z_throw d_TK_rule_59 d_TK_rule_62 d_TK_rule_63 d_TK_rule_66 rfl (by decide +kernel) (t_TK_111 HG) hrm.1 hrm.2 (by decide) ⟨rfl, h1, rfl, H, k_ft.rf⟩
            · rw [nI_eq (by omega) (by omega)] at c2
              rw [if_pos c2]
              exact z_throw d_TK_rule_40 d_TK_rule_43 d_TK_rule_44 d_TK_rule_47 rfl (by decide +kernel) (t_TK_129 HG) hrm.1 hrm.2 (by decide) ⟨rfl, h1, rfl, H, k_ft.rf⟩
          · rw [nI_leI (by omega) (by omega)] at c1
            rw [if_neg (by omega)]
            exact z_throw d_TK_rule_20 d_TK_rule_23 d_TK_rule_24 d_TK_rule_27 rfl (by decide +kernel) (t_TK_146 HG) hrm.1 hrm.2 (by decide) ⟨rfl, h1, rfl, H, k_ft.rf⟩
    · have eK : k_rule K = .inl z_ISE := by
        obtain ⟨js, K2⟩ := K
        cases js with
        | nil => rfl
        | cons A js =>
          cases js with
          | nil => rfl
          | cons F js =>
            show (if A.1 = _ ∧ F.1 = _ then _ else _) = _
            rw [if_neg (fun hh => hc1 ⟨F, rfl, hh.2⟩)]
      rw [eK]
      exact ⟨rfl, h', hh1, H, k_ft.rf⟩
  · have eK : k_rule K = .inl z_ISE := by
      obtain ⟨js, K2⟩ := K
      cases js with
      | nil => rfl
      | cons A js =>
        cases js with
        | nil => rfl
        | cons F js =>
          show (if A.1 = _ ∧ F.1 = _ then _ else _) = _
          rw [if_neg (fun hh => hc ⟨A, rfl, hh.1⟩)]
    rw [eK]
    exact ⟨rfl, h, hh, H, k_ft.rf⟩
end KU
