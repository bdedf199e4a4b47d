/-! the reference: apply -/
section MA
variable {G : z_G} {h : z_H} {q d n r : Nat} {s s' : Nat → Int32} {A A1 : Nat → Nat → Int32} {JA F : pJ} {js : List pJ} {K2 : List (List Nat) × List (List Nat × Bool) × List pR} {zf za : Nat × List Nat}
theorem kA_1 (hc : ¬ (JA.1 = K2.1.length ∧ F.1 = K2.1.length)) : k_apply (JA :: F :: js, K2) = .inl z_ISE := if_neg hc
theorem kA_2 (hc : JA.1 = K2.1.length ∧ F.1 = K2.1.length) (hf : p_norm K2.2.2 51 F.2.2 = none) : k_apply (JA :: F :: js, K2) = .inl z_AE := by
  simp only [k_apply, if_pos hc, hf]
theorem kA_3 (hc : JA.1 = K2.1.length ∧ F.1 = K2.1.length) (hf : p_norm K2.2.2 51 F.2.2 = some zf) (h4 : ¬ zf.2.getD 0 0 = 4) : k_apply (JA :: F :: js, K2) = .inl z_IAE := by
  simp only [k_apply, if_pos hc, hf, if_neg h4]
theorem kA_4 (hc : JA.1 = K2.1.length ∧ F.1 = K2.1.length) (hf : p_norm K2.2.2 51 F.2.2 = some zf) (h4 : zf.2.getD 0 0 = 4) (ha : p_norm K2.2.2 51 JA.2.2 = none) : k_apply (JA :: F :: js, K2) = .inl z_AE := by
  simp only [k_apply, if_pos hc, hf, if_pos h4, ha]
theorem kA_5 (hc : JA.1 = K2.1.length ∧ F.1 = K2.1.length) (hf : p_norm K2.2.2 51 F.2.2 = some zf) (h4 : zf.2.getD 0 0 = 4) (ha : p_norm K2.2.2 51 JA.2.2 = some za) (he : ¬ za.2 = (zf.2.drop 1).take (p_end 1 (zf.2.drop 1))) : k_apply (JA :: F :: js, K2) = .inl z_IAE := by
  simp only [k_apply, if_pos hc, hf, if_pos h4, ha, if_neg he]
theorem kA_6 (hc : JA.1 = K2.1.length ∧ F.1 = K2.1.length) (hf : p_norm K2.2.2 51 F.2.2 = some zf) (h4 : zf.2.getD 0 0 = 4) (ha : p_norm K2.2.2 51 JA.2.2 = some za) (he : za.2 = (zf.2.drop 1).take (p_end 1 (zf.2.drop 1))) (hl : ¬ (1 + F.2.1.length + JA.2.1.length ≤ 40 ∧ (p_put JA.2.1 [0] (zf.2.drop (1 + p_end 1 (zf.2.drop 1)))).length ≤ 40)) : k_apply (JA :: F :: js, K2) = .inl z_AE := by
  simp only [k_apply, if_pos hc, hf, if_pos h4, ha, if_pos he, if_neg hl]
theorem kA_7 (hc : JA.1 = K2.1.length ∧ F.1 = K2.1.length) (hf : p_norm K2.2.2 51 F.2.2 = some zf) (h4 : zf.2.getD 0 0 = 4) (ha : p_norm K2.2.2 51 JA.2.2 = some za) (he : za.2 = (zf.2.drop 1).take (p_end 1 (zf.2.drop 1))) (hl : 1 + F.2.1.length + JA.2.1.length ≤ 40 ∧ (p_put JA.2.1 [0] (zf.2.drop (1 + p_end 1 (zf.2.drop 1)))).length ≤ 40) : k_apply (JA :: F :: js, K2) = .inr (none, ((K2.1.length, 2 :: (F.2.1 ++ JA.2.1), p_put JA.2.1 [0] (zf.2.drop (1 + p_end 1 (zf.2.drop 1)))) :: js, K2)) := by
  simp only [k_apply, if_pos hc, hf, if_pos h4, ha, if_pos he, if_pos hl]
/-- what applied says and leaves -/
def m_apq (K : pK) : (String ⊕ (Option Value × pK)) → Option Value → (Nat → Int32) → (Nat → Nat → Int32) → Prop
  | .inl X, o, s', A' => o = some (.int (nI (m_cd [z_ISE, z_IAE, z_AE] X))) ∧ mK K s' A'
  | .inr v, o, s', A' => o = some (.int (nI 0)) ∧ mK K s' A' ∧ ∃ JA F js T Y, K.1 = JA :: F :: js ∧ F.1 = K.2.1.length ∧ v = (none, ((K.2.1.length, T, Y) :: js, K.2)) ∧ mrow A' 41 T ∧ mrow A' 40 Y
theorem m_tl_10 {b : Bool} (h10 : s 10 = nI 0) : m_tl s b 10 = if b = true then nI 1 else nI 0 := by
  unfold m_tl
  by_cases hb : b = true
  · rw [if_pos hb, if_pos hb]
    exact va_up_self _ _ _
  · rw [if_neg hb, if_neg hb]
    exact h10
theorem c_Md_applied (HG : z_ok G) (H : mK (JA :: F :: js, K2) s A) (Pk : pok (JA :: F :: js, K2)) : z_C G m_Md_applied (d + 6) [.ref q] (md G h q s A) (m_post G h q (m_apq (JA :: F :: js, K2) (k_apply (JA :: F :: js, K2)))) := by
  refine z_C.of (Nat.le_of_ble_eq_true rfl) ?_
  have h6 : js.length + 2 ≤ 6 := H.2.1.1
  have h4 : K2.1.length ≤ 4 := H.2.1.2.1
  have h3 : s 3 = nI (js.length + 2) := H.1.1
  have h5 : s 5 = nI K2.1.length := H.1.2.1
  have h8 : s 8 = nI K2.2.2.length := H.1.2.2.2
  obtain ⟨a1, a2, a3⟩ := H.2.2.1 (js.length + 1) JA l_rt
  obtain ⟨b1, b2, b3⟩ := H.2.2.1 js.length F (by rw [l_rl (Nat.lt_succ_self _)]; exact l_rt)
  have hAw := Pk.1 JA List.mem_cons_self
  have hBw := Pk.1 F (List.mem_cons_of_mem _ List.mem_cons_self)
  have hA4 : JA.1 ≤ 4 := Nat.le_trans hAw.1 h4
  have hB4 : F.1 ≤ 4 := Nat.le_trans hBw.1 h4
  have ha40 := a2.len
  have hb40 := b2.len
  refine z_aload_n d_Md_applied_0 rfl rfl ?_
  refine z_mg HG d_Md_applied_1 (L_Md_107 HG) (by decide) rfl ?_
  refine z_eqi h3 ?_
  refine z_iconst (v := nI 2) d_Md_applied_4 (by decide) ?_
  refine z_isub d_Md_applied_5 ?_
  refine z_eqi ((pk_sub (by omega)).trans (pk_bump (show _ = js.length by omega))) ?_
  refine z_istore_n d_Md_applied_6 rfl (by decide) ?_
  refine z_aload_n d_Md_applied_7 rfl rfl ?_
  refine z_mg HG d_Md_applied_8 (L_Md_107 HG) (by decide) rfl ?_
  refine z_eqi h3 ?_
  refine z_iconst (v := nI 1) d_Md_applied_11 (by decide) ?_
  refine z_isub d_Md_applied_12 ?_
  refine z_eqi ((pk_sub (by omega)).trans (pk_bump (show _ = js.length + 1 by omega))) ?_
  refine z_istore_n d_Md_applied_13 rfl (by decide) ?_
  refine z_aload_n d_Md_applied_14 rfl rfl ?_
  refine z_iload_n d_Md_applied_15 rfl rfl ?_
  refine z_mr (as := [.int (nI js.length)]) (dY := d) HG d_Md_applied_16 rfl (by omega) (Y_Md_110 HG) rfl rfl (Nat.le_of_ble_eq_true rfl) (c_Md_present HG (by omega) (by omega) (by omega) b1 h5) ?_
  refine z_if_eq (tgt := 30) d_Md_applied_19 rfl (fun c19 => ?_) (fun c19 => ?_)
  · have c19 := b_eq c19
    rw [kA_1 (fun hh => c19 hh.2)]
    refine z_iconst (v := nI 1) d_Md_applied_30 (by decide) ?_
    exact z_ireturn d_Md_applied_31 rfl rfl ⟨_, _, _, rfl, rfl, (by rw [show m_cd [z_ISE, z_IAE, z_AE] z_ISE = 1 by decide +kernel]), H⟩
  · have c19 := b_ne c19
    refine z_aload_n d_Md_applied_22 rfl rfl ?_
    refine z_iload_n d_Md_applied_23 rfl rfl ?_
    refine z_mr (as := [.int (nI (js.length + 1))]) (dY := d) HG d_Md_applied_24 rfl (by omega) (Y_Md_110 HG) rfl rfl (Nat.le_of_ble_eq_true rfl) (c_Md_present HG (by omega) (by omega) (by omega) a1 h5) ?_
    refine z_if_ne (tgt := 32) d_Md_applied_27 rfl (fun c27 => ?_) (fun c27 => ?_)
    · have c27 := b_ne c27
      refine z_aload_n d_Md_applied_32 rfl rfl ?_
      refine z_iconst (v := nI 0) d_Md_applied_33 (by decide) ?_
      refine z_mp HG d_Md_applied_34 (L_Md_45 HG) (by decide) rfl rfl rfl rfl ?_
      refine z_aload_n d_Md_applied_37 rfl rfl ?_
      refine z_bipush (v := nI 6) d_Md_applied_38 (by decide +kernel) ?_
      refine z_iload_n d_Md_applied_40 rfl rfl ?_
      refine z_iadd d_Md_applied_41 ?_
      refine z_eqi (nI_add _ _) ?_
      refine z_mc (as := [.int (nI (6 + js.length))]) (dY := d + 5) HG d_Md_applied_42 rfl (by omega) (Y_Md_120 HG) rfl rfl (Nat.le_of_ble_eq_true rfl) (c_Md_normalOf (d := d) (n := F.1) (Rs := K2.2.2) HG (by omega) hB4 Pk.2.2.2 ((va_up_ne _ _ (by decide)).trans h8) (va_up_self _ _ _) hBw.2.2 b3 H.rs) (fun v1 s1 A1 hp1 => ?_)
      have hcc : JA.1 = K2.1.length ∧ F.1 = K2.1.length := ⟨c27, c19⟩
      cases hz : p_norm K2.2.2 51 F.2.2 with
      | none =>
        rw [hz] at hp1
        obtain ⟨⟨nv, rfl⟩, rfl, sx, l0, u2⟩ := hp1
        rw [kA_2 hcc hz]
        refine z_istore_n d_Md_applied_45 rfl (by decide) ?_
        refine z_aload_n d_Md_applied_46 rfl rfl ?_
        refine z_mg HG d_Md_applied_47 (L_Md_45 HG) (by decide) rfl ?_
        refine z_eqi (va_up_self _ _ _) ?_
        refine z_if_eq (tgt := 55) d_Md_applied_50 rfl (fun c50 => ?_) (fun c50 => ?_)
        · rw [← nI_0, nI_eq (by omega) (by omega)] at c50
          omega
        · rw [← nI_0, nI_eq (by omega) (by omega)] at c50
          refine z_iconst (v := nI 3) d_Md_applied_53 (by decide) ?_
          exact z_ireturn d_Md_applied_54 rfl rfl ⟨_, _, _, rfl, rfl, (by rw [show m_cd [z_ISE, z_IAE, z_AE] z_AE = 3 by decide +kernel]), H.sc sx.s3 (m_sq4.up10.tr m_sq4.up10)⟩
      | some zf =>
        rw [hz] at hp1
        obtain ⟨rfl, rfl, sx, u2⟩ := hp1
        have hzfw : p_wf F.1 [0] zf.2 := p_norm_wf1 Pk.2.2.2 hBw.2.2 hz
        have hz0 : 0 < zf.2.length := l_nd (i := 0) hzfw
        have hz4 := u2.lt hz0
        have hzl := u2.len
        refine z_istore_n d_Md_applied_45 rfl (by decide) ?_
        refine z_aload_n d_Md_applied_46 rfl rfl ?_
        refine z_mg HG d_Md_applied_47 (L_Md_45 HG) (by decide) rfl ?_
        refine z_eqi (va_up_self _ _ _) ?_
        refine z_if_eq (tgt := 55) d_Md_applied_50 rfl (fun c50 => ?_) (fun c50 => ?_)
        · rw [← nI_0, nI_eq (by omega) (by omega)] at c50
          refine z_aload_n d_Md_applied_55 rfl rfl ?_
          refine z_bipush (v := nI 40) d_Md_applied_56 (by decide +kernel) ?_
          refine z_iconst (v := nI 0) d_Md_applied_58 (by decide) ?_
          refine z_mr (as := [.int (nI 40), .int (nI 0)]) (dY := d) HG d_Md_applied_59 rfl (by omega) (Y_Md_49 HG) rfl rfl (Nat.le_of_ble_eq_true rfl) (c_Md_at (r := 40) HG (by omega) (u2.eq (i := 0) hz0)) ?_
          refine z_iconst (v := nI 4) d_Md_applied_62 (by decide) ?_
          refine z_icmp_eq (tgt := 68) d_Md_applied_63 rfl (fun c63 => ?_) (fun c63 => ?_)
          · rw [nI_eq (by omega) (by omega)] at c63
            refine z_aload_n d_Md_applied_68 rfl rfl ?_
            refine z_bipush (v := nI 40) d_Md_applied_69 (by decide +kernel) ?_
            refine z_bipush (v := nI 42) d_Md_applied_71 (by decide +kernel) ?_
            refine z_mc (as := [.int (nI 40), .int (nI 42)]) (dY := d + 2) HG d_Md_applied_73 rfl (by omega) (Y_Md_90 HG) rfl rfl (Nat.le_of_ble_eq_true rfl) (c_Md_copy (d := d) HG (by omega) (by omega) (by omega) u2) (fun v2 s2 A2 hp2 => ?_)
            obtain ⟨rfl, rfl, wr⟩ := hp2
            refine z_aload_n d_Md_applied_76 rfl rfl ?_
            refine z_bipush (v := nI 6) d_Md_applied_77 (by decide +kernel) ?_
            refine z_iload_n d_Md_applied_79 rfl rfl ?_
            refine z_iadd d_Md_applied_80 ?_
            refine z_eqi (nI_add _ _) ?_
            refine z_mc (as := [.int (nI (6 + (js.length + 1)))]) (dY := d + 5) HG d_Md_applied_81 rfl (by omega) (Y_Md_120 HG) rfl rfl (Nat.le_of_ble_eq_true rfl) (c_Md_normalOf (d := d) (n := JA.1) (Rs := K2.2.2) HG (by omega) hA4 Pk.2.2.2 ((va_up_ne _ _ (by decide)).trans h8) (va_up_self _ _ _) hAw.2.2 (wr.keep (by omega) (sx.row (Or.inl (by omega)) a3)) (mK.rs (H.sc (sx.s3.tr (wr.s3 (by omega))) (m_sq4.rf (s := s))))) (fun v3 s3 A3 hp3 => ?_)
            cases hz2 : p_norm K2.2.2 51 JA.2.2 with
            | none =>
              rw [hz2] at hp3
              obtain ⟨⟨nv, rfl⟩, rfl, sx2, l0, u3⟩ := hp3
              rw [kA_4 hcc hz c63 hz2]
              refine z_istore d_Md_applied_84 (by decide) ?_
              refine z_aload_n d_Md_applied_86 rfl rfl ?_
              refine z_mg HG d_Md_applied_87 (L_Md_45 HG) (by decide) rfl ?_
              refine z_eqi (va_up_self _ _ _) ?_
              refine z_if_eq (tgt := 95) d_Md_applied_90 rfl (fun c90 => ?_) (fun c90 => ?_)
              · rw [← nI_0, nI_eq (by omega) (by omega)] at c90
                omega
              · rw [← nI_0, nI_eq (by omega) (by omega)] at c90
                refine z_iconst (v := nI 3) d_Md_applied_93 (by decide) ?_
                exact z_ireturn d_Md_applied_94 rfl rfl ⟨_, _, _, rfl, rfl, (by rw [show m_cd [z_ISE, z_IAE, z_AE] z_AE = 3 by decide +kernel]), H.sc ((sx.s3.tr (wr.s3 (by omega))).tr sx2.s3) (m_sq4.up10.tr m_sq4.up10)⟩
            | some za =>
              rw [hz2] at hp3
              obtain ⟨rfl, rfl, sx2, u3⟩ := hp3
              have z3 := sx2.row (Or.inr rfl) wr.row
              have hzal := u3.len
              have hwz1 : p_wf F.1 ([0] ++ [1]) (zf.2.drop 1) := by
                have e : zf.2 = 4 :: zf.2.drop 1 := by
                  have e := l_dc (l := zf.2) (i := 0) hz0
                  rw [List.drop_zero, c63] at e
                  exact e
                have e2 := hzfw
                rw [e] at e2
                exact e2.2
              have hwb := (p_wf_split hwz1).2
              rw [List.drop_drop] at hwb
              have hwb : p_wf F.1 [1] (zf.2.drop (1 + p_end 1 (zf.2.drop 1))) := hwb
              have hbl := l_nd hwb
              have kS := (sx.s3.tr (wr.s3 (by omega))).tr sx2.s3
              have tF := kS.row (by omega) b2
              have tA := kS.row (by omega) a2
              refine z_istore d_Md_applied_84 (by decide) ?_
              refine z_aload_n d_Md_applied_86 rfl rfl ?_
              refine z_mg HG d_Md_applied_87 (L_Md_45 HG) (by decide) rfl ?_
              refine z_eqi (va_up_self _ _ _) ?_
              refine z_if_eq (tgt := 95) d_Md_applied_90 rfl (fun c90 => ?_) (fun c90 => ?_)
              · rw [← nI_0, nI_eq (by omega) (by omega)] at c90
                refine z_aload_n d_Md_applied_95 rfl rfl ?_
                refine z_bipush (v := nI 42) d_Md_applied_96 (by decide +kernel) ?_
                refine z_iconst (v := nI 1) d_Md_applied_98 (by decide) ?_
                refine z_mr (as := [.int (nI 42), .int (nI 1)]) (dY := d + 1) HG d_Md_applied_99 rfl (by omega) (Y_Md_68 HG) rfl rfl (Nat.le_of_ble_eq_true rfl) (c_Md_end (d := d) (S2 := [1]) HG (by omega) z3 (by omega) hwz1) ?_
                refine z_istore d_Md_applied_102 (by decide) ?_
                refine z_aload_n d_Md_applied_104 rfl rfl ?_
                refine z_mg HG d_Md_applied_105 (L_Md_13 HG) (by decide) rfl ?_
                refine z_bipush (v := nI 40) d_Md_applied_108 (by decide +kernel) ?_
                refine z_ml HG 2 d_Md_applied_110 (by decide) (show _ < 43 by omega) u3.1 ?_
                refine z_iload d_Md_applied_111 rfl ?_
                refine z_iconst (v := nI 1) d_Md_applied_113 (by decide) ?_
                refine z_isub d_Md_applied_114 ?_
                refine z_eqi ((pk_sub (by omega)).trans (pk_bump (show _ = p_end 1 (zf.2.drop 1) by omega))) ?_
                refine z_icmp_ne (tgt := 122) d_Md_applied_115 rfl (fun c115 => ?_) (fun c115 => ?_)
                · rw [nI_eq (by omega) (by omega)] at c115
                  refine z_iconst (v := nI 0) d_Md_applied_122 (by decide) ?_
                  refine z_istore d_Md_applied_123 (by decide) ?_
                  refine z_iconst (v := nI 0) d_Md_applied_125 (by decide) ?_
                  refine z_istore d_Md_applied_126 (by decide) ?_
                  have hne : ¬ za.2 = (zf.2.drop 1).take (p_end 1 (zf.2.drop 1)) := by
                    intro hh
                    apply c115
                    have e := congrArg List.length hh
                    rw [List.length_take, List.length_drop] at e
                    omega
                  rw [kA_5 hcc hz c63 hz2 hne]
                  refine z_iload d_Md_applied_128 rfl ?_
                  refine z_aload_n d_Md_applied_130 rfl rfl ?_
                  refine z_mg HG d_Md_applied_131 (L_Md_13 HG) (by decide) rfl ?_
                  refine z_bipush (v := nI 40) d_Md_applied_134 (by decide +kernel) ?_
                  refine z_ml HG 2 d_Md_applied_136 (by decide) (show _ < 43 by omega) u3.1 ?_
                  refine z_icmp_ge (tgt := 179) d_Md_applied_137 rfl (fun c137 => ?_) (fun c137 => ?_)
                  · rw [nI_leI (by omega) (by omega)] at c137
                    refine z_iload d_Md_applied_179 rfl ?_
                    refine z_if_ne (tgt := 186) d_Md_applied_181 rfl (fun c181 => ?_) (fun c181 => ?_)
                    · rw [← nI_0, nI_eq (by omega) (by omega)] at c181
                      omega
                    · rw [← nI_0, nI_eq (by omega) (by omega)] at c181
                      refine z_iconst (v := nI 2) d_Md_applied_184 (by decide) ?_
                      exact z_ireturn d_Md_applied_185 rfl rfl ⟨_, _, _, rfl, rfl, (by rw [show m_cd [z_ISE, z_IAE, z_AE] z_IAE = 2 by decide +kernel]), H.sc kS m_sq4.up10⟩
                  · rw [nI_leI (by omega) (by omega)] at c137
                    refine z_iload d_Md_applied_140 rfl ?_
                    refine z_if_eq (tgt := 179) d_Md_applied_142 rfl (fun c142 => ?_) (fun c142 => ?_)
                    · rw [← nI_0, nI_eq (by omega) (by omega)] at c142
                      refine z_iload d_Md_applied_179 rfl ?_
                      refine z_if_ne (tgt := 186) d_Md_applied_181 rfl (fun c181 => ?_) (fun c181 => ?_)
                      · rw [← nI_0, nI_eq (by omega) (by omega)] at c181
                        omega
                      · rw [← nI_0, nI_eq (by omega) (by omega)] at c181
                        refine z_iconst (v := nI 2) d_Md_applied_184 (by decide) ?_
                        exact z_ireturn d_Md_applied_185 rfl rfl ⟨_, _, _, rfl, rfl, (by rw [show m_cd [z_ISE, z_IAE, z_AE] z_IAE = 2 by decide +kernel]), H.sc kS m_sq4.up10⟩
                    · rw [← nI_0, nI_eq (by omega) (by omega)] at c142
                      omega
                · rw [nI_eq (by omega) (by omega)] at c115
                  refine z_iconst (v := nI 1) d_Md_applied_118 (by decide) ?_
                  refine z_goto (tgt := 123) d_Md_applied_119 rfl ?_
                  refine z_istore d_Md_applied_123 (by decide) ?_
                  refine z_iconst (v := nI 0) d_Md_applied_125 (by decide) ?_
                  refine z_istore d_Md_applied_126 (by decide) ?_
                  rw [← c115]
                  refine z_fg [(0, .ref q), (1, .int (nI js.length)), (2, .int (nI (js.length + 1))), (5, .int (nI (1 + za.2.length))), (6, .int (if (true : Bool) = true then nI 1 else nI 0)), (7, .int (nI 0))] ⟨rfl, rfl, rfl, rfl, rfl, rfl, trivial⟩ ?_
                  refine l_Md_fits (x := za.2) (z := zf.2) HG u3 z3 (by omega) (fun fb hfb => ?_) za.2.length 0 true (by omega) ⟨fun _ => rfl, fun _ => rfl⟩
                  have hfb2 : fb = true ↔ za.2 = (zf.2.drop 1).take (p_end 1 (zf.2.drop 1)) := by
                    rw [← c115]
                    exact hfb
                  refine z_iload d_Md_applied_179 rfl ?_
                  refine z_if_ne (tgt := 186) d_Md_applied_181 rfl (fun c181 => ?_) (fun c181 => ?_)
                  · have c181 := b_ne c181
                    have hE := hfb2.mp c181
                    refine z_aload_n d_Md_applied_186 rfl rfl ?_
                    refine z_mg HG d_Md_applied_187 (L_Md_13 HG) (by decide) rfl ?_
                    refine z_bipush (v := nI 41) d_Md_applied_190 (by decide +kernel) ?_
                    refine z_iconst (v := nI 0) d_Md_applied_192 (by decide) ?_
                    refine z_ms HG 2 d_Md_applied_193 (by decide) (show _ < 43 by omega) ?_
                    have z0 := m_wr.zero A3 41
                    generalize va_up A3 2 (upd (A3 2) 41 (nI 0)) = A0 at z0 ⊢
                    refine z_aload_n d_Md_applied_194 rfl rfl ?_
                    refine z_bipush (v := nI 41) d_Md_applied_195 (by decide +kernel) ?_
                    refine z_iconst (v := nI 2) d_Md_applied_197 (by decide) ?_
                    refine z_mc (as := [.int (nI 41), .int (nI 2)]) (dY := d) HG d_Md_applied_198 rfl (by omega) (Y_Md_53 HG) rfl rfl (Nat.le_of_ble_eq_true rfl) (c_Md_add HG (by omega) z0.row (by omega)) (fun v4 s4 A4 hp4 => ?_)
                    obtain ⟨rfl, hp4⟩ := hp4
                    refine z_aload_n d_Md_applied_201 rfl rfl ?_
                    refine z_bipush (v := nI 41) d_Md_applied_202 (by decide +kernel) ?_
                    refine z_iconst (v := nI 0) d_Md_applied_204 (by decide) ?_
                    refine z_iload_n d_Md_applied_205 rfl rfl ?_
                    refine z_iadd d_Md_applied_206 ?_
                    refine z_eqi ((nI_add _ _).trans (pk_bump (Nat.zero_add js.length))) ?_
                    refine z_mc (as := [.int (nI 41), .int (nI js.length)]) (dY := d + 1) HG d_Md_applied_207 rfl (by omega) (Y_Md_57 HG) rfl rfl (Nat.le_of_ble_eq_true rfl) (c_Md_addRow (d := d) HG (by omega) (by omega) (by omega) hp4.row (hp4.keep (by omega) (z0.keep (by omega) tF))) (fun v5 s5 A5 hp5 => ?_)
                    obtain ⟨rfl, hp5⟩ := hp5
                    refine z_aload_n d_Md_applied_210 rfl rfl ?_
                    refine z_bipush (v := nI 41) d_Md_applied_211 (by decide +kernel) ?_
                    refine z_iconst (v := nI 0) d_Md_applied_213 (by decide) ?_
                    refine z_iload_n d_Md_applied_214 rfl rfl ?_
                    refine z_iadd d_Md_applied_215 ?_
                    refine z_eqi ((nI_add _ _).trans (pk_bump (Nat.zero_add (js.length + 1)))) ?_
                    refine z_mc (as := [.int (nI 41), .int (nI (js.length + 1))]) (dY := d + 1) HG d_Md_applied_216 rfl (by omega) (Y_Md_57 HG) rfl rfl (Nat.le_of_ble_eq_true rfl) (c_Md_addRow (d := d) HG (by omega) (by omega) (by omega) hp5.row (hp5.keep (by omega) (hp4.keep (by omega) (z0.keep (by omega) tA)))) (fun v6 s6 A6 hp6 => ?_)
                    obtain ⟨rfl, hp6⟩ := hp6
                    have all := (hp4.tr (by decide) hp5).tr (by decide) hp6
                    have eL : ([] : List Nat).length + (([2] ++ F.2.1) ++ JA.2.1).length = 1 + F.2.1.length + JA.2.1.length := by
                      simp only [List.length_append, List.length_cons, List.length_nil]
                      omega
                    have tA6 := all.keep (r' := js.length + 1) (by omega) (z0.keep (by omega) tA)
                    have z6 := all.keep (r' := 42) (by decide) (z0.keep (by decide) z3)
                    refine z_aload_n d_Md_applied_219 rfl rfl ?_
                    refine z_mg HG d_Md_applied_220 (L_Md_13 HG) (by decide) rfl ?_
                    refine z_bipush (v := nI 40) d_Md_applied_223 (by decide +kernel) ?_
                    refine z_iconst (v := nI 0) d_Md_applied_225 (by decide) ?_
                    refine z_ms HG 2 d_Md_applied_226 (by decide) (show _ < 43 by omega) ?_
                    have y0 := m_wr.zero A6 40
                    generalize va_up A6 2 (upd (A6 2) 40 (nI 0)) = B0 at y0 ⊢
                    rw [c115]
                    refine z_aload_n d_Md_applied_227 rfl rfl ?_
                    refine z_iload d_Md_applied_228 rfl ?_
                    refine z_iconst (v := nI 0) d_Md_applied_230 (by decide) ?_
                    refine z_iload_n d_Md_applied_231 rfl rfl ?_
                    refine z_iadd d_Md_applied_232 ?_
                    refine z_eqi ((nI_add _ _).trans (pk_bump (Nat.zero_add (js.length + 1)))) ?_
                    refine z_mc (as := [.int (nI (1 + p_end 1 (zf.2.drop 1))), .int (nI (js.length + 1))]) (dY := d + 2) HG d_Md_applied_233 rfl (by omega) (Y_Md_123 HG) rfl rfl (Nat.le_of_ble_eq_true rfl) (c_Md_putTerm (d := d) (d1 := 1) HG (by omega) hA4 hB4 hbl hAw.2.1 hzfw hwb y0.row (y0.keep (by decide) z6) (y0.keep (by omega) tA6)) (fun v7 s7 A7 hp7 => ?_)
                    obtain ⟨rfl, B1, k6, B2, k7, hp7⟩ := hp7
                    have e10 : s7 10 = if (decide (40 < 1 + F.2.1.length + JA.2.1.length) || decide (40 < (p_put JA.2.1 [0] (zf.2.drop (1 + p_end 1 (zf.2.drop 1)))).length)) = true then nI 1 else nI 0 := by
                      rw [hp7.1, all.1, m_tl_tl, eL, List.length_nil, Nat.zero_add]
                      exact m_tl_10 (va_up_self _ _ _)
                    have q7 : m_sq4 s s7 := by
                      rw [hp7.1, all.1]
                      exact (m_sq4.up10.tr m_sq4.tl).tr m_sq4.tl
                    have k7s : m_s3 A A7 := ((((kS.tr (z0.s3 (by omega))).tr (all.s3 (by omega))).tr (y0.s3 (by omega))).tr ((k6.s3 (Or.inl rfl)).tr (k7.s3 (Or.inr rfl)))).tr (hp7.s3 (by omega))
                    have HK := H.sc k7s q7
                    refine z_aload_n d_Md_applied_236 rfl rfl ?_
                    refine z_mg HG d_Md_applied_237 (L_Md_45 HG) (by decide) rfl ?_
                    refine z_eqi e10 ?_
                    refine z_if_eq (tgt := 247) d_Md_applied_240 rfl (fun c240 => ?_) (fun c240 => ?_)
                    · have c240 := b_eq c240
                      rw [Bool.or_eq_true, decide_eq_true_iff, decide_eq_true_iff] at c240
                      have hl2 : 1 + F.2.1.length + JA.2.1.length ≤ 40 ∧ (p_put JA.2.1 [0] (zf.2.drop (1 + p_end 1 (zf.2.drop 1)))).length ≤ 40 := by
                        constructor <;> (apply Classical.byContradiction; intro hh; exact c240 (by omega))
                      rw [kA_7 hcc hz c63 hz2 hE hl2]
                      have r41 := all.row
                      rw [l_t40 (by rw [List.nil_append]; simp only [List.length_append, List.length_cons, List.length_nil]; omega)] at r41
                      have r41b := hp7.keep (r' := 41) (by decide) (k7.row (Or.inr rfl) (k6.row (Or.inl rfl) (y0.keep (by decide) r41)))
                      have r40 := hp7.row
                      rw [List.nil_append, l_t40 hl2.2] at r40
                      refine z_iconst (v := nI 0) d_Md_applied_247 (by decide) ?_
                      exact z_ireturn d_Md_applied_248 rfl rfl ⟨_, _, _, rfl, rfl, rfl, HK, JA, F, js, _, _, rfl, hcc.2, rfl, r41b, r40⟩
                    · have c240 := b_ne c240
                      rw [Bool.or_eq_true, decide_eq_true_iff, decide_eq_true_iff] at c240
                      rw [kA_6 hcc hz c63 hz2 hE (fun hh => by omega)]
                      refine z_iconst (v := nI 3) d_Md_applied_243 (by decide) ?_
                      refine z_goto (tgt := 248) d_Md_applied_244 rfl ?_
                      exact z_ireturn d_Md_applied_248 rfl rfl ⟨_, _, _, rfl, rfl, (by rw [show m_cd [z_ISE, z_IAE, z_AE] z_AE = 3 by decide +kernel]), HK⟩
                  · have c181 := b_eq c181
                    rw [kA_5 hcc hz c63 hz2 (fun hh => c181 (hfb2.mpr hh))]
                    refine z_iconst (v := nI 2) d_Md_applied_184 (by decide) ?_
                    exact z_ireturn d_Md_applied_185 rfl rfl ⟨_, _, _, rfl, rfl, (by rw [show m_cd [z_ISE, z_IAE, z_AE] z_IAE = 2 by decide +kernel]), H.sc kS m_sq4.up10⟩
              · rw [← nI_0, nI_eq (by omega) (by omega)] at c90
                omega
          · rw [nI_eq (by omega) (by omega)] at c63
            rw [kA_3 hcc hz c63]
            refine z_iconst (v := nI 2) d_Md_applied_66 (by decide) ?_
            exact z_ireturn d_Md_applied_67 rfl rfl ⟨_, _, _, rfl, rfl, (by rw [show m_cd [z_ISE, z_IAE, z_AE] z_IAE = 2 by decide +kernel]), H.sc sx.s3 m_sq4.up10⟩
        · rw [← nI_0, nI_eq (by omega) (by omega)] at c50
          omega
    · have c27 := b_eq c27
      rw [kA_1 (fun hh => c27 hh.1)]
      refine z_iconst (v := nI 1) d_Md_applied_30 (by decide) ?_
      exact z_ireturn d_Md_applied_31 rfl rfl ⟨_, _, _, rfl, rfl, (by rw [show m_cd [z_ISE, z_IAE, z_AE] z_ISE = 1 by decide +kernel]), H⟩
theorem c_Md_apply {K : pK} (HG : z_ok G) (H : mK K s A) (Pk : pok K) : z_C G m_Md_apply (d + 7) [.ref q] (md G h q s A) (m_post G h q (m_outv (m_cd [z_ISE, z_IAE, z_AE]) K (k_apply K))) := by
  refine z_C.of (Nat.le_of_ble_eq_true rfl) ?_
  obtain ⟨js, K2⟩ := K
  have h6 : js.length ≤ 6 := H.2.1.1
  have h3 : s 3 = nI js.length := H.1.1
  have few : js.length < 2 → z_V G m_Md_apply (d + 7) 0 [(0, .ref q)] [] (md G h q s A) (m_post G h q (m_outv (m_cd [z_ISE, z_IAE, z_AE]) (js, K2) (.inl z_ISE))) := by
    intro hlt
    refine z_aload_n d_Md_apply_0 rfl rfl ?_
    refine z_aload_n d_Md_apply_1 rfl rfl ?_
    refine z_mg HG d_Md_apply_2 (L_Md_107 HG) (by decide) rfl ?_
    refine z_eqi h3 ?_
    refine z_iconst (v := nI 2) d_Md_apply_5 (by decide) ?_
    refine z_icmp_ge (tgt := 13) d_Md_apply_6 rfl (fun c6 => ?_) (fun c6 => ?_)
    · rw [nI_leI (by omega) (by omega)] at c6
      omega
    · rw [nI_leI (by omega) (by omega)] at c6
      refine z_iconst (v := nI 1) d_Md_apply_9 (by decide) ?_
      refine z_goto (tgt := 17) d_Md_apply_10 rfl ?_
      refine z_mp HG d_Md_apply_17 (L_Md_41 HG) (by decide) rfl rfl rfl rfl ?_
      refine z_aload_n d_Md_apply_20 rfl rfl ?_
      refine z_mg HG d_Md_apply_21 (L_Md_41 HG) (by decide) rfl ?_
      refine z_eqi (va_up_self _ _ _) ?_
      refine z_if_ne (tgt := 66) d_Md_apply_24 rfl (fun c24 => ?_) (fun c24 => ?_)
      · rw [← nI_0, nI_eq (by omega) (by omega)] at c24
        exact z_return d_Md_apply_66 rfl ⟨_, _, _, rfl, rfl, rfl, (va_up_self _ _ _).trans (by rw [show m_cd [z_ISE, z_IAE, z_AE] z_ISE = 1 by decide +kernel]), H.sc m_s3.rf m_sq4.up0⟩
      · rw [← nI_0, nI_eq (by omega) (by omega)] at c24
        omega
  cases js with
  | nil => exact few (by decide)
  | cons JA js =>
    cases js with
    | nil => exact few (Nat.lt_succ_self 1)
    | cons F js =>
      clear few
      have h3 : s 3 = nI (js.length + 2) := h3
      have h6 : js.length + 2 ≤ 6 := h6
      refine z_aload_n d_Md_apply_0 rfl rfl ?_
      refine z_aload_n d_Md_apply_1 rfl rfl ?_
      refine z_mg HG d_Md_apply_2 (L_Md_107 HG) (by decide) rfl ?_
      refine z_eqi h3 ?_
      refine z_iconst (v := nI 2) d_Md_apply_5 (by decide) ?_
      refine z_icmp_ge (tgt := 13) d_Md_apply_6 rfl (fun c6 => ?_) (fun c6 => ?_)
      · rw [nI_leI (by omega) (by omega)] at c6
        refine z_aload_n d_Md_apply_13 rfl rfl ?_
        refine z_mc (as := []) (dY := d + 6) HG d_Md_apply_14 rfl (by omega) (Y_Md_126 HG) rfl rfl (Nat.le_of_ble_eq_true rfl) (c_Md_applied (d := d) HG H Pk) (fun v1 s1 A1 hp1 => ?_)
        cases hk : k_apply (JA :: F :: js, K2) with
        | inl X =>
          rw [hk] at hp1
          obtain ⟨rfl, HK⟩ := hp1
          have hX : 0 < m_cd [z_ISE, z_IAE, z_AE] X ∧ m_cd [z_ISE, z_IAE, z_AE] X < 100 := by
            unfold m_cd
            split
            · omega
            · unfold m_cd
              split
              · omega
              · unfold m_cd
                split
                · omega
                · unfold m_cd
                  omega
          refine z_mp HG d_Md_apply_17 (L_Md_41 HG) (by decide) rfl rfl rfl rfl ?_
          refine z_aload_n d_Md_apply_20 rfl rfl ?_
          refine z_mg HG d_Md_apply_21 (L_Md_41 HG) (by decide) rfl ?_
          refine z_eqi (va_up_self _ _ _) ?_
          refine z_if_ne (tgt := 66) d_Md_apply_24 rfl (fun c24 => ?_) (fun c24 => ?_)
          · rw [← nI_0, nI_eq (by omega) (by omega)] at c24
            exact z_return d_Md_apply_66 rfl ⟨_, _, _, rfl, rfl, rfl, va_up_self _ _ _, HK.sc m_s3.rf m_sq4.up0⟩
          · rw [← nI_0, nI_eq (by omega) (by omega)] at c24
            omega
        | inr v =>
          rw [hk] at hp1
          obtain ⟨rfl, HK, JA', F', js', T, Y, ek, eF, rfl, rT, rY⟩ := hp1
          cases ek
          have HK3 : s1 3 = nI (js.length + 2) := HK.1.1
          refine z_mp HG d_Md_apply_17 (L_Md_41 HG) (by decide) rfl rfl rfl rfl ?_
          refine z_aload_n d_Md_apply_20 rfl rfl ?_
          refine z_mg HG d_Md_apply_21 (L_Md_41 HG) (by decide) rfl ?_
          refine z_eqi (va_up_self _ _ _) ?_
          refine z_if_ne (tgt := 66) d_Md_apply_24 rfl (fun c24 => ?_) (fun c24 => ?_)
          · rw [← nI_0, nI_eq (by omega) (by omega)] at c24
            omega
          · rw [← nI_0, nI_eq (by omega) (by omega)] at c24
            refine z_aload_n d_Md_apply_27 rfl rfl ?_
            refine z_dup d_Md_apply_28 rfl ?_
            refine z_mg HG d_Md_apply_29 (L_Md_107 HG) (by decide) rfl ?_
            refine z_eqi ((va_up_ne _ _ (by decide)).trans HK3) ?_
            refine z_iconst (v := nI 1) d_Md_apply_32 (by decide) ?_
            refine z_isub d_Md_apply_33 ?_
            refine z_eqi ((pk_sub (by omega)).trans (pk_bump (show _ = js.length + 1 by omega))) ?_
            refine z_mp HG d_Md_apply_34 (L_Md_107 HG) (by decide) rfl rfl rfl rfl ?_
            refine z_aload_n d_Md_apply_37 rfl rfl ?_
            refine z_bipush (v := nI 41) d_Md_apply_38 (by decide +kernel) ?_
            refine z_iconst (v := nI 0) d_Md_apply_40 (by decide) ?_
            refine z_aload_n d_Md_apply_41 rfl rfl ?_
            refine z_mg HG d_Md_apply_42 (L_Md_107 HG) (by decide) rfl ?_
            refine z_eqi (va_up_self _ _ _) ?_
            refine z_iadd d_Md_apply_45 ?_
            refine z_eqi (nI_add _ _) ?_
            refine z_iconst (v := nI 1) d_Md_apply_46 (by decide) ?_
            refine z_isub d_Md_apply_47 ?_
            refine z_eqi ((pk_sub (by omega)).trans (pk_bump (show _ = js.length by omega))) ?_
            refine z_mc (as := [.int (nI 41), .int (nI js.length)]) (dY := d + 2) HG d_Md_apply_48 rfl (by omega) (Y_Md_90 HG) rfl rfl (Nat.le_of_ble_eq_true rfl) (c_Md_copy (d := d) HG (by omega) (by omega) (by omega) rT) (fun v2 s2 A2 hp2 => ?_)
            obtain ⟨rfl, rfl, w2⟩ := hp2
            refine z_aload_n d_Md_apply_51 rfl rfl ?_
            refine z_bipush (v := nI 40) d_Md_apply_52 (by decide +kernel) ?_
            refine z_bipush (v := nI 6) d_Md_apply_54 (by decide +kernel) ?_
            refine z_aload_n d_Md_apply_56 rfl rfl ?_
            refine z_mg HG d_Md_apply_57 (L_Md_107 HG) (by decide) rfl ?_
            refine z_eqi (va_up_self _ _ _) ?_
            refine z_iadd d_Md_apply_60 ?_
            refine z_eqi (nI_add _ _) ?_
            refine z_iconst (v := nI 1) d_Md_apply_61 (by decide) ?_
            refine z_isub d_Md_apply_62 ?_
            refine z_eqi ((pk_sub (by omega)).trans (pk_bump (show _ = 6 + js.length by omega))) ?_
            refine z_mc (as := [.int (nI 40), .int (nI (6 + js.length))]) (dY := d + 2) HG d_Md_apply_63 rfl (by omega) (Y_Md_90 HG) rfl rfl (Nat.le_of_ble_eq_true rfl) (c_Md_copy (d := d) HG (by omega) (by omega) (by omega) (w2.keep (by omega) rY)) (fun v3 s3 A3 hp3 => ?_)
            obtain ⟨rfl, rfl, w3⟩ := hp3
            exact z_return d_Md_apply_66 rfl ⟨_, _, _, rfl, rfl, rfl, (va_up_ne _ _ (by decide)).trans (va_up_self _ _ _), mK.push (J := (K2.1.length, T, Y)) (K := (js, K2)) (n := js.length) ((HK.pop (s' := va_up s1 3 (nI (js.length + 1))) rfl rfl rfl rfl).pop (s' := va_up s1 3 (nI js.length)) rfl rfl rfl rfl) rfl (by omega) rfl rfl rfl rfl (fun r r1 r2 r3 => (w2.same r2).tr (w3.same r3)) (fun j hj => by rw [w3.1 3 (by decide) (by decide), w2.1 3 (by decide) (by decide)]) (by rw [w3.1 4 (by decide) (by decide), w2.1 4 (by decide) (by decide)]) (by rw [w3.1 5 (by decide) (by decide), w2.1 5 (by decide) (by decide)]) (by rw [w3.1 3 (by decide) (by decide), w2.1 3 (by decide) (by decide)]; exact ((HK.2.2.1 js.length F (by rw [l_rl (Nat.lt_succ_self _)]; exact l_rt)).1).trans (congrArg nI eF)) (w3.keep (by omega) w2.row) w3.row⟩
      · rw [nI_leI (by omega) (by omega)] at c6
        omega
end MA
