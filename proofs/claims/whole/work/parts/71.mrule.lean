/-! the reference: rule -/
section MU
variable {G : z_G} {h : z_H} {q d n r : Nat} {s s' : Nat → Int32} {A A1 A2 : Nat → Nat → Int32} {JB JA : pJ} {js : List pJ} {cs : List (List Nat)} {ks : List (List Nat × Bool)} {Rs : List pR} {za zb : Nat × List Nat}
theorem kR_1 (hj : js.length ≠ 0) {K2 : List (List Nat) × List (List Nat × Bool) × List pR} : k_rule (JB :: JA :: js, K2) = .inl z_ISE := by
  show (if _ then (if js.length = 0 then _ else _) else _) = _
  rw [if_neg hj]
  split <;> rfl
theorem kR_2 (hc : ¬ (JB.1 = cs.length ∧ JA.1 = cs.length)) : k_rule (JB :: JA :: [], cs, ks, Rs) = .inl z_ISE := if_neg hc
theorem kR_3 (hc : JB.1 = cs.length ∧ JA.1 = cs.length) (h8 : Rs.length = 8) : k_rule (JB :: JA :: [], cs, ks, Rs) = .inl z_UOE := by
  simp only [k_rule, if_pos hc, List.length_nil, if_pos, h8]
theorem kR_4 (hc : JB.1 = cs.length ∧ JA.1 = cs.length) (h8 : ¬ Rs.length = 8) (hl : ¬ p_left ks cs.length JA.2.1 = true) : k_rule (JB :: JA :: [], cs, ks, Rs) = .inl z_IAE := by
  simp only [k_rule, if_pos hc, List.length_nil, if_pos, if_neg h8, if_neg hl]
theorem kR_5 (hc : JB.1 = cs.length ∧ JA.1 = cs.length) (h8 : ¬ Rs.length = 8) (hl : p_left ks cs.length JA.2.1 = true) (ha : p_norm Rs 51 JA.2.2 = none) : k_rule (JB :: JA :: [], cs, ks, Rs) = .inl z_AE := by
  simp only [k_rule, if_pos hc, List.length_nil, if_pos, if_neg h8, if_pos hl, ha]
theorem kR_6 (hc : JB.1 = cs.length ∧ JA.1 = cs.length) (h8 : ¬ Rs.length = 8) (hl : p_left ks cs.length JA.2.1 = true) (ha : p_norm Rs 51 JA.2.2 = some za) (hb : p_norm Rs 51 JB.2.2 = none) : k_rule (JB :: JA :: [], cs, ks, Rs) = .inl z_AE := by
  simp only [k_rule, if_pos hc, List.length_nil, if_pos, if_neg h8, if_pos hl, ha, hb]
theorem kR_7 (hc : JB.1 = cs.length ∧ JA.1 = cs.length) (h8 : ¬ Rs.length = 8) (hl : p_left ks cs.length JA.2.1 = true) (ha : p_norm Rs 51 JA.2.2 = some za) (hb : p_norm Rs 51 JB.2.2 = some zb) (he : ¬ zb.2 = za.2) : k_rule (JB :: JA :: [], cs, ks, Rs) = .inl z_IAE := by
  simp only [k_rule, if_pos hc, List.length_nil, if_pos, if_neg h8, if_pos hl, ha, hb, if_neg he]
theorem kR_8 (hc : JB.1 = cs.length ∧ JA.1 = cs.length) (h8 : ¬ Rs.length = 8) (hl : p_left ks cs.length JA.2.1 = true) (ha : p_norm Rs 51 JA.2.2 = some za) (hb : p_norm Rs 51 JB.2.2 = some zb) (he : zb.2 = za.2) : k_rule (JB :: JA :: [], cs, ks, Rs) = .inr (some (.int (nI Rs.length)), ([], [], ks, Rs ++ [(JA.2.1, JB.2.1, cs.length)])) := by
  simp only [k_rule, if_pos hc, List.length_nil, if_pos, if_neg h8, if_pos hl, ha, hb, if_pos he]
/-- what ruled says and leaves -/
def m_ruq (K : pK) : (String ⊕ (Option Value × pK)) → Option Value → (Nat → Int32) → (Nat → Nat → Int32) → Prop
  | .inl X, o, s', A' => o = some (.int (nI (m_cd [z_ISE, z_UOE, z_IAE, z_AE] X))) ∧ mK K s' A'
  | .inr v, o, s', A' => o = some (.int (nI 0)) ∧ mK K s' A' ∧ ∃ JB JA cs ks Rs, K = (JB :: JA :: [], cs, ks, Rs) ∧ Rs.length < 8 ∧ v = (some (.int (nI Rs.length)), ([], [], ks, Rs ++ [(JA.2.1, JB.2.1, cs.length)]))
theorem c_Md_ruled {K : pK} (HG : z_ok G) (H : mK K s A) (Pk : pok K) : z_C G m_Md_ruled (d + 6) [.ref q] (md G h q s A) (m_post G h q (m_ruq K (k_rule K))) := by
  refine z_C.of (Nat.le_of_ble_eq_true rfl) ?_
  have h6 := H.2.1.1
  by_cases h2 : K.1.length = 2
  case neg =>
    have hk : k_rule K = .inl z_ISE := by
      obtain ⟨js, K2⟩ := K
      match js, h2 with
      | [], _ => rfl
      | [_], _ => rfl
      | JB :: JA :: J3 :: js, _ => exact kR_1 (by simp)
    have h3 := H.1.1
    rw [hk]
    refine z_aload_n d_Md_ruled_0 rfl rfl ?_
    refine z_mg HG d_Md_ruled_1 (L_Md_107 HG) (by decide) rfl ?_
    refine z_eqi h3 ?_
    refine z_iconst (v := nI 2) d_Md_ruled_4 (by decide) ?_
    refine z_icmp_ne (tgt := 24) d_Md_ruled_5 rfl (fun c5 => ?_) (fun c5 => ?_)
    · rw [nI_eq (by omega) (by omega)] at c5
      refine z_iconst (v := nI 1) d_Md_ruled_24 (by decide) ?_
      exact z_ireturn d_Md_ruled_25 rfl rfl ⟨_, _, _, rfl, rfl, (by rw [show m_cd [z_ISE, z_UOE, z_IAE, z_AE] z_ISE = 1 by decide +kernel]), H⟩
    · rw [nI_eq (by omega) (by omega)] at c5
      omega
  case pos =>
    obtain ⟨js, cs, ks, Rs⟩ := K
    obtain ⟨JB, JA, rfl⟩ : ∃ JB JA, js = [JB, JA] := by
      match js, h2 with
      | [JB, JA], _ => exact ⟨JB, JA, rfl⟩
    have h3 : s 3 = nI 2 := H.1.1
    have h4 : cs.length ≤ 4 := H.2.1.2.1
    have hk8 : ks.length ≤ 8 := H.2.1.2.2.1
    have hr8 : Rs.length ≤ 8 := H.2.1.2.2.2
    have h5 : s 5 = nI cs.length := H.1.2.1
    have hk6 : s 6 = nI ks.length := H.1.2.2.1
    have h8 : s 8 = nI Rs.length := H.1.2.2.2
    obtain ⟨b1, b2, b3⟩ := H.2.2.1 1 JB rfl
    obtain ⟨a1, a2, a3⟩ := H.2.2.1 0 JA rfl
    have hBw := Pk.1 JB List.mem_cons_self
    have hAw := Pk.1 JA (List.mem_cons_of_mem _ List.mem_cons_self)
    have hA4 : JA.1 ≤ 4 := Nat.le_trans hAw.1 h4
    have hB4 : JB.1 ≤ 4 := Nat.le_trans hBw.1 h4
    refine z_aload_n d_Md_ruled_0 rfl rfl ?_
    refine z_mg HG d_Md_ruled_1 (L_Md_107 HG) (by decide) rfl ?_
    refine z_eqi h3 ?_
    refine z_iconst (v := nI 2) d_Md_ruled_4 (by decide) ?_
    refine z_icmp_ne (tgt := 24) d_Md_ruled_5 rfl (fun c5 => ?_) (fun c5 => ?_)
    · rw [nI_eq (by omega) (by omega)] at c5
      omega
    · rw [nI_eq (by omega) (by omega)] at c5
      refine z_aload_n d_Md_ruled_8 rfl rfl ?_
      refine z_iconst (v := nI 0) d_Md_ruled_9 (by decide) ?_
      refine z_mr (as := [.int (nI 0)]) (dY := d) HG d_Md_ruled_10 rfl (by omega) (Y_Md_110 HG) rfl rfl (Nat.le_of_ble_eq_true rfl) (c_Md_present (k := 0) HG (by omega) (by omega) (by omega) a1 h5) ?_
      refine z_if_eq (tgt := 24) d_Md_ruled_13 rfl (fun c13 => ?_) (fun c13 => ?_)
      · have c13 := b_eq c13
        rw [kR_2 (fun hh => c13 hh.2)]
        refine z_iconst (v := nI 1) d_Md_ruled_24 (by decide) ?_
        exact z_ireturn d_Md_ruled_25 rfl rfl ⟨_, _, _, rfl, rfl, (by rw [show m_cd [z_ISE, z_UOE, z_IAE, z_AE] z_ISE = 1 by decide +kernel]), H⟩
      · have c13 := b_ne c13
        refine z_aload_n d_Md_ruled_16 rfl rfl ?_
        refine z_iconst (v := nI 1) d_Md_ruled_17 (by decide) ?_
        refine z_mr (as := [.int (nI 1)]) (dY := d) HG d_Md_ruled_18 rfl (by omega) (Y_Md_110 HG) rfl rfl (Nat.le_of_ble_eq_true rfl) (c_Md_present (k := 1) HG (by omega) (by omega) (by omega) b1 h5) ?_
        refine z_if_ne (tgt := 26) d_Md_ruled_21 rfl (fun c21 => ?_) (fun c21 => ?_)
        · have c21 := b_ne c21
          have hcc : JB.1 = cs.length ∧ JA.1 = cs.length := ⟨c21, c13⟩
          refine z_aload_n d_Md_ruled_26 rfl rfl ?_
          refine z_mg HG d_Md_ruled_27 (L_Md_75 HG) (by decide) rfl ?_
          refine z_eqi h8 ?_
          refine z_bipush (v := nI 8) d_Md_ruled_30 (by decide +kernel) ?_
          refine z_icmp_ne (tgt := 37) d_Md_ruled_32 rfl (fun c32 => ?_) (fun c32 => ?_)
          · rw [nI_eq (by omega) (by omega)] at c32
            refine z_aload_n d_Md_ruled_37 rfl rfl ?_
            refine z_iconst (v := nI 0) d_Md_ruled_38 (by decide) ?_
            refine z_mr (as := [.int (nI 0)]) (dY := d + 1) HG d_Md_ruled_39 rfl (by omega) (Y_Md_144 HG) rfl rfl (Nat.le_of_ble_eq_true rfl) (c_Md_isLeft (d := d) (r := 0) (ks := ks) HG (by omega) h4 hk8 h5 hk6 (fun k c hk => (H.2.2.2.2.1 k c hk).2) a2 (by rw [← c13]; exact hAw.2.1)) ?_
            refine z_if_ne (tgt := 47) d_Md_ruled_42 rfl (fun c42 => ?_) (fun c42 => ?_)
            · have c42 := b_ne c42
              refine z_aload_n d_Md_ruled_47 rfl rfl ?_
              refine z_iconst (v := nI 0) d_Md_ruled_48 (by decide) ?_
              refine z_mp HG d_Md_ruled_49 (L_Md_45 HG) (by decide) rfl rfl rfl rfl ?_
              refine z_aload_n d_Md_ruled_52 rfl rfl ?_
              refine z_bipush (v := nI 6) d_Md_ruled_53 (by decide +kernel) ?_
              refine z_mc (as := [.int (nI 6)]) (dY := d + 5) HG d_Md_ruled_55 rfl (by omega) (Y_Md_120 HG) rfl rfl (Nat.le_of_ble_eq_true rfl) (c_Md_normalOf (d := d) (r := 6) (n := JA.1) (Rs := Rs) HG (by omega) hA4 Pk.2.2.2 ((va_up_ne _ _ (by decide)).trans h8) (va_up_self _ _ _) hAw.2.2 a3 H.rs) (fun v1 s1 A1 hp1 => ?_)
              cases hz : p_norm Rs 51 JA.2.2 with
              | none =>
                rw [hz] at hp1
                obtain ⟨⟨nv, rfl⟩, rfl, sx, l0, u2⟩ := hp1
                rw [kR_5 hcc c32 c42 hz]
                refine z_istore_n d_Md_ruled_58 rfl (by decide) ?_
                refine z_aload_n d_Md_ruled_59 rfl rfl ?_
                refine z_bipush (v := nI 40) d_Md_ruled_60 (by decide +kernel) ?_
                refine z_bipush (v := nI 42) d_Md_ruled_62 (by decide +kernel) ?_
                refine z_mc (as := [.int (nI 40), .int (nI 42)]) (dY := d + 2) HG d_Md_ruled_64 rfl (by omega) (Y_Md_90 HG) rfl rfl (Nat.le_of_ble_eq_true rfl) (c_Md_copy (d := d) HG (by omega) (by omega) (by omega) u2) (fun v2 s2 A2 hp2 => ?_)
                obtain ⟨rfl, rfl, wr⟩ := hp2
                refine z_aload_n d_Md_ruled_67 rfl rfl ?_
                refine z_mg HG d_Md_ruled_68 (L_Md_45 HG) (by decide) rfl ?_
                refine z_eqi (va_up_self _ _ _) ?_
                refine z_if_eq (tgt := 76) d_Md_ruled_71 rfl (fun c71 => ?_) (fun c71 => ?_)
                · rw [← nI_0, nI_eq (by omega) (by omega)] at c71
                  omega
                · rw [← nI_0, nI_eq (by omega) (by omega)] at c71
                  refine z_iconst (v := nI 4) d_Md_ruled_74 (by decide) ?_
                  exact z_ireturn d_Md_ruled_75 rfl rfl ⟨_, _, _, rfl, rfl, (by rw [show m_cd [z_ISE, z_UOE, z_IAE, z_AE] z_AE = 4 by decide +kernel]), H.sc (sx.s3.tr (wr.s3 (by omega))) (m_sq4.up10.tr m_sq4.up10)⟩
              | some za =>
                rw [hz] at hp1
                obtain ⟨rfl, rfl, sx, u2⟩ := hp1
                refine z_istore_n d_Md_ruled_58 rfl (by decide) ?_
                refine z_aload_n d_Md_ruled_59 rfl rfl ?_
                refine z_bipush (v := nI 40) d_Md_ruled_60 (by decide +kernel) ?_
                refine z_bipush (v := nI 42) d_Md_ruled_62 (by decide +kernel) ?_
                refine z_mc (as := [.int (nI 40), .int (nI 42)]) (dY := d + 2) HG d_Md_ruled_64 rfl (by omega) (Y_Md_90 HG) rfl rfl (Nat.le_of_ble_eq_true rfl) (c_Md_copy (d := d) HG (by omega) (by omega) (by omega) u2) (fun v2 s2 A2 hp2 => ?_)
                obtain ⟨rfl, rfl, wr⟩ := hp2
                refine z_aload_n d_Md_ruled_67 rfl rfl ?_
                refine z_mg HG d_Md_ruled_68 (L_Md_45 HG) (by decide) rfl ?_
                refine z_eqi (va_up_self _ _ _) ?_
                refine z_if_eq (tgt := 76) d_Md_ruled_71 rfl (fun c71 => ?_) (fun c71 => ?_)
                · rw [← nI_0, nI_eq (by omega) (by omega)] at c71
                  refine z_aload_n d_Md_ruled_76 rfl rfl ?_
                  refine z_bipush (v := nI 7) d_Md_ruled_77 (by decide +kernel) ?_
                  refine z_mc (as := [.int (nI 7)]) (dY := d + 5) HG d_Md_ruled_79 rfl (by omega) (Y_Md_120 HG) rfl rfl (Nat.le_of_ble_eq_true rfl) (c_Md_normalOf (d := d) (r := 7) (n := JB.1) (Rs := Rs) HG (by omega) hB4 Pk.2.2.2 ((va_up_ne _ _ (by decide)).trans h8) (va_up_self _ _ _) hBw.2.2 (wr.keep (by omega) (sx.row (Or.inl (by omega)) b3)) (mK.rs (H.sc (sx.s3.tr (wr.s3 (by omega))) (m_sq4.rf (s := s))))) (fun v3 s3 A3 hp3 => ?_)
                  cases hz2 : p_norm Rs 51 JB.2.2 with
                  | none =>
                    rw [hz2] at hp3
                    obtain ⟨⟨nv, rfl⟩, rfl, sx2, l0, u3⟩ := hp3
                    rw [kR_6 hcc c32 c42 hz hz2]
                    refine z_istore_n d_Md_ruled_82 rfl (by decide) ?_
                    refine z_aload_n d_Md_ruled_83 rfl rfl ?_
                    refine z_mg HG d_Md_ruled_84 (L_Md_45 HG) (by decide) rfl ?_
                    refine z_eqi (va_up_self _ _ _) ?_
                    refine z_if_eq (tgt := 94) d_Md_ruled_87 rfl (fun c87 => ?_) (fun c87 => ?_)
                    · rw [← nI_0, nI_eq (by omega) (by omega)] at c87
                      omega
                    · rw [← nI_0, nI_eq (by omega) (by omega)] at c87
                      refine z_iconst (v := nI 4) d_Md_ruled_90 (by decide) ?_
                      refine z_goto (tgt := 110) d_Md_ruled_91 rfl ?_
                      exact z_ireturn d_Md_ruled_110 rfl rfl ⟨_, _, _, rfl, rfl, (by rw [show m_cd [z_ISE, z_UOE, z_IAE, z_AE] z_AE = 4 by decide +kernel]), H.sc ((sx.s3.tr (wr.s3 (by omega))).tr sx2.s3) (m_sq4.up10.tr m_sq4.up10)⟩
                  | some zb =>
                    rw [hz2] at hp3
                    obtain ⟨rfl, rfl, sx2, u3⟩ := hp3
                    have z3 := sx2.row (Or.inr rfl) wr.row
                    refine z_istore_n d_Md_ruled_82 rfl (by decide) ?_
                    refine z_aload_n d_Md_ruled_83 rfl rfl ?_
                    refine z_mg HG d_Md_ruled_84 (L_Md_45 HG) (by decide) rfl ?_
                    refine z_eqi (va_up_self _ _ _) ?_
                    refine z_if_eq (tgt := 94) d_Md_ruled_87 rfl (fun c87 => ?_) (fun c87 => ?_)
                    · rw [← nI_0, nI_eq (by omega) (by omega)] at c87
                      refine z_aload_n d_Md_ruled_94 rfl rfl ?_
                      refine z_bipush (v := nI 40) d_Md_ruled_95 (by decide +kernel) ?_
                      refine z_bipush (v := nI 42) d_Md_ruled_97 (by decide +kernel) ?_
                      refine z_mr (as := [.int (nI 40), .int (nI 42)]) (dY := d + 1) HG d_Md_ruled_99 rfl (by omega) (Y_Md_147 HG) rfl rfl (Nat.le_of_ble_eq_true rfl) (c_Md_equal (d := d) HG (by omega) (by omega) u3 z3) ?_
                      refine z_if_eq (tgt := 109) d_Md_ruled_102 rfl (fun c102 => ?_) (fun c102 => ?_)
                      · have c102 := b_eq c102
                        rw [kR_7 hcc c32 c42 hz hz2 c102]
                        refine z_iconst (v := nI 3) d_Md_ruled_109 (by decide) ?_
                        exact z_ireturn d_Md_ruled_110 rfl rfl ⟨_, _, _, rfl, rfl, (by rw [show m_cd [z_ISE, z_UOE, z_IAE, z_AE] z_IAE = 3 by decide +kernel]), H.sc ((sx.s3.tr (wr.s3 (by omega))).tr sx2.s3) m_sq4.up10⟩
                      · have c102 := b_ne c102
                        rw [kR_8 hcc c32 c42 hz hz2 c102]
                        refine z_iconst (v := nI 0) d_Md_ruled_105 (by decide) ?_
                        refine z_goto (tgt := 110) d_Md_ruled_106 rfl ?_
                        exact z_ireturn d_Md_ruled_110 rfl rfl ⟨_, _, _, rfl, rfl, rfl, H.sc ((sx.s3.tr (wr.s3 (by omega))).tr sx2.s3) m_sq4.up10, JB, JA, cs, ks, Rs, rfl, by omega, rfl⟩
                    · rw [← nI_0, nI_eq (by omega) (by omega)] at c87
                      omega
                · rw [← nI_0, nI_eq (by omega) (by omega)] at c71
                  omega
            · have c42 := b_eq c42
              rw [kR_4 hcc c32 c42]
              refine z_iconst (v := nI 3) d_Md_ruled_45 (by decide) ?_
              exact z_ireturn d_Md_ruled_46 rfl rfl ⟨_, _, _, rfl, rfl, (by rw [show m_cd [z_ISE, z_UOE, z_IAE, z_AE] z_IAE = 3 by decide +kernel]), H⟩
          · rw [nI_eq (by omega) (by omega)] at c32
            rw [kR_3 hcc c32]
            refine z_iconst (v := nI 2) d_Md_ruled_35 (by decide) ?_
            exact z_ireturn d_Md_ruled_36 rfl rfl ⟨_, _, _, rfl, rfl, (by rw [show m_cd [z_ISE, z_UOE, z_IAE, z_AE] z_UOE = 2 by decide +kernel]), H⟩
        · have c21 := b_eq c21
          rw [kR_2 (fun hh => c21 hh.1)]
          refine z_iconst (v := nI 1) d_Md_ruled_24 (by decide) ?_
          exact z_ireturn d_Md_ruled_25 rfl rfl ⟨_, _, _, rfl, rfl, (by rw [show m_cd [z_ISE, z_UOE, z_IAE, z_AE] z_ISE = 1 by decide +kernel]), H⟩
theorem mK.rpush {l1 l2 : List Nat} (H : mK (js, cs, ks, Rs) s A) (hl : Rs.length < 8) (w1 : m_wr A A1 (24 + Rs.length) l1) (w2 : m_wr A1 A2 (32 + Rs.length) l2) (e3 : s' 3 = nI 0) (e5 : s' 5 = nI 0) (e6 : s' 6 = s 6) (e8 : s' 8 = nI (Rs.length + 1)) : mK ([], [], ks, Rs ++ [(l1, l2, n)]) s' (va_up A2 5 (upd (A2 5) Rs.length (nI n))) := by
  obtain ⟨⟨a1, a2, a3, a4⟩, ⟨b1, b2, b3, b4⟩, cc, dd, f, g⟩ := H
  have u : ∀ k, k ≠ 5 → va_up A2 5 (upd (A2 5) Rs.length (nI n)) k = A2 k := fun k hk => va_up_ne _ _ hk
  have u1 := u 1 (by decide)
  have u2 := u 2 (by decide)
  have b3 : ks.length ≤ 8 := b3
  refine ⟨⟨e3, e5, e6.trans a3, ?_⟩, ⟨Nat.zero_le _, Nat.zero_le _, b3, ?_⟩, fun j J' hj => (by have hj : ([] : List pJ).reverse[j]? = some J' := hj; simp at hj), fun j c0 hj => (by have hj : ([] : List (List Nat)).reverse[j]? = some c0 := hj; simp at hj), fun j c0 hj => ?_, fun j R hj => ?_⟩
  · show s' 8 = nI (Rs ++ [(l1, l2, n)]).length
    rw [List.length_append]
    exact e8
  · show (Rs ++ [(l1, l2, n)]).length ≤ 8
    rw [List.length_append]
    exact hl
  · have h2 : j < ks.length := l_gi' hj
    obtain ⟨v1, v2⟩ := f j c0 hj
    exact ⟨(w2.keep (by omega) (w1.keep (by omega) v1)).eqv u1 u2, by rw [u 4 (by decide), w2.1 4 (by decide) (by decide), w1.1 4 (by decide) (by decide)]; exact v2⟩
  · have hj : (Rs ++ [(l1, l2, n)])[j]? = some R := hj
    by_cases h1 : j < Rs.length
    · rw [List.getElem?_append_left h1] at hj
      obtain ⟨⟨v1, v2⟩, v3⟩ := g j R hj
      refine ⟨⟨(w2.keep (by omega) (w1.keep (by omega) v1)).eqv u1 u2, (w2.keep (by omega) (w1.keep (by omega) v2)).eqv u1 u2⟩, ?_⟩
      rw [va_up_self, w2.1 5 (by decide) (by decide), w1.1 5 (by decide) (by decide)]
      exact (if_neg (by omega)).trans v3
    · have h2 := l_gi' hj
      rw [List.length_append] at h2
      have h2 : j < Rs.length + 1 := h2
      have h3 : j = Rs.length := by omega
      subst h3
      rw [List.getElem?_append_right (Nat.le_refl _), Nat.sub_self] at hj
      cases hj
      refine ⟨⟨(w2.keep (by omega) w1.row).eqv u1 u2, w2.row.eqv u1 u2⟩, ?_⟩
      rw [va_up_self]
      exact if_pos rfl
theorem c_Md_rule {K : pK} (HG : z_ok G) (H : mK K s A) (Pk : pok K) : z_C G m_Md_rule (d + 7) [.ref q] (md G h q s A) (m_post G h q (m_out (m_cd [z_ISE, z_UOE, z_IAE, z_AE]) K (k_rule K))) := by
  refine z_C.of (Nat.le_of_ble_eq_true rfl) ?_
  refine z_aload_n d_Md_rule_0 rfl rfl ?_
  refine z_aload_n d_Md_rule_1 rfl rfl ?_
  refine z_mc (as := []) (dY := d + 6) HG d_Md_rule_2 rfl (by omega) (Y_Md_150 HG) rfl rfl (Nat.le_of_ble_eq_true rfl) (c_Md_ruled (d := d) HG H Pk) (fun v1 s1 A1 hp1 => ?_)
  cases hk : k_rule K with
  | inl X =>
    rw [hk] at hp1
    obtain ⟨rfl, HK⟩ := hp1
    have hX : 0 < m_cd [z_ISE, z_UOE, z_IAE, z_AE] X ∧ m_cd [z_ISE, z_UOE, z_IAE, z_AE] X < 100 := by
      unfold m_cd
      split
      · omega
      · unfold m_cd
        split
        · omega
        · unfold m_cd
          split
          · omega
          · unfold m_cd
            split
            · omega
            · unfold m_cd
              omega
    refine z_mp HG d_Md_rule_5 (L_Md_41 HG) (by decide) rfl rfl rfl rfl ?_
    refine z_aload_n d_Md_rule_8 rfl rfl ?_
    refine z_mg HG d_Md_rule_9 (L_Md_41 HG) (by decide) rfl ?_
    refine z_eqi (va_up_self _ _ _) ?_
    refine z_if_eq (tgt := 17) d_Md_rule_12 rfl (fun c12 => ?_) (fun c12 => ?_)
    · rw [← nI_0, nI_eq (by omega) (by omega)] at c12
      omega
    · rw [← nI_0, nI_eq (by omega) (by omega)] at c12
      refine z_iconst (v := nI 0) d_Md_rule_15 (by decide) ?_
      exact z_ireturn d_Md_rule_16 rfl rfl ⟨_, _, _, rfl, rfl, ⟨_, rfl⟩, va_up_self _ _ _, HK.sc m_s3.rf m_sq4.up0⟩
  | inr v =>
    rw [hk] at hp1
    obtain ⟨rfl, HK, JB, JA, cs, ks, Rs, rfl, hR8, rfl⟩ := hp1
    have h8 : s1 8 = nI Rs.length := HK.1.2.2.2
    have h5 : s1 5 = nI cs.length := HK.1.2.1
    have rB := (HK.2.2.1 1 JB rfl).2.1
    have rA := (HK.2.2.1 0 JA rfl).2.1
    refine z_mp HG d_Md_rule_5 (L_Md_41 HG) (by decide) rfl rfl rfl rfl ?_
    refine z_aload_n d_Md_rule_8 rfl rfl ?_
    refine z_mg HG d_Md_rule_9 (L_Md_41 HG) (by decide) rfl ?_
    refine z_eqi (va_up_self _ _ _) ?_
    refine z_if_eq (tgt := 17) d_Md_rule_12 rfl (fun c12 => ?_) (fun c12 => ?_)
    · rw [← nI_0, nI_eq (by omega) (by omega)] at c12
      refine z_aload_n d_Md_rule_17 rfl rfl ?_
      refine z_iconst (v := nI 0) d_Md_rule_18 (by decide) ?_
      refine z_bipush (v := nI 24) d_Md_rule_19 (by decide +kernel) ?_
      refine z_aload_n d_Md_rule_21 rfl rfl ?_
      refine z_mg HG d_Md_rule_22 (L_Md_75 HG) (by decide) rfl ?_
      refine z_eqi ((va_up_ne _ _ (by decide)).trans h8) ?_
      refine z_iadd d_Md_rule_25 ?_
      refine z_eqi (nI_add _ _) ?_
      refine z_mc (as := [.int (nI 0), .int (nI (24 + Rs.length))]) (dY := d + 2) HG d_Md_rule_26 rfl (by omega) (Y_Md_90 HG) rfl rfl (Nat.le_of_ble_eq_true rfl) (c_Md_copy (d := d) (r2 := 0) HG (by omega) (by omega) (by omega) rA) (fun v2 s2 A2 hp2 => ?_)
      obtain ⟨rfl, rfl, w2⟩ := hp2
      refine z_aload_n d_Md_rule_29 rfl rfl ?_
      refine z_iconst (v := nI 1) d_Md_rule_30 (by decide) ?_
      refine z_bipush (v := nI 32) d_Md_rule_31 (by decide +kernel) ?_
      refine z_aload_n d_Md_rule_33 rfl rfl ?_
      refine z_mg HG d_Md_rule_34 (L_Md_75 HG) (by decide) rfl ?_
      refine z_eqi ((va_up_ne _ _ (by decide)).trans h8) ?_
      refine z_iadd d_Md_rule_37 ?_
      refine z_eqi (nI_add _ _) ?_
      refine z_mc (as := [.int (nI 1), .int (nI (32 + Rs.length))]) (dY := d + 2) HG d_Md_rule_38 rfl (by omega) (Y_Md_90 HG) rfl rfl (Nat.le_of_ble_eq_true rfl) (c_Md_copy (d := d) (r2 := 1) HG (by omega) (by omega) (by omega) (w2.keep (by omega) rB)) (fun v3 s3 A3 hp3 => ?_)
      obtain ⟨rfl, rfl, w3⟩ := hp3
      refine z_aload_n d_Md_rule_41 rfl rfl ?_
      refine z_mg HG d_Md_rule_42 (L_Md_23 HG) (by decide) rfl ?_
      refine z_aload_n d_Md_rule_45 rfl rfl ?_
      refine z_mg HG d_Md_rule_46 (L_Md_75 HG) (by decide) rfl ?_
      refine z_eqi ((va_up_ne _ _ (by decide)).trans h8) ?_
      refine z_aload_n d_Md_rule_49 rfl rfl ?_
      refine z_mg HG d_Md_rule_50 (L_Md_104 HG) (by decide) rfl ?_
      refine z_eqi ((va_up_ne _ _ (by decide)).trans h5) ?_
      refine z_ms HG 5 d_Md_rule_53 (by decide) (show _ < 8 by omega) ?_
      refine z_aload_n d_Md_rule_54 rfl rfl ?_
      refine z_dup d_Md_rule_55 rfl ?_
      refine z_mg HG d_Md_rule_56 (L_Md_75 HG) (by decide) rfl ?_
      refine z_eqi ((va_up_ne _ _ (by decide)).trans h8) ?_
      refine z_iconst (v := nI 1) d_Md_rule_59 (by decide) ?_
      refine z_iadd d_Md_rule_60 ?_
      refine z_eqi (nI_add _ _) ?_
      refine z_mp HG d_Md_rule_61 (L_Md_75 HG) (by decide) rfl rfl rfl rfl ?_
      refine z_aload_n d_Md_rule_64 rfl rfl ?_
      refine z_iconst (v := nI 0) d_Md_rule_65 (by decide) ?_
      refine z_mp HG d_Md_rule_66 (L_Md_107 HG) (by decide) rfl rfl rfl rfl ?_
      refine z_aload_n d_Md_rule_69 rfl rfl ?_
      refine z_iconst (v := nI 0) d_Md_rule_70 (by decide) ?_
      refine z_mp HG d_Md_rule_71 (L_Md_104 HG) (by decide) rfl rfl rfl rfl ?_
      refine z_aload_n d_Md_rule_74 rfl rfl ?_
      refine z_mg HG d_Md_rule_75 (L_Md_75 HG) (by decide) rfl ?_
      refine z_eqi ((va_up_ne _ _ (by decide)).trans ((va_up_ne _ _ (by decide)).trans (va_up_self _ _ _))) ?_
      refine z_iconst (v := nI 1) d_Md_rule_78 (by decide) ?_
      refine z_isub d_Md_rule_79 ?_
      refine z_eqi ((pk_sub (by omega)).trans (pk_bump (show _ = Rs.length by omega))) ?_
      exact z_ireturn d_Md_rule_80 rfl rfl ⟨_, _, _, rfl, rfl, rfl, rfl, HK.rpush hR8 w2 w3 rfl rfl rfl rfl⟩
    · rw [← nI_0, nI_eq (by omega) (by omega)] at c12
      omega
end MU
