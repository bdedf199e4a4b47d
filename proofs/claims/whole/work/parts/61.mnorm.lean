/-! the reference: normalise, normalOf -/
section MN
variable {G : z_G} {h : z_H} {q d p n : Nat} {s : Nat → Int32} {A : Nat → Nat → Int32} {x : List Nat} {Rs : List (List Nat × List Nat × Nat)}
/-- what a normal form, or none, leaves behind; k steps were made before -/
def m_nq (k : Nat) (s : Nat → Int32) (A : Nat → Nat → Int32) : Option (Nat × List Nat) → Option Value → (Nat → Int32) → (Nat → Nat → Int32) → Prop
  | some z, o, s', A' => o = some (.int (nI (k + z.1))) ∧ s' = s ∧ m_sx A A' ∧ mrow A' 40 z.2
  | none, o, s', A' => (∃ v, o = some (.int v)) ∧ s' = va_up s 10 (nI 1) ∧ m_sx A A' ∧ ∃ l, mrow A' 40 l
theorem m_nq.pre {k : Nat} {A1 A' : Nat → Nat → Int32} {s' : Nat → Int32} {o : Option Value} (H : m_sx A A1) : ∀ {z : Option (Nat × List Nat)}, m_nq k s A1 z o s' A' → m_nq k s A z o s' A'
  | some z, hh => ⟨hh.1, hh.2.1, H.tr hh.2.2.1, hh.2.2.2⟩
  | none, hh => ⟨hh.1, hh.2.1, H.tr hh.2.2.1, hh.2.2.2⟩
theorem m_nq.up {k : Nat} {A' : Nat → Nat → Int32} {s' : Nat → Int32} {o : Option Value} : ∀ {z : Option (Nat × List Nat)}, m_nq (k + 1) s A z o s' A' → m_nq k s A (z.map (fun z => (z.1 + 1, z.2))) o s' A'
  | some z, hh => ⟨hh.1.trans (by rw [Nat.add_assoc, Nat.add_comm 1 z.1]), hh.2.1, hh.2.2.1, hh.2.2.2⟩
  | none, hh => hh
/-- too long: the loop ends -/
theorem l_Md_nx (HG : z_ok G) {st : Nat} {s0 : Nat → Int32} {A0 : Nat → Nat → Int32} (hx : mrow A 40 x) (h10 : s 10 = nI 1) (hs : s = va_up s0 10 (nI 1)) (hA : m_sx A0 A) (hst : st < 100) (hp : p < 100) : z_V G m_Md_normalise (d + 4) 4 [(0, .ref q), (1, .int (nI st)), (2, .int (nI p))] [] (md G h q s A) (m_post G h q (m_nq 0 s0 A0 none)) := by
  have h40 := hx.len
  refine z_iload_n d_Md_normalise_4 rfl rfl ?_
  refine z_aload_n d_Md_normalise_5 rfl rfl ?_
  refine z_mg HG d_Md_normalise_6 (L_Md_13 HG) (by decide) rfl ?_
  refine z_bipush (v := nI 40) d_Md_normalise_9 (by decide +kernel) ?_
  refine z_ml HG 2 d_Md_normalise_11 (by decide) (show _ < 43 by omega) hx.1 ?_
  refine z_icmp_ge (tgt := 68) d_Md_normalise_12 rfl (fun c12 => ?_) (fun c12 => ?_)
  · rw [nI_leI (by omega) (by omega)] at c12
    refine z_iload_n d_Md_normalise_68 rfl rfl ?_
    exact z_ireturn d_Md_normalise_69 rfl rfl ⟨_, _, _, rfl, rfl, ⟨_, rfl⟩, hs, hA, _, hx⟩
  · rw [nI_leI (by omega) (by omega)] at c12
    refine z_aload_n d_Md_normalise_15 rfl rfl ?_
    refine z_mg HG d_Md_normalise_16 (L_Md_45 HG) (by decide) rfl ?_
    refine z_eqi h10 ?_
    refine z_if_ne (tgt := 68) d_Md_normalise_19 rfl (fun c19 => ?_) (fun c19 => ?_)
    · rw [← nI_0, nI_eq (by omega) (by omega)] at c19
      refine z_iload_n d_Md_normalise_68 rfl rfl ?_
      exact z_ireturn d_Md_normalise_69 rfl rfl ⟨_, _, _, rfl, rfl, ⟨_, rfl⟩, hs, hA, _, hx⟩
    · rw [← nI_0, nI_eq (by omega) (by omega)] at c19
      omega
theorem p_norm_no {c : Nat} (h : p_step Rs x = none) : p_norm Rs (c + 1) x = some (0, x) := by
  show (match p_step Rs x with | none => _ | some y => _) = _
  rw [h]
theorem p_norm_go {c : Nat} {y : List Nat} (h : p_step Rs x = some y) : p_norm Rs (c + 1) x = if y.length ≤ 40 then (p_norm Rs c y).map (fun z => (z.1 + 1, z.2)) else none := by
  show (match p_step Rs x with | none => _ | some y => _) = _
  rw [h]
theorem l_Md_norm (HG : z_ok G) (hn : n ≤ 4) (hR : p_rsok Rs) (h8 : s 8 = nI Rs.length) (h10 : s 10 = nI 0) : ∀ (c st : Nat), st + c = 50 → ∀ (x : List Nat) (m p : Nat) (A : Nat → Nat → Int32), p + m = x.length → p_step Rs x = p_scan Rs x m p → p_wf n [0] x → mrow A 40 x → m_rs A Rs →
    z_V G m_Md_normalise (d + 4) 4 [(0, .ref q), (1, .int (nI st)), (2, .int (nI p))] [] (md G h q s A) (m_post G h q (m_nq st s A (p_norm Rs (c + 1) x))) := by
  intro c
  induction c with
  | zero =>
    intro st hst x m
    induction m with
    | zero =>
      intro p A hm hs hw hx hr
      have h40 := hx.len
      rw [p_norm_no hs]
      refine z_iload_n d_Md_normalise_4 rfl rfl ?_
      refine z_aload_n d_Md_normalise_5 rfl rfl ?_
      refine z_mg HG d_Md_normalise_6 (L_Md_13 HG) (by decide) rfl ?_
      refine z_bipush (v := nI 40) d_Md_normalise_9 (by decide +kernel) ?_
      refine z_ml HG 2 d_Md_normalise_11 (by decide) (show _ < 43 by omega) hx.1 ?_
      refine z_icmp_ge (tgt := 68) d_Md_normalise_12 rfl (fun c12 => ?_) (fun c12 => ?_)
      · rw [nI_leI (by omega) (by omega)] at c12
        refine z_iload_n d_Md_normalise_68 rfl rfl ?_
        exact z_ireturn d_Md_normalise_69 rfl rfl ⟨_, _, _, rfl, rfl, rfl, rfl, m_sx.rf, hx⟩
      · rw [nI_leI (by omega) (by omega)] at c12
        omega
    | succ m ihm =>
      intro p A hm hs hw hx hr
      have h40 := hx.len
      have hp : p < x.length := by omega
      have hs2 : p_step Rs x = (p_here Rs x p).or (p_scan Rs x m (p + 1)) := hs
      refine z_iload_n d_Md_normalise_4 rfl rfl ?_
      refine z_aload_n d_Md_normalise_5 rfl rfl ?_
      refine z_mg HG d_Md_normalise_6 (L_Md_13 HG) (by decide) rfl ?_
      refine z_bipush (v := nI 40) d_Md_normalise_9 (by decide +kernel) ?_
      refine z_ml HG 2 d_Md_normalise_11 (by decide) (show _ < 43 by omega) hx.1 ?_
      refine z_icmp_ge (tgt := 68) d_Md_normalise_12 rfl (fun c12 => ?_) (fun c12 => ?_)
      · rw [nI_leI (by omega) (by omega)] at c12
        omega
      · rw [nI_leI (by omega) (by omega)] at c12
        refine z_aload_n d_Md_normalise_15 rfl rfl ?_
        refine z_mg HG d_Md_normalise_16 (L_Md_45 HG) (by decide) rfl ?_
        refine z_eqi h10 ?_
        refine z_if_ne (tgt := 68) d_Md_normalise_19 rfl (fun c19 => ?_) (fun c19 => ?_)
        · rw [← nI_0, nI_eq (by omega) (by omega)] at c19
          omega
        · rw [← nI_0, nI_eq (by omega) (by omega)] at c19
          refine z_aload_n d_Md_normalise_22 rfl rfl ?_
          refine z_iload_n d_Md_normalise_23 rfl rfl ?_
          refine z_mc (as := [.int (nI p)]) (dY := d + 3) HG d_Md_normalise_24 rfl (by omega) (Y_Md_93 HG) rfl rfl (Nat.le_of_ble_eq_true rfl) (c_Md_redex HG hp hw hR h8 hx hr) (fun v1 s1 A1 hp1 => ?_)
          obtain ⟨rfl, e2, rv, rfl, e4⟩ := hp1
          have hx1 := e2.row hx
          have hr1 := hr.sx e2.sx
          rcases e4 with ⟨rfl, b1, b2⟩ | ⟨rfl, b1, b2⟩ | ⟨k, R, rfl, b1, b2, b3, b4⟩
          · have hh : p_here Rs x p = some (p_beta x p) := by
              unfold p_here
              rw [if_pos ⟨b1, b2⟩]
            have hs3 : p_step Rs x = some (p_beta x p) := by
              rw [hs2, hh]
              rfl
            have hyw := p_here_wf hw hR hp hh
            refine z_istore_n d_Md_normalise_27 rfl (by decide) ?_
            refine z_iload_n d_Md_normalise_28 rfl rfl ?_
            refine z_bipush (v := (-2)) d_Md_normalise_29 (by decide +kernel) ?_
            refine z_icmp_ne (tgt := 40) d_Md_normalise_31 rfl (fun c31 => ?_) (fun c31 => ?_)
            · refine z_iload_n d_Md_normalise_40 rfl rfl ?_
              refine z_bipush (v := nI 50) d_Md_normalise_41 (by decide +kernel) ?_
              refine z_icmp_ne (tgt := 54) d_Md_normalise_43 rfl (fun c43 => ?_) (fun c43 => ?_)
              · rw [nI_eq (by omega) (by omega)] at c43
                omega
              · rw [nI_eq (by omega) (by omega)] at c43
                refine z_aload_n d_Md_normalise_46 rfl rfl ?_
                refine z_iconst (v := nI 1) d_Md_normalise_47 (by decide) ?_
                refine z_mp HG d_Md_normalise_48 (L_Md_45 HG) (by decide) rfl rfl rfl rfl ?_
                refine z_goto (tgt := 65) d_Md_normalise_51 rfl ?_
                refine z_goto (tgt := 4) d_Md_normalise_65 rfl ?_
                refine z_fg [(0, .ref q), (1, .int (nI st)), (2, .int (nI p))] ⟨rfl, rfl, rfl, trivial⟩ ?_
                refine z_Vm (l_Md_nx (s0 := s1) (A0 := A) HG hx1 (va_up_self _ _ _) rfl e2.sx (by omega) (by omega)) (fun o s' A' hh => ?_)
                rw [p_norm_go hs3]
                split
                · exact hh
                · exact hh
            · exact absurd c31 (by decide)
          · have hh : p_here Rs x p = none := by
              unfold p_here
              rw [if_neg b1, b2]
              rfl
            have hs3 : p_step Rs x = p_scan Rs x m (p + 1) := by
              rw [hs2, hh]
              rfl
            refine z_istore_n d_Md_normalise_27 rfl (by decide) ?_
            refine z_iload_n d_Md_normalise_28 rfl rfl ?_
            refine z_bipush (v := (-2)) d_Md_normalise_29 (by decide +kernel) ?_
            refine z_icmp_ne (tgt := 40) d_Md_normalise_31 rfl (fun c31 => ?_) (fun c31 => ?_)
            · exact absurd rfl c31
            · refine z_iinc (v := nI (p + 1)) d_Md_normalise_34 rfl (i_inc _) (by decide) ?_
              refine z_goto (tgt := 65) d_Md_normalise_37 rfl ?_
              refine z_goto (tgt := 4) d_Md_normalise_65 rfl ?_
              refine z_fg [(0, .ref q), (1, .int (nI st)), (2, .int (nI (p + 1)))] ⟨rfl, rfl, rfl, trivial⟩ ?_
              exact z_Vm (ihm (p + 1) A1 (by omega) hs3 hw hx1 hr1) (fun o s' A' hh => hh.pre e2.sx)
          · have hh : p_here Rs x p = some (p_rule R.2.2 (p_match R.2.2 x R.1 p (fun _ => 0)).2 R.2.1 x p) := by
              unfold p_here
              rw [if_neg b1, b2]
              rfl
            have hs3 : p_step Rs x = some (p_rule R.2.2 (p_match R.2.2 x R.1 p (fun _ => 0)).2 R.2.1 x p) := by
              rw [hs2, hh]
              rfl
            have hyw := p_here_wf hw hR hp hh
            have hkl := l_gi' b3
            have hr8 := hr.1
            have hm1 := (p_first_mem b2).2
            have hRk := hR R (p_first_mem b2).1
            refine z_istore_n d_Md_normalise_27 rfl (by decide) ?_
            refine z_iload_n d_Md_normalise_28 rfl rfl ?_
            refine z_bipush (v := (-2)) d_Md_normalise_29 (by decide +kernel) ?_
            refine z_icmp_ne (tgt := 40) d_Md_normalise_31 rfl (fun c31 => ?_) (fun c31 => ?_)
            · refine z_iload_n d_Md_normalise_40 rfl rfl ?_
              refine z_bipush (v := nI 50) d_Md_normalise_41 (by decide +kernel) ?_
              refine z_icmp_ne (tgt := 54) d_Md_normalise_43 rfl (fun c43 => ?_) (fun c43 => ?_)
              · rw [nI_eq (by omega) (by omega)] at c43
                omega
              · rw [nI_eq (by omega) (by omega)] at c43
                refine z_aload_n d_Md_normalise_46 rfl rfl ?_
                refine z_iconst (v := nI 1) d_Md_normalise_47 (by decide) ?_
                refine z_mp HG d_Md_normalise_48 (L_Md_45 HG) (by decide) rfl rfl rfl rfl ?_
                refine z_goto (tgt := 65) d_Md_normalise_51 rfl ?_
                refine z_goto (tgt := 4) d_Md_normalise_65 rfl ?_
                refine z_fg [(0, .ref q), (1, .int (nI st)), (2, .int (nI p))] ⟨rfl, rfl, rfl, trivial⟩ ?_
                refine z_Vm (l_Md_nx (s0 := s1) (A0 := A) HG hx1 (va_up_self _ _ _) rfl e2.sx (by omega) (by omega)) (fun o s' A' hh => ?_)
                rw [p_norm_go hs3]
                split
                · exact hh
                · exact hh
            · exact absurd c31 (nI_m2 (by omega))
  | succ c ih =>
    intro st hst x m
    induction m with
    | zero =>
      intro p A hm hs hw hx hr
      have h40 := hx.len
      rw [p_norm_no hs]
      refine z_iload_n d_Md_normalise_4 rfl rfl ?_
      refine z_aload_n d_Md_normalise_5 rfl rfl ?_
      refine z_mg HG d_Md_normalise_6 (L_Md_13 HG) (by decide) rfl ?_
      refine z_bipush (v := nI 40) d_Md_normalise_9 (by decide +kernel) ?_
      refine z_ml HG 2 d_Md_normalise_11 (by decide) (show _ < 43 by omega) hx.1 ?_
      refine z_icmp_ge (tgt := 68) d_Md_normalise_12 rfl (fun c12 => ?_) (fun c12 => ?_)
      · rw [nI_leI (by omega) (by omega)] at c12
        refine z_iload_n d_Md_normalise_68 rfl rfl ?_
        exact z_ireturn d_Md_normalise_69 rfl rfl ⟨_, _, _, rfl, rfl, rfl, rfl, m_sx.rf, hx⟩
      · rw [nI_leI (by omega) (by omega)] at c12
        omega
    | succ m ihm =>
      intro p A hm hs hw hx hr
      have h40 := hx.len
      have hp : p < x.length := by omega
      have hs2 : p_step Rs x = (p_here Rs x p).or (p_scan Rs x m (p + 1)) := hs
      refine z_iload_n d_Md_normalise_4 rfl rfl ?_
      refine z_aload_n d_Md_normalise_5 rfl rfl ?_
      refine z_mg HG d_Md_normalise_6 (L_Md_13 HG) (by decide) rfl ?_
      refine z_bipush (v := nI 40) d_Md_normalise_9 (by decide +kernel) ?_
      refine z_ml HG 2 d_Md_normalise_11 (by decide) (show _ < 43 by omega) hx.1 ?_
      refine z_icmp_ge (tgt := 68) d_Md_normalise_12 rfl (fun c12 => ?_) (fun c12 => ?_)
      · rw [nI_leI (by omega) (by omega)] at c12
        omega
      · rw [nI_leI (by omega) (by omega)] at c12
        refine z_aload_n d_Md_normalise_15 rfl rfl ?_
        refine z_mg HG d_Md_normalise_16 (L_Md_45 HG) (by decide) rfl ?_
        refine z_eqi h10 ?_
        refine z_if_ne (tgt := 68) d_Md_normalise_19 rfl (fun c19 => ?_) (fun c19 => ?_)
        · rw [← nI_0, nI_eq (by omega) (by omega)] at c19
          omega
        · rw [← nI_0, nI_eq (by omega) (by omega)] at c19
          refine z_aload_n d_Md_normalise_22 rfl rfl ?_
          refine z_iload_n d_Md_normalise_23 rfl rfl ?_
          refine z_mc (as := [.int (nI p)]) (dY := d + 3) HG d_Md_normalise_24 rfl (by omega) (Y_Md_93 HG) rfl rfl (Nat.le_of_ble_eq_true rfl) (c_Md_redex HG hp hw hR h8 hx hr) (fun v1 s1 A1 hp1 => ?_)
          obtain ⟨rfl, e2, rv, rfl, e4⟩ := hp1
          have hx1 := e2.row hx
          have hr1 := hr.sx e2.sx
          rcases e4 with ⟨rfl, b1, b2⟩ | ⟨rfl, b1, b2⟩ | ⟨k, R, rfl, b1, b2, b3, b4⟩
          · have hh : p_here Rs x p = some (p_beta x p) := by
              unfold p_here
              rw [if_pos ⟨b1, b2⟩]
            have hs3 : p_step Rs x = some (p_beta x p) := by
              rw [hs2, hh]
              rfl
            have hyw := p_here_wf hw hR hp hh
            refine z_istore_n d_Md_normalise_27 rfl (by decide) ?_
            refine z_iload_n d_Md_normalise_28 rfl rfl ?_
            refine z_bipush (v := (-2)) d_Md_normalise_29 (by decide +kernel) ?_
            refine z_icmp_ne (tgt := 40) d_Md_normalise_31 rfl (fun c31 => ?_) (fun c31 => ?_)
            · refine z_iload_n d_Md_normalise_40 rfl rfl ?_
              refine z_bipush (v := nI 50) d_Md_normalise_41 (by decide +kernel) ?_
              refine z_icmp_ne (tgt := 54) d_Md_normalise_43 rfl (fun c43 => ?_) (fun c43 => ?_)
              · rw [nI_eq (by omega) (by omega)] at c43
                refine z_aload_n d_Md_normalise_54 rfl rfl ?_
                refine z_iload_n d_Md_normalise_55 rfl rfl ?_
                refine z_iload_n d_Md_normalise_56 rfl rfl ?_
                refine z_mc (as := [.int (nI p), .int ((-1))]) (dY := d + 3) HG d_Md_normalise_57 rfl (by omega) (Y_Md_97 HG) rfl rfl (Nat.le_of_ble_eq_true rfl) (c_Md_stepB HG hn hw hx1 b1 b2) (fun v5 s5 A5 hp5 => ?_)
                obtain ⟨rfl, u1, u2, u3⟩ := hp5
                refine z_iinc (v := nI (st + 1)) d_Md_normalise_60 rfl (i_inc _) (by decide) ?_
                refine z_iconst (v := nI 0) d_Md_normalise_63 (by decide) ?_
                refine z_istore_n d_Md_normalise_64 rfl (by decide) ?_
                refine z_goto (tgt := 4) d_Md_normalise_65 rfl ?_
                refine z_fg [(0, .ref q), (1, .int (nI (st + 1))), (2, .int (nI 0))] ⟨rfl, rfl, rfl, trivial⟩ ?_
                rw [p_norm_go hs3]
                split
                · rename_i hy
                  rw [m_tl_no _ (decide_eq_false (by omega))] at u1
                  subst u1
                  rw [l_t40 hy] at u3
                  exact z_Vm (ih (st + 1) (by omega) _ _ 0 A5 (Nat.zero_add _) rfl hyw u3 (hr1.sx u2)) (fun o s' A' hh => (hh.pre (e2.sx.tr u2)).up)
                · rename_i hy
                  unfold m_tl at u1
                  rw [if_pos (decide_eq_true (by omega))] at u1
                  exact z_Vm (l_Md_nx (s0 := s1) (A0 := A) HG u3 (by rw [u1]; exact va_up_self _ _ _) u1 (e2.sx.tr u2) (by omega) (by omega)) (fun o s' A' hh => hh)
              · rw [nI_eq (by omega) (by omega)] at c43
                omega
            · exact absurd c31 (by decide)
          · have hh : p_here Rs x p = none := by
              unfold p_here
              rw [if_neg b1, b2]
              rfl
            have hs3 : p_step Rs x = p_scan Rs x m (p + 1) := by
              rw [hs2, hh]
              rfl
            refine z_istore_n d_Md_normalise_27 rfl (by decide) ?_
            refine z_iload_n d_Md_normalise_28 rfl rfl ?_
            refine z_bipush (v := (-2)) d_Md_normalise_29 (by decide +kernel) ?_
            refine z_icmp_ne (tgt := 40) d_Md_normalise_31 rfl (fun c31 => ?_) (fun c31 => ?_)
            · exact absurd rfl c31
            · refine z_iinc (v := nI (p + 1)) d_Md_normalise_34 rfl (i_inc _) (by decide) ?_
              refine z_goto (tgt := 65) d_Md_normalise_37 rfl ?_
              refine z_goto (tgt := 4) d_Md_normalise_65 rfl ?_
              refine z_fg [(0, .ref q), (1, .int (nI st)), (2, .int (nI (p + 1)))] ⟨rfl, rfl, rfl, trivial⟩ ?_
              exact z_Vm (ihm (p + 1) A1 (by omega) hs3 hw hx1 hr1) (fun o s' A' hh => hh.pre e2.sx)
          · have hh : p_here Rs x p = some (p_rule R.2.2 (p_match R.2.2 x R.1 p (fun _ => 0)).2 R.2.1 x p) := by
              unfold p_here
              rw [if_neg b1, b2]
              rfl
            have hs3 : p_step Rs x = some (p_rule R.2.2 (p_match R.2.2 x R.1 p (fun _ => 0)).2 R.2.1 x p) := by
              rw [hs2, hh]
              rfl
            have hyw := p_here_wf hw hR hp hh
            have hkl := l_gi' b3
            have hr8 := hr.1
            have hm1 := (p_first_mem b2).2
            have hRk := hR R (p_first_mem b2).1
            refine z_istore_n d_Md_normalise_27 rfl (by decide) ?_
            refine z_iload_n d_Md_normalise_28 rfl rfl ?_
            refine z_bipush (v := (-2)) d_Md_normalise_29 (by decide +kernel) ?_
            refine z_icmp_ne (tgt := 40) d_Md_normalise_31 rfl (fun c31 => ?_) (fun c31 => ?_)
            · refine z_iload_n d_Md_normalise_40 rfl rfl ?_
              refine z_bipush (v := nI 50) d_Md_normalise_41 (by decide +kernel) ?_
              refine z_icmp_ne (tgt := 54) d_Md_normalise_43 rfl (fun c43 => ?_) (fun c43 => ?_)
              · rw [nI_eq (by omega) (by omega)] at c43
                refine z_aload_n d_Md_normalise_54 rfl rfl ?_
                refine z_iload_n d_Md_normalise_55 rfl rfl ?_
                refine z_iload_n d_Md_normalise_56 rfl rfl ?_
                refine z_mc (as := [.int (nI p), .int (nI k)]) (dY := d + 3) HG d_Md_normalise_57 rfl (by omega) (Y_Md_97 HG) rfl rfl (Nat.le_of_ble_eq_true rfl) (c_Md_stepR HG (by omega) hn hp hw hRk hm1 hx1 (hr1.2 k R b3).2 b4) (fun v5 s5 A5 hp5 => ?_)
                obtain ⟨rfl, u1, u2, u3⟩ := hp5
                refine z_iinc (v := nI (st + 1)) d_Md_normalise_60 rfl (i_inc _) (by decide) ?_
                refine z_iconst (v := nI 0) d_Md_normalise_63 (by decide) ?_
                refine z_istore_n d_Md_normalise_64 rfl (by decide) ?_
                refine z_goto (tgt := 4) d_Md_normalise_65 rfl ?_
                refine z_fg [(0, .ref q), (1, .int (nI (st + 1))), (2, .int (nI 0))] ⟨rfl, rfl, rfl, trivial⟩ ?_
                rw [p_norm_go hs3]
                split
                · rename_i hy
                  rw [m_tl_no _ (decide_eq_false (by omega))] at u1
                  subst u1
                  rw [l_t40 hy] at u3
                  exact z_Vm (ih (st + 1) (by omega) _ _ 0 A5 (Nat.zero_add _) rfl hyw u3 (hr1.sx u2)) (fun o s' A' hh => (hh.pre (e2.sx.tr u2)).up)
                · rename_i hy
                  unfold m_tl at u1
                  rw [if_pos (decide_eq_true (by omega))] at u1
                  exact z_Vm (l_Md_nx (s0 := s1) (A0 := A) HG u3 (by rw [u1]; exact va_up_self _ _ _) u1 (e2.sx.tr u2) (by omega) (by omega)) (fun o s' A' hh => hh)
              · rw [nI_eq (by omega) (by omega)] at c43
                omega
            · exact absurd c31 (nI_m2 (by omega))
theorem c_Md_normalOf (HG : z_ok G) {r : Nat} (hr40 : r < 40) (hn : n ≤ 4) (hR : p_rsok Rs) (h8 : s 8 = nI Rs.length) (h10 : s 10 = nI 0) (hw : p_wf n [0] x) (hx : mrow A r x) (hr : m_rs A Rs) : z_C G m_Md_normalOf (d + 5) [.ref q, .int (nI r)] (md G h q s A) (m_post G h q (m_nq 0 s A (p_norm Rs 51 x))) := by
  refine z_C.of (Nat.le_of_ble_eq_true rfl) ?_
  have hN : ∀ s1 A1, s1 = s → m_wr A A1 40 x → z_C G m_Md_normalise (d + 4) [.ref q] (md G h q s1 A1) (m_post G h q (m_nq 0 s1 A1 (p_norm Rs 51 x))) := by
    intro s1 A1 e1 k1
    subst e1
    refine z_C.of (Nat.le_of_ble_eq_true rfl) ?_
    refine z_iconst (v := nI 0) d_Md_normalise_0 (by decide) ?_
    refine z_istore_n d_Md_normalise_1 rfl (by decide) ?_
    refine z_iconst (v := nI 0) d_Md_normalise_2 (by decide) ?_
    refine z_istore_n d_Md_normalise_3 rfl (by decide) ?_
    refine z_fg [(0, .ref q), (1, .int (nI 0)), (2, .int (nI 0))] ⟨rfl, rfl, rfl, trivial⟩ ?_
    exact l_Md_norm HG hn hR h8 h10 50 0 rfl x x.length 0 A1 (Nat.zero_add _) rfl hw k1.row (hr.sx (k1.sx (Or.inl rfl)))
  refine z_aload_n d_Md_normalOf_0 rfl rfl ?_
  refine z_iload_n d_Md_normalOf_1 rfl rfl ?_
  refine z_bipush (v := nI 40) d_Md_normalOf_2 (by decide +kernel) ?_
  refine z_mc (as := [.int (nI r), .int (nI 40)]) (dY := d + 4) HG d_Md_normalOf_4 rfl (by omega) (Y_Md_90 HG) rfl rfl (Nat.le_of_ble_eq_true rfl) (c_Md_copy (d := d + 2) HG (by omega) (by omega) (by omega) hx) (fun v1 s1 A1 hp1 => ?_)
  obtain ⟨rfl, e1, hp1⟩ := hp1
  refine z_aload_n d_Md_normalOf_7 rfl rfl ?_
  refine z_mc (as := []) (dY := d + 4) HG d_Md_normalOf_8 rfl (by omega) (Y_Md_100 HG) rfl rfl (Nat.le_of_ble_eq_true rfl) (hN s1 A1 e1 hp1) (fun v2 s2 A2 hp2 => ?_)
  subst e1
  have hv : ∃ v, v2 = some (.int v) := by
    cases hz : p_norm Rs 51 x with
    | none => rw [hz] at hp2; exact hp2.1
    | some z => rw [hz] at hp2; exact ⟨_, hp2.1⟩
  obtain ⟨v, rfl⟩ := hv
  exact z_ireturn d_Md_normalOf_11 rfl rfl ⟨_, _, _, rfl, rfl, hp2.pre (hp1.sx (Or.inl rfl))⟩
end MN
