/-! declare, normal, same -/
theorem ksAt.push {G : z_G} {h h' : z_H} {o : Nat} {c : List Nat × Bool} {ks : List (List Nat × Bool)} {fd : Nat → Int32} (H : ksAt G h o ks) (hl : ks.length < 8) (hd : h.2.2 (o + 4) = some (.inl (G.ca 2, 8, .inl fd))) (hd' : h'.2.2 (o + 4) = some (.inl (G.ca 2, 8, .inl (upd fd ks.length (if c.2 = true then nI 1 else nI 0))))) (k : ∀ y, o + 102 ≤ y ∧ y ≤ o + 117 → y < k_ku o ks.length ∨ k_ku o ks.length + 1 < y → h'.2.2 y = h.2.2 y) (HC : rowL G h' (k_ku o ks.length) (some c.1)) : ksAt G h' o (ks ++ [c]) := by
  obtain ⟨⟨h1, h2⟩, fd0, h3, h4⟩ := H
  rw [hd] at h3
  cases h3
  refine ⟨⟨by rw [List.length_append]; exact hl, fun j hj => ?_⟩, _, hd', fun j c' hj => ?_⟩
  · by_cases e : j = ks.length
    · subst e
      rw [List.getElem?_append_right (Nat.le_refl _), Nat.sub_self]
      exact HC
    · have h5 := (h2 j hj).keep (h' := h') (k _ (by unfold k_ku; omega) (by unfold k_ku; omega)) (k _ (by unfold k_ku; omega) (by unfold k_ku; omega))
      by_cases h6 : j < ks.length
      · rw [List.getElem?_append_left h6]
        exact h5
      · rw [List.getElem?_eq_none (by rw [List.length_append, List.length_singleton]; omega)]
        exact h5.any
  · by_cases e : j = ks.length
    · subst e
      rw [List.getElem?_append_right (Nat.le_refl _), Nat.sub_self] at hj
      cases hj
      exact pk_us
    · have hjl := l_gi' hj
      rw [List.length_append, List.length_singleton] at hjl
      rw [List.getElem?_append_left (by omega)] at hj
      rw [pk_un e]
      exact h4 j c' hj
section KD
variable {G : z_G} {h : z_H} {d o : Nat} {K : pK}
def k_declare (K : pK) (b : Bool) : String ⊕ (Option Value × pK) := match K with
  | (J :: js, [], ks, Rs) => if J.1 = 0 then (if ks.length = 8 then .inl z_UOE else if J.2.2 = [0] ∨ J.2.2 = [1] then .inr (some (.int (nI ks.length)), (js, [], ks ++ [(J.2.1, b)], Rs)) else .inl z_IAE) else .inl z_ISE
  | _ => .inl z_ISE
theorem vp_nar_b (b : Bool) : vp_nar .boolean (if b = true then nI 1 else nI 0) = if b = true then nI 1 else nI 0 := by
  cases b <;> decide +kernel
theorem c_TK_declare (HG : z_ok G) (hrm : z_rm G h) (H : KAt G h o K) (P : pok K) (b : Bool) : z_C G m_TK_declare (d + 3) [.ref o, .int (if b = true then nI 1 else nI 0)] h (tk_post G o K h (k_declare K b)) := by
  obtain ⟨l1, l2, l3⟩ := H.len
  have hP4 := pok.e4 H P
  refine z_C.of (Nat.le_of_ble_eq_true rfl) ?_
  refine z_aload_n d_TK_declare_0 rfl rfl ?_
  refine z_getf (L_TK_25K HG) (by decide) (L_TK_25 HG) d_TK_declare_1 H.2.1 (by rfl) ?_
  obtain ⟨js, cs, ks, Rs⟩ := K
  cases cs with
  | cons c cs =>
    have l2' : cs.length + 1 ≤ 4 := l2
    have eK : k_declare (js, c :: cs, ks, Rs) b = .inl z_ISE := by cases js <;> rfl
    rw [eK]
    refine z_if_le (tgt := 15) d_TK_declare_4 rfl (fun c1 => ?_) (fun c1 => ?_)
    · rw [← nI_0, nI_leI (by simp; omega) (by omega)] at c1
      simp at c1
    · exact z_throw d_TK_declare_7 d_TK_declare_10 d_TK_declare_11 d_TK_declare_14 rfl (by decide +kernel) (t_TK_146 HG) hrm.1 hrm.2 (by decide) ⟨rfl, h, rfl, H, k_ft.rf⟩
  | nil =>
    refine z_if_le (tgt := 15) d_TK_declare_4 rfl (fun c1 => ?_) (fun c1 => absurd (nI_le (Nat.le_refl 0) (by omega)) c1)
    refine z_aload_n d_TK_declare_15 rfl rfl ?_
    refine z_iconst (v := nI 0) d_TK_declare_16 (by decide) ?_
    refine z_callVg (as := [.int (nI 0)]) (dY := d + 2) d_TK_declare_17 rfl (by omega) (Y_TK_99 HG) rfl H.2.1 (cl_TK HG) (Nat.le_of_ble_eq_true rfl) (c_TK_present HG hrm H.2.1 H.1 H.2.2.1 hP4 l2 (k := 0) (by omega)) (fun hc h' hh => ?_) (fun hc h' hh => ?_)
    · subst hh
      cases js with
      | nil =>
        obtain ⟨J, e, -⟩ := hc
        cases e
      | cons J js =>
        rw [p_pres0] at hc
        have hc : J.1 = 0 := hc
        have l1' : js.length + 1 ≤ 6 := l1
        have l3' : ks.length ≤ 8 := l3
        have eK : k_declare (J :: js, [], ks, Rs) b = if J.1 = 0 then (if ks.length = 8 then .inl z_UOE else if J.2.2 = [0] ∨ J.2.2 = [1] then .inr (some (.int (nI ks.length)), (js, [], ks ++ [(J.2.1, b)], Rs)) else .inl z_IAE) else .inl z_ISE := rfl
        rw [eK, if_pos hc]
        have hJ : jdAt G h' (k_ju o js.length) (some J) := H.2.2.1.get (k := 0) (J := J) rfl
        have ho : h'.2.2 o = some (k_tk o (js.length + 1) 0 ks.length) := H.2.1
        have hu : o + 64 ≤ k_ju o js.length ∧ k_ju o js.length + 4 ≤ o + 93 := by unfold k_ju; omega
        show z_V G m_TK_declare (d + 3) 20 _ (.ref (k_ju o js.length) :: []) h' _
        generalize k_ju o js.length = u at *
        obtain ⟨ft, rt, hlt⟩ := rowL.get hJ.2.1
        refine z_astore_n d_TK_declare_20 rfl (by decide) ?_
        refine z_aload_n d_TK_declare_21 rfl rfl ?_
        refine z_getf (L_TK_35K HG) (by decide) (L_TK_35 HG) d_TK_declare_22 ho (by rfl) ?_
        refine z_bipush (v := nI 8) d_TK_declare_25 (by decide +kernel) ?_
        refine z_icmp_ne (tgt := 38) d_TK_declare_27 rfl (fun c2 => ?_) (fun c2 => ?_)
        · rw [nI_eq (by omega) (by omega)] at c2
          rw [if_neg c2]
          refine z_aload_n d_TK_declare_38 rfl rfl ?_
          refine z_callS1r (dY := d + 1) d_TK_declare_39 rfl (by omega) (Y_TK_142 HG) (Nat.le_of_ble_eq_true rfl) (c_TK_hasSort HG hJ) ?_
          by_cases hk : J.2.2 = [0] ∨ J.2.2 = [1]
          · rw [if_pos hk, if_pos hk]
            refine z_if_ne (tgt := 53) d_TK_declare_42 rfl (fun c3 => ?_) (fun c3 => absurd c3 (by decide))
            obtain ⟨-, -, f, h2, hf⟩ := H.1
            obtain ⟨n0, f0, rc, -⟩ := H.2.2.2.2.1.1.2 ks.length (by omega)
            obtain ⟨fd, hfd, -⟩ := H.2.2.2.2.1.2
            have hw : o + 102 ≤ k_ku o ks.length ∧ k_ku o ks.length + 1 ≤ o + 117 := by unfold k_ku; omega
            have hfc := hf ks.length (by omega)
            have hkp := fun (h1 : z_H) => ksAt.push (h' := h1) (c := (J.2.1, b)) H.2.2.2.2.1 (by show ks.length < 8; omega) hfd
            change ∀ h1 : z_H, _ → (∀ y, _ → y < k_ku o ks.length ∨ k_ku o ks.length + 1 < y → _) → rowL G h1 (k_ku o ks.length) _ → ksAt G h1 o (ks ++ [(J.2.1, b)]) at hkp
            change rowAt G h' (k_ku o ks.length) n0 f0 at rc
            generalize k_ku o ks.length = w at *
            refine z_aload_n d_TK_declare_53 rfl rfl ?_
            refine z_getf (L_TK_28K HG) (by decide) (L_TK_28 HG) d_TK_declare_54 ho (by rfl) ?_
            refine z_aload_n d_TK_declare_57 rfl rfl ?_
            refine z_getf (L_TK_35K HG) (by decide) (L_TK_35 HG) d_TK_declare_58 ho (by rfl) ?_
            refine z_aald (x := w) d_TK_declare_61 (ty3 HG) h2 (pk_in ks.length 8 (by omega)) (by rw [nI_clamp (by omega)]; exact hfc) ?_
            refine z_aload_n d_TK_declare_62 rfl rfl ?_
            refine z_getf (L_TK_64K HG) (by decide) (L_TK_64 HG) d_TK_declare_63 hJ.ob (by rfl) ?_
            refine z_callV1v (dY := d) d_TK_declare_66 rfl (by omega) (Y_TK_81 HG) rc.1 (cl_Row HG) (Nat.le_of_ble_eq_true rfl) (c_Row_copy HG rc rt hlt (by omega) (by omega) (by omega)) ?_
            have rcc := rset_at G h' w J.2.1.length (k_app f0 0 J.2.1)
            have kA : ∀ y, y < w ∨ w + 1 < y → (rset G h' w J.2.1.length (k_app f0 0 J.2.1)).2.2 y = h'.2.2 y := fun y hy => rset_out hy
            have kft : k_ft o h' (rset G h' w J.2.1.length (k_app f0 0 J.2.1)) := k_ft.rset (by omega)
            generalize rset G h' w J.2.1.length (k_app f0 0 J.2.1) = h1 at rcc kA kft ⊢
            have ho1 := (kA o (by omega)).trans ho
            refine z_aload_n d_TK_declare_69 rfl rfl ?_
            refine z_getf (L_TK_31K HG) (by decide) (L_TK_31 HG) d_TK_declare_70 ho1 (by rfl) ?_
            refine z_aload_n d_TK_declare_73 rfl rfl ?_
            refine z_getf (L_TK_35K HG) (by decide) (L_TK_35 HG) d_TK_declare_74 ho1 (by rfl) ?_
            refine z_iload_n d_TK_declare_77 rfl rfl ?_
            refine z_zast d_TK_declare_78 (ty2 HG) ((kA (o + 4) (by omega)).trans hfd) (pk_in ks.length 8 (by omega)) ?_
            rw [nI_clamp (by omega), vp_nar_b]
            generalize hv4 : (Sum.inl (G.ca 2, 8, Sum.inl (upd fd ks.length (if b = true then nI 1 else nI 0))) : va_E) = v4
            have hd4 := z_set_at h1 (o + 4) v4
            have kB : ∀ y, y ≠ o + 4 → (z_set h1 (o + 4) v4).2.2 y = h1.2.2 y := fun y hy => z_set_ne _ _ hy
            have kft2 : k_ft o h' (z_set h1 (o + 4) v4) := kft.tr (k_ft.set _ (by omega))
            have rcd := z_set_row (a := o + 4) v4 rcc (by omega) (by omega)
            generalize z_set h1 (o + 4) v4 = h3 at hd4 kB kft2 rcd ⊢
            have ho3 := (kB o (by omega)).trans ho1
            refine z_aload_n d_TK_declare_79 rfl rfl ?_
            refine z_dup d_TK_declare_80 rfl ?_
            refine z_getf (L_TK_35K HG) (by decide) (L_TK_35 HG) d_TK_declare_81 ho3 (by rfl) ?_
            refine z_iconst (v := nI 1) d_TK_declare_84 (by decide) ?_
            refine z_iadd d_TK_declare_85 ?_
            rw [nI_add]
            refine z_putf (L_TK_35K HG) (by decide) (L_TK_35 HG) rfl d_TK_declare_86 ho3 rfl rfl (Nat.le_of_ble_eq_true rfl) ?_
            have ho4 := z_set_at h3 o (k_tk o (js.length + 1) 0 (ks.length + 1))
            show z_V G m_TK_declare (d + 3) 89 _ _ (z_set h3 o (k_tk o (js.length + 1) 0 (ks.length + 1))) _
            refine z_aload_n d_TK_declare_89 rfl rfl ?_
            refine z_dup d_TK_declare_90 rfl ?_
            refine z_getf (L_TK_15K HG) (by decide) (L_TK_15 HG) d_TK_declare_91 ho4 (by rfl) ?_
            refine z_iconst (v := nI 1) d_TK_declare_94 (by decide) ?_
            refine z_isub d_TK_declare_95 ?_
            rw [pk_sub (by omega)]
            refine z_putf (L_TK_15K HG) (by decide) (L_TK_15 HG) rfl d_TK_declare_96 ho4 rfl rfl (Nat.le_of_ble_eq_true rfl) ?_
            show z_V G m_TK_declare (d + 3) 99 _ _ (z_set (z_set h3 o (k_tk o (js.length + 1) 0 (ks.length + 1))) o (k_tk o js.length 0 (ks.length + 1))) _
            rw [z_set_set]
            have ho5 := z_set_at h3 o (k_tk o js.length 0 (ks.length + 1))
            refine z_aload_n d_TK_declare_99 rfl rfl ?_
            refine z_getf (L_TK_35K HG) (by decide) (L_TK_35 HG) d_TK_declare_100 ho5 (by rfl) ?_
            refine z_iconst (v := nI 1) d_TK_declare_103 (by decide) ?_
            refine z_isub d_TK_declare_104 ?_
            rw [pk_sub (by omega)]
            obtain ⟨b1, -, b3, b4, b5, b6, ⟨x, b7⟩, b8⟩ := H
            have kC : ∀ y, y ≠ o → y ≠ o + 4 → y < w ∨ w + 1 < y → (z_set h3 o (k_tk o js.length 0 (ks.length + 1))).2.2 y = h'.2.2 y := fun y y1 y2 y3 => (z_set_ne _ _ y1).trans ((kB y y2).trans (kA y y3))
            refine z_ireturn d_TK_declare_105 rfl rfl ⟨rfl, ⟨b1.keep (fun y hy => kC y (by omega) (by omega) (by omega)), ?_, b3.pop.keep (fun y hy => kC y (by omega) (by omega) (by omega)), b4.keep (fun y hy => kC y (by omega) (by omega) (by omega)), hkp _ ?_ (fun y y1 y2 => kC y (by omega) (by omega) (by omega)) (rowL.mk (z_set_row _ rcd (by omega) (by omega)) (rl_copy hlt)), b6.keep (fun y hy => kC y (by omega) (by omega) (by omega)), ⟨x, b7.keep (fun y hy => kC y (by omega) (by omega) (by omega))⟩, b8.keep (fun y hy => kC y (by omega) (by omega) (by omega))⟩, kft2.tr (k_ft.set _ (by omega))⟩
            · rw [show (ks ++ [(J.2.1, b)]).length = ks.length + 1 by simp]
              exact ho5
            · refine (z_set_ne _ _ (by omega)).trans (hd4.trans ?_)
              rw [← hv4]
          · rw [if_neg hk, if_neg hk]
            refine z_if_ne (tgt := 53) d_TK_declare_42 rfl (fun c3 => absurd nI_0 c3) (fun c3 => ?_)
            exact z_throw d_TK_declare_45 d_TK_declare_48 d_TK_declare_49 d_TK_declare_52 rfl (by decide +kernel) (t_TK_111 HG) hrm.1 hrm.2 (by decide) ⟨rfl, h', rfl, H, k_ft.rf⟩
        · rw [nI_eq (by omega) (by omega)] at c2
          rw [if_pos c2]
          exact z_throw d_TK_declare_30 d_TK_declare_33 d_TK_declare_34 d_TK_declare_37 rfl (by decide +kernel) (t_TK_129 HG) hrm.1 hrm.2 (by decide) ⟨rfl, h', rfl, H, k_ft.rf⟩
    · have eK : k_declare (js, [], ks, Rs) b = .inl z_ISE := by
        cases js with
        | nil => rfl
        | cons J js =>
          rw [p_pres0] at hc
          have hc : ¬ J.1 = 0 := hc
          show (if J.1 = 0 then _ else _) = _
          rw [if_neg hc]
      rw [eK]
      exact ⟨rfl, h, hh, H, k_ft.rf⟩
end KD
