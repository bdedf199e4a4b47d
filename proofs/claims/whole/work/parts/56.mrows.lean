/-! the reference's methods on rows -/
theorem b_eq {P : Prop} [Decidable P] (c : (if P then nI 1 else nI 0) = 0) : ¬ P := by
  intro hh
  rw [if_pos hh] at c
  exact absurd c (by decide)
theorem b_ne {P : Prop} [Decidable P] (c : ¬ (if P then nI 1 else nI 0) = 0) : P := by
  apply Classical.byContradiction
  intro hh
  rw [if_neg hh] at c
  exact c nI_0
section MD
variable {G : z_G} {h : z_H} {q d r p n : Nat} {s : Nat → Int32} {A : Nat → Nat → Int32} {l l' : List Nat}
theorem c_Md_at (HG : z_ok G) {i : Nat} {x : Int32} (hi : 40 * r + i < 1720) (hx : A 1 (40 * r + i) = x) : z_C G m_Md_at d [.ref q, .int (nI r), .int (nI i)] (md G h q s A) (z_rq (some (.int x)) (md G h q s A)) := by
  refine z_C.of (Nat.le_of_ble_eq_true rfl) ?_
  refine z_aload_n d_Md_at_0 rfl rfl ?_
  refine z_mg HG d_Md_at_1 (L_Md_7 HG) (by decide) rfl ?_
  refine z_bipush (v := nI 40) d_Md_at_4 (by decide +kernel) ?_
  refine z_iload_n d_Md_at_6 rfl rfl ?_
  refine z_imul d_Md_at_7 ?_
  refine z_eqi (pk_mul _ _) ?_
  refine z_iload_n d_Md_at_8 rfl rfl ?_
  refine z_iadd d_Md_at_9 ?_
  refine z_eqi (nI_add _ _) ?_
  refine z_ml HG 1 d_Md_at_10 (by decide) (show _ < 1720 by omega) hx ?_
  exact z_ireturn d_Md_at_11 rfl rfl ⟨rfl, rfl⟩
theorem c_Md_add (HG : z_ok G) {v : Nat} (hr : r < 43) (hl : mrow A r l) (hv : v < 1000) : z_C G m_Md_add d [.ref q, .int (nI r), .int (nI v)] (md G h q s A) (m_post G h q (fun o s' A' => o = none ∧ m_ad r l [v] s A s' A')) := by
  have h40 := hl.len
  refine z_C.of (Nat.le_of_ble_eq_true rfl) ?_
  refine z_aload_n d_Md_add_0 rfl rfl ?_
  refine z_mg HG d_Md_add_1 (L_Md_13 HG) (by decide) rfl ?_
  refine z_iload_n d_Md_add_4 rfl rfl ?_
  refine z_ml HG 2 d_Md_add_5 (by decide) (show _ < 43 by omega) hl.1 ?_
  refine z_bipush (v := nI 40) d_Md_add_6 (by decide +kernel) ?_
  refine z_icmp_ne (tgt := 17) d_Md_add_8 rfl (fun c8 => ?_) (fun c8 => ?_)
  · rw [nI_eq (by omega) (by omega)] at c8
    refine z_aload_n d_Md_add_17 rfl rfl ?_
    refine z_mg HG d_Md_add_18 (L_Md_7 HG) (by decide) rfl ?_
    refine z_bipush (v := nI 40) d_Md_add_21 (by decide +kernel) ?_
    refine z_iload_n d_Md_add_23 rfl rfl ?_
    refine z_imul d_Md_add_24 ?_
    refine z_eqi (pk_mul _ _) ?_
    refine z_aload_n d_Md_add_25 rfl rfl ?_
    refine z_mg HG d_Md_add_26 (L_Md_13 HG) (by decide) rfl ?_
    refine z_iload_n d_Md_add_29 rfl rfl ?_
    refine z_ml HG 2 d_Md_add_30 (by decide) (show _ < 43 by omega) hl.1 ?_
    refine z_iadd d_Md_add_31 ?_
    refine z_eqi (nI_add _ _) ?_
    refine z_iload_n d_Md_add_32 rfl rfl ?_
    refine z_ms HG 1 d_Md_add_33 (by decide) (show _ < 1720 by omega) ?_
    refine z_aload_n d_Md_add_34 rfl rfl ?_
    refine z_mg HG d_Md_add_35 (L_Md_13 HG) (by decide) rfl ?_
    refine z_iload_n d_Md_add_38 rfl rfl ?_
    refine z_dup2 d_Md_add_39 rfl rfl ?_
    refine z_ml HG 2 d_Md_add_40 (by decide) (show _ < 43 by omega) ((congrFun (va_up_ne _ _ (by decide)) _).trans hl.1) ?_
    refine z_iconst (v := nI 1) d_Md_add_41 (by decide) ?_
    refine z_iadd d_Md_add_42 ?_
    refine z_eqi (nI_add _ _) ?_
    refine z_ms HG 2 d_Md_add_43 (by decide) (show _ < 43 by omega) ?_
    rw [show va_up A 1 (upd (A 1) (40 * r + l.length) (nI v)) 2 = A 2 from va_up_ne _ _ (by decide)]
    exact z_return d_Md_add_44 rfl ⟨_, _, _, rfl, rfl, rfl, m_ad.one hl (by omega) hv⟩
  · rw [nI_eq (by omega) (by omega)] at c8
    refine z_aload_n d_Md_add_11 rfl rfl ?_
    refine z_iconst (v := nI 1) d_Md_add_12 (by decide) ?_
    refine z_mp HG d_Md_add_13 (L_Md_45 HG) (by decide) rfl rfl rfl rfl ?_
    exact z_return d_Md_add_16 rfl ⟨_, _, _, rfl, rfl, rfl, m_ad.full hl (by omega)⟩
theorem l_Md_addRow (HG : z_ok G) {r2 : Nat} (hr : r < 43) (hr2 : r2 < 43) (hne : r2 ≠ r) : ∀ (c i : Nat) (l : List Nat) (s : Nat → Int32) (A : Nat → Nat → Int32), i + c = l'.length → mrow A r l → mrow A r2 l' →
    z_V G m_Md_addRow (d + 1) 2 [(0, .ref q), (1, .int (nI r)), (2, .int (nI r2)), (3, .int (nI i))] [] (md G h q s A) (m_post G h q (fun o s' A' => o = none ∧ m_ad r l (l'.drop i) s A s' A')) := by
  intro c
  induction c with
  | zero =>
    intro i l s A hi hl hl2
    have h40 := hl2.len
    refine z_iload_n d_Md_addRow_2 rfl rfl ?_
    refine z_aload_n d_Md_addRow_3 rfl rfl ?_
    refine z_mg HG d_Md_addRow_4 (L_Md_13 HG) (by decide) rfl ?_
    refine z_iload_n d_Md_addRow_7 rfl rfl ?_
    refine z_ml HG 2 d_Md_addRow_8 (by decide) (show _ < 43 by omega) hl2.1 ?_
    refine z_icmp_ge (tgt := 29) d_Md_addRow_9 rfl (fun c9 => ?_) (fun c9 => ?_)
    · rw [nI_leI (by omega) (by omega)] at c9
      exact z_return d_Md_addRow_29 rfl ⟨_, _, _, rfl, rfl, rfl, by rw [List.drop_eq_nil_of_le (by omega)]; exact m_ad.nil hl⟩
    · rw [nI_leI (by omega) (by omega)] at c9
      omega
  | succ c ih =>
    intro i l s A hi hl hl2
    have h40 := hl2.len
    have h40' := hl.len
    refine z_iload_n d_Md_addRow_2 rfl rfl ?_
    refine z_aload_n d_Md_addRow_3 rfl rfl ?_
    refine z_mg HG d_Md_addRow_4 (L_Md_13 HG) (by decide) rfl ?_
    refine z_iload_n d_Md_addRow_7 rfl rfl ?_
    refine z_ml HG 2 d_Md_addRow_8 (by decide) (show _ < 43 by omega) hl2.1 ?_
    refine z_icmp_ge (tgt := 29) d_Md_addRow_9 rfl (fun c9 => ?_) (fun c9 => ?_)
    · rw [nI_leI (by omega) (by omega)] at c9
      omega
    · rw [nI_leI (by omega) (by omega)] at c9
      refine z_aload_n d_Md_addRow_12 rfl rfl ?_
      refine z_iload_n d_Md_addRow_13 rfl rfl ?_
      refine z_aload_n d_Md_addRow_14 rfl rfl ?_
      refine z_iload_n d_Md_addRow_15 rfl rfl ?_
      refine z_iload_n d_Md_addRow_16 rfl rfl ?_
      refine z_mr (as := [.int (nI r2), .int (nI i)]) (dY := d) HG d_Md_addRow_17 rfl (by omega) (Y_Md_49 HG) rfl rfl (Nat.le_of_ble_eq_true rfl) (c_Md_at HG (by omega) (hl2.eq (by omega))) ?_
      refine z_mc (as := [.int (nI r), .int (nI (l'.getD i 0))]) (dY := d) HG d_Md_addRow_20 rfl (by omega) (Y_Md_53 HG) rfl rfl (Nat.le_of_ble_eq_true rfl) (c_Md_add HG hr hl (hl2.lt (by omega))) (fun v1 s1 A1 hp1 => ?_)
      obtain ⟨rfl, hp1⟩ := hp1
      refine z_iinc (v := nI (i + 1)) d_Md_addRow_23 rfl (i_inc _) (by decide) ?_
      refine z_goto (tgt := 2) d_Md_addRow_26 rfl ?_
      refine z_fg [(0, .ref q), (1, .int (nI r)), (2, .int (nI r2)), (3, .int (nI (i + 1)))] ⟨rfl, rfl, rfl, rfl, trivial⟩ ?_
      refine z_Vm (ih (i + 1) _ s1 A1 (by omega) hp1.row (hp1.keep hne hl2)) (fun v s' A' hh => ⟨hh.1, ?_⟩)
      rw [l_dc (l := l') (i := i) (by omega)]
      exact hp1.tr h40' hh.2
theorem c_Md_addRow (HG : z_ok G) {r2 : Nat} (hr : r < 43) (hr2 : r2 < 43) (hne : r2 ≠ r) (hl : mrow A r l) (hl2 : mrow A r2 l') : z_C G m_Md_addRow (d + 1) [.ref q, .int (nI r), .int (nI r2)] (md G h q s A) (m_post G h q (fun o s' A' => o = none ∧ m_ad r l l' s A s' A')) := by
  refine z_C.of (Nat.le_of_ble_eq_true rfl) ?_
  refine z_iconst (v := nI 0) d_Md_addRow_0 (by decide) ?_
  refine z_istore_n d_Md_addRow_1 rfl (by decide) ?_
  refine z_fg [(0, .ref q), (1, .int (nI r)), (2, .int (nI r2)), (3, .int (nI 0))] ⟨rfl, rfl, rfl, rfl, trivial⟩ ?_
  exact l_Md_addRow HG hr hr2 hne l'.length 0 l s A (by omega) hl hl2
theorem c_Md_copy (HG : z_ok G) {r2 : Nat} (hr : r < 43) (hr2 : r2 < 43) (hne : r2 ≠ r) (hl2 : mrow A r2 l') : z_C G m_Md_copy (d + 2) [.ref q, .int (nI r2), .int (nI r)] (md G h q s A) (m_post G h q (fun o s' A' => o = none ∧ s' = s ∧ m_wr A A' r l')) := by
  refine z_C.of (Nat.le_of_ble_eq_true rfl) ?_
  refine z_aload_n d_Md_copy_0 rfl rfl ?_
  refine z_mg HG d_Md_copy_1 (L_Md_13 HG) (by decide) rfl ?_
  refine z_iload_n d_Md_copy_4 rfl rfl ?_
  refine z_iconst (v := nI 0) d_Md_copy_5 (by decide) ?_
  refine z_ms HG 2 d_Md_copy_6 (by decide) (show _ < 43 by omega) ?_
  refine z_aload_n d_Md_copy_7 rfl rfl ?_
  refine z_iload_n d_Md_copy_8 rfl rfl ?_
  refine z_iload_n d_Md_copy_9 rfl rfl ?_
  refine z_mc (as := [.int (nI r), .int (nI r2)]) (dY := d + 1) HG d_Md_copy_10 rfl (by omega) (Y_Md_57 HG) rfl rfl (Nat.le_of_ble_eq_true rfl) (c_Md_addRow HG hr hr2 hne (m_wr.zero A r).row ((m_wr.zero A r).keep hne hl2)) (fun v1 s1 A1 hp1 => ?_)
  obtain ⟨rfl, hp1⟩ := hp1
  exact z_return d_Md_copy_13 rfl ⟨_, _, _, rfl, rfl, rfl, m_ad.fresh hl2.len (m_wr.zero A r) hp1⟩
theorem c_Md_isPair (HG : z_ok G) {v : Nat} (hv : v < 1000) : z_C G m_Md_isPair d [.int (nI v)] h (z_rq (some (.int (if p_two v = true then nI 1 else nI 0))) h) := by
  refine z_C.of (Nat.le_of_ble_eq_true rfl) ?_
  have e : p_two v = true ↔ 2 ≤ v ∧ v ≤ 4 := by
    simp only [p_two, Bool.or_eq_true, beq_iff_eq]
    omega
  refine z_iload_n d_Md_isPair_0 rfl rfl ?_
  refine z_iconst (v := nI 2) d_Md_isPair_1 (by decide) ?_
  refine z_icmp_lt (tgt := 14) d_Md_isPair_2 rfl (fun c2 => ?_) (fun c2 => ?_)
  · rw [nI_ltI (by omega) (by omega)] at c2
    rw [if_neg (by rw [e]; omega)]
    refine z_iconst (v := nI 0) d_Md_isPair_14 (by decide) ?_
    exact z_ireturn d_Md_isPair_15 rfl rfl ⟨rfl, rfl⟩
  · rw [nI_ltI (by omega) (by omega)] at c2
    refine z_iload_n d_Md_isPair_5 rfl rfl ?_
    refine z_iconst (v := nI 4) d_Md_isPair_6 (by decide) ?_
    refine z_icmp_gt (tgt := 14) d_Md_isPair_7 rfl (fun c7 => ?_) (fun c7 => ?_)
    · rw [nI_ltI (by omega) (by omega)] at c7
      rw [if_neg (by rw [e]; omega)]
      refine z_iconst (v := nI 0) d_Md_isPair_14 (by decide) ?_
      exact z_ireturn d_Md_isPair_15 rfl rfl ⟨rfl, rfl⟩
    · rw [nI_ltI (by omega) (by omega)] at c7
      rw [if_pos (by rw [e]; omega)]
      refine z_iconst (v := nI 1) d_Md_isPair_10 (by decide) ?_
      refine z_goto (tgt := 15) d_Md_isPair_11 rfl ?_
      exact z_ireturn d_Md_isPair_15 rfl rfl ⟨rfl, rfl⟩
theorem l_Md_end (HG : z_ok G) (hr : r < 43) (hl : mrow A r l) : ∀ (c i : Nat) (S S2 : List Nat), i + c = l.length → S.length ≤ i + 1 → p_wf n (S ++ S2) (l.drop i) →
    z_V G m_Md_end (d + 1) 5 [(0, .ref q), (1, .int (nI r)), (3, .int (nI S.length)), (4, .int (nI i))] [] (md G h q s A) (z_rq (some (.int (nI (i + p_end S.length (l.drop i))))) (md G h q s A)) := by
  have h40 := hl.len
  intro c
  induction c with
  | zero =>
    intro i S S2 hi hS hw
    rw [List.drop_eq_nil_of_le (by omega)] at hw ⊢
    have hS0 : S.length = 0 := by
      have hw : S ++ S2 = [] := by
        revert hw
        cases S ++ S2 <;> exact id
      rw [(List.append_eq_nil_iff.mp hw).1]
      rfl
    refine z_iload_n d_Md_end_5 rfl rfl ?_
    refine z_if_le (tgt := 36) d_Md_end_6 rfl (fun c6 => ?_) (fun c6 => ?_)
    · rw [← nI_0, nI_leI (by omega) (by omega)] at c6
      refine z_iload d_Md_end_36 rfl ?_
      exact z_ireturn d_Md_end_38 rfl rfl ⟨by rw [p_end_nil]; rfl, rfl⟩
    · rw [← nI_0, nI_leI (by omega) (by omega)] at c6
      omega
  | succ c ih =>
    intro i S S2 hi hS hw
    refine z_iload_n d_Md_end_5 rfl rfl ?_
    refine z_if_le (tgt := 36) d_Md_end_6 rfl (fun c6 => ?_) (fun c6 => ?_)
    · rw [← nI_0, nI_leI (by omega) (by omega)] at c6
      have hS0 : S.length = 0 := by omega
      rw [hS0, p_end_zero]
      refine z_iload d_Md_end_36 rfl ?_
      exact z_ireturn d_Md_end_38 rfl rfl ⟨rfl, rfl⟩
    · rw [← nI_0, nI_leI (by omega) (by omega)] at c6
      rw [l_dc (l := l) (i := i) (by omega)] at hw ⊢
      obtain ⟨d0, S3, rfl⟩ : ∃ d0 S3, S = d0 :: S3 := by
        cases S with
        | nil => exact absurd c6 (by simp)
        | cons d0 S3 => exact ⟨d0, S3, rfl⟩
      have hw2 : p_wf n (p_aw (l.getD i 0) d0 (S3 ++ S2)) (l.drop (i + 1)) := hw.2
      rw [p_aw_app] at hw2
      have hlen := p_aw_len (l.getD i 0) d0 S3
      have hS3 : S3.length + 1 ≤ i + 1 := hS
      have ih1 := ih (i + 1) _ S2 (by omega) (by rw [hlen]; split <;> omega) hw2
      rw [hlen] at ih1
      show z_V _ _ _ _ _ _ _ (z_rq (some (.int (nI (i + (p_end (if p_two (l.getD i 0) = true then S3.length + 2 else S3.length) (l.drop (i + 1)) + 1))))) _)
      rw [Nat.add_comm (p_end _ _) 1, ← Nat.add_assoc]
      refine z_iload_n d_Md_end_9 rfl rfl ?_
      refine z_aload_n d_Md_end_10 rfl rfl ?_
      refine z_iload_n d_Md_end_11 rfl rfl ?_
      refine z_iload d_Md_end_12 rfl ?_
      refine z_mr (as := [.int (nI r), .int (nI i)]) (dY := d) HG d_Md_end_14 rfl (by omega) (Y_Md_49 HG) rfl rfl (Nat.le_of_ble_eq_true rfl) (c_Md_at HG (by omega) (hl.eq (by omega))) ?_
      refine z_callS1r (dY := d) d_Md_end_17 rfl (by omega) (Y_Md_60 HG) (Nat.le_of_ble_eq_true rfl) (c_Md_isPair HG (hl.lt (by omega))) ?_
      refine z_if_eq (tgt := 27) d_Md_end_20 rfl (fun c20 => ?_) (fun c20 => ?_)
      · have c20 := b_eq c20
        rw [if_neg c20] at ih1 ⊢
        refine z_iconst (v := -1) d_Md_end_27 (by decide) ?_
        refine z_iadd d_Md_end_28 ?_
        refine z_eqi (pk_m1 _) ?_
        refine z_istore_n d_Md_end_29 rfl (by decide) ?_
        refine z_iinc (v := nI (i + 1)) d_Md_end_30 rfl (i_inc _) (by decide) ?_
        refine z_goto (tgt := 5) d_Md_end_33 rfl ?_
        refine z_fg [(0, .ref q), (1, .int (nI r)), (3, .int (nI (S3.length))), (4, .int (nI (i + 1)))] ⟨rfl, rfl, rfl, rfl, trivial⟩ ?_
        exact ih1
      · have c20 := b_ne c20
        rw [if_pos c20] at ih1 ⊢
        refine z_iconst (v := nI 1) d_Md_end_23 (by decide) ?_
        refine z_goto (tgt := 28) d_Md_end_24 rfl ?_
        refine z_iadd d_Md_end_28 ?_
        refine z_eqi (nI_add _ _) ?_
        refine z_istore_n d_Md_end_29 rfl (by decide) ?_
        refine z_iinc (v := nI (i + 1)) d_Md_end_30 rfl (i_inc _) (by decide) ?_
        refine z_goto (tgt := 5) d_Md_end_33 rfl ?_
        refine z_fg [(0, .ref q), (1, .int (nI r)), (3, .int (nI (S3.length + 1 + 1))), (4, .int (nI (i + 1)))] ⟨rfl, rfl, rfl, rfl, trivial⟩ ?_
        exact ih1
theorem c_Md_end (HG : z_ok G) (hr : r < 43) (hl : mrow A r l) {d0 : Nat} {S2 : List Nat} (hp : p ≤ l.length) (hw : p_wf n (d0 :: S2) (l.drop p)) : z_C G m_Md_end (d + 1) [.ref q, .int (nI r), .int (nI p)] (md G h q s A) (z_rq (some (.int (nI (p + p_end 1 (l.drop p))))) (md G h q s A)) := by
  refine z_C.of (Nat.le_of_ble_eq_true rfl) ?_
  refine z_iconst (v := nI 1) d_Md_end_0 (by decide) ?_
  refine z_istore_n d_Md_end_1 rfl (by decide) ?_
  refine z_iload_n d_Md_end_2 rfl rfl ?_
  refine z_istore d_Md_end_3 (by decide) ?_
  refine z_fg [(0, .ref q), (1, .int (nI r)), (3, .int (nI 1)), (4, .int (nI p))] ⟨rfl, rfl, rfl, rfl, trivial⟩ ?_
  exact l_Md_end HG hr hl (l.length - p) p [d0] S2 (by omega) (by show 1 ≤ p + 1; omega) hw
end MD
