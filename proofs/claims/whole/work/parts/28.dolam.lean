/-! Rewriter.takeNext, doLambda -/
theorem k_app_pre {f : Nat → Int32} {l1 l2 : List Nat} {n : Nat} (hn : n = l1.length) : k_app (k_app f 0 l1) n l2 = k_app f 0 (l1 ++ l2) := by
  subst hn
  have := k_app_app f 0 l1 l2
  rw [Nat.zero_add] at this
  exact this
/-- the row with the lambda at place i done -/
def p_beta (x : List Nat) (i : Nat) : List Nat :=
  let b := i + 2 + p_end 1 (x.drop (i + 2))
  let a := b + p_end 1 (x.drop b)
  x.take i ++ p_put (x.drop a) [0] (x.drop b) ++ x.drop (a + p_end 1 (x.drop a))
theorem p_end_drop {x : List Nat} {i : Nat} (h : i ≤ x.length) : i + p_end 1 (x.drop i) ≤ x.length := by
  have := p_end_le (x.drop i) 1
  rw [List.length_drop] at this
  omega
theorem l_d0 (x : List Nat) (i : Nat) : (x.drop 0).take (i - 0) = x.take i := by rw [List.drop_zero, Nat.sub_zero]
theorem l_dl {x : List Nat} {i : Nat} : (x.drop i).take (x.length - i) = x.drop i := by
  rw [List.take_of_length_le (by rw [List.length_drop]; omega)]
section DL
variable {G : z_G} {d q rc a b nb : Nat} {fx fb : Nat → Int32} {x : List Nat} {h : z_H}
theorem c_Rw_takeNext (HG : z_ok G) (hq : h.2.2 q = some (k_rw q rc a b)) : z_C G m_Rw_takeNext d [.ref q] h (z_rq none (z_set h q (k_rw q rc b a))) := by
  refine z_C.of (Nat.le_of_ble_eq_true rfl) ?_
  refine z_aload_n d_Rw_takeNext_0 rfl rfl ?_
  refine z_getf (L_Rw_24K HG) (by decide) (L_Rw_24 HG) d_Rw_takeNext_1 hq (by rfl) ?_
  refine z_astore_n d_Rw_takeNext_4 rfl (by decide) ?_
  refine z_aload_n d_Rw_takeNext_5 rfl rfl ?_
  refine z_aload_n d_Rw_takeNext_6 rfl rfl ?_
  refine z_getf (L_Rw_28K HG) (by decide) (L_Rw_28 HG) d_Rw_takeNext_7 hq (by rfl) ?_
  refine z_putf (L_Rw_24K HG) (by decide) (L_Rw_24 HG) rfl d_Rw_takeNext_10 hq rfl rfl (Nat.le_of_ble_eq_true rfl) ?_
  have hq1 : (z_set h q (k_rw q rc b b)).2.2 q = some (k_rw q rc b b) := va_up_self _ _ _
  refine z_aload_n d_Rw_takeNext_13 rfl rfl ?_
  refine z_aload_n d_Rw_takeNext_14 rfl rfl ?_
  refine z_putf (L_Rw_28K HG) (by decide) (L_Rw_28 HG) rfl d_Rw_takeNext_15 hq1 rfl rfl (Nat.le_of_ble_eq_true rfl) ?_
  refine z_return d_Rw_takeNext_18 rfl ⟨rfl, ?_⟩
  unfold z_set
  refine congrArg (fun z => (h.1, h.2.1, z)) ?_
  funext y
  simp only [va_up]
  split <;> rfl
theorem c2_doLambda (HG : z_ok G) {i : Nat} (hrm : z_rm G h) (hx : rl fx x) (ra : k_rr q a) (rb : k_rr q b) (e : k_ne a b) (hi : i + 2 ≤ x.length)
    (hq : h.2.2 q = some (k_rw q rc a b)) (hsc : k_sc G q h) (ha : rowAt G h a x.length fx) (hb : rowAt G h b nb fb) :
    z_C G m_Rw_doLambda (d + 3) [.ref q, .int (nI i)] h (z_eq2 ((p_beta x i).length ≤ 40) none (fun h' => ∃ h1, h' = z_set h1 q (k_rw q rc b a) ∧ k_fr q b h h1 ∧ k_sc G q h1 ∧ rowAt G h1 b (p_beta x i).length (k_app fb 0 (p_beta x i))) (k_xc G q b h)) := by
  have hx40 := hx.len
  have hb1 : i + 2 + p_end 1 (x.drop (i + 2)) ≤ x.length := p_end_drop hi
  have eb : p_beta x i = x.take i ++ p_put (x.drop (i + 2 + p_end 1 (x.drop (i + 2)) + p_end 1 (x.drop (i + 2 + p_end 1 (x.drop (i + 2)))))) [0] (x.drop (i + 2 + p_end 1 (x.drop (i + 2)))) ++ x.drop (i + 2 + p_end 1 (x.drop (i + 2)) + p_end 1 (x.drop (i + 2 + p_end 1 (x.drop (i + 2)))) + p_end 1 (x.drop (i + 2 + p_end 1 (x.drop (i + 2)) + p_end 1 (x.drop (i + 2 + p_end 1 (x.drop (i + 2))))))) := rfl
  rw [eb]
  generalize hB : i + 2 + p_end 1 (x.drop (i + 2)) = nB at hb1 ⊢
  have ha1 : nB + p_end 1 (x.drop nB) ≤ x.length := p_end_drop hb1
  generalize hA : nB + p_end 1 (x.drop nB) = nA at ha1 ⊢
  have he1 : nA + p_end 1 (x.drop nA) ≤ x.length := p_end_drop ha1
  generalize hE : nA + p_end 1 (x.drop nA) = nE at he1 ⊢
  refine z_C.of (Nat.le_of_ble_eq_true rfl) ?_
  refine z_aload_n d_Rw_doLambda_0 rfl rfl ?_
  refine z_getf (L_Rw_24K HG) (by decide) (L_Rw_24 HG) d_Rw_doLambda_1 hq (by rfl) ?_
  refine z_iload_n d_Rw_doLambda_4 rfl rfl ?_
  refine z_iconst (v := nI 2) d_Rw_doLambda_5 (by decide) ?_
  refine z_iadd d_Rw_doLambda_6 ?_
  rw [nI_add]
  refine z_callV1r (dY := d + 1) d_Rw_doLambda_7 rfl (by omega) (Y_Rw_84 HG) ha.1 (cl_Row HG) (Nat.le_of_ble_eq_true rfl) (c_Row_endOf HG ha hx hi) ?_
  rw [hB]
  refine z_istore_n d_Rw_doLambda_10 rfl (by decide) ?_
  refine z_aload_n d_Rw_doLambda_11 rfl rfl ?_
  refine z_getf (L_Rw_24K HG) (by decide) (L_Rw_24 HG) d_Rw_doLambda_12 hq (by rfl) ?_
  refine z_iload_n d_Rw_doLambda_15 rfl rfl ?_
  refine z_callV1r (dY := d + 1) d_Rw_doLambda_16 rfl (by omega) (Y_Rw_84 HG) ha.1 (cl_Row HG) (Nat.le_of_ble_eq_true rfl) (c_Row_endOf HG ha hx hb1) ?_
  rw [hA]
  refine z_istore_n d_Rw_doLambda_19 rfl (by decide) ?_
  refine z_aload_n d_Rw_doLambda_20 rfl rfl ?_
  refine z_getf (L_Rw_28K HG) (by decide) (L_Rw_28 HG) d_Rw_doLambda_21 hq (by rfl) ?_
  refine z_callV0v (dY := d) d_Rw_doLambda_24 rfl (by omega) (Y_Rw_87 HG) hb.1 (cl_Row HG) (Nat.le_of_ble_eq_true rfl) (c_Row_clear HG hb) ?_
  have hf1 : k_fr q b h (rset G h b 0 fb) := k_fr.rset
  have hr1 := rset_at G h b 0 fb
  have hs1 : k_sc G q (rset G h b 0 fb) := hsc.rset rb
  generalize rset G h b 0 fb = h1 at hf1 hr1 hs1 ⊢
  have hq1 := hf1.rw rb hq
  have hx1 := hf1.row ra e ha
  refine z_aload_n d_Rw_doLambda_27 rfl rfl ?_
  refine z_getf (L_Rw_28K HG) (by decide) (L_Rw_28 HG) d_Rw_doLambda_28 hq1 (by rfl) ?_
  refine z_aload_n d_Rw_doLambda_31 rfl rfl ?_
  refine z_getf (L_Rw_24K HG) (by decide) (L_Rw_24 HG) d_Rw_doLambda_32 hq1 (by rfl) ?_
  refine z_iconst (v := nI 0) d_Rw_doLambda_35 (by decide) ?_
  refine z_iload_n d_Rw_doLambda_36 rfl rfl ?_
  refine z_callV3e (dY := d + 1) d_Rw_doLambda_37 rfl (by omega) (Y_Rw_90 HG) hr1.1 (cl_Row HG) (Nat.le_of_ble_eq_true rfl) (c2_appendPart HG (hf1.rm hrm) hr1 (by omega) hx1 hx (a := 0) (b := i) (by omega) (by omega) e) (fun hc h2 hh2 => ?_) (fun hc h2 hh2 => absurd hc (by omega))
  rw [l_d0, Nat.zero_add, Nat.sub_zero] at hh2
  have hf2 : k_fr q b h h2 := by
    subst hh2
    exact hf1.tr k_fr.rset
  have hr2 : rowAt G h2 b i (k_app fb 0 (x.take i)) := by
    subst hh2
    exact rset_at ..
  have hs2 : k_sc G q h2 := by
    subst hh2
    exact hs1.rset rb
  clear hh2
  have hq2 := hf2.rw rb hq
  have hx2 := hf2.row ra e ha
  refine z_aload_n d_Rw_doLambda_40 rfl rfl ?_
  refine z_aload_n d_Rw_doLambda_41 rfl rfl ?_
  refine z_getf (L_Rw_24K HG) (by decide) (L_Rw_24 HG) d_Rw_doLambda_42 hq2 (by rfl) ?_
  refine z_iload_n d_Rw_doLambda_45 rfl rfl ?_
  refine z_aload_n d_Rw_doLambda_46 rfl rfl ?_
  refine z_getf (L_Rw_24K HG) (by decide) (L_Rw_24 HG) d_Rw_doLambda_47 hq2 (by rfl) ?_
  refine z_iload_n d_Rw_doLambda_50 rfl rfl ?_
  refine z_aload_n d_Rw_doLambda_51 rfl rfl ?_
  refine z_getf (L_Rw_28K HG) (by decide) (L_Rw_28 HG) d_Rw_doLambda_52 hq2 (by rfl) ?_
  refine z_callV5e (dY := d + 2) d_Rw_doLambda_55 rfl (by omega) (Y_Rw_94 HG) hq2 (cl_Rw HG) (Nat.le_of_ble_eq_true rfl) (c2_put HG (hf2.rm hrm) hx hx rb ra ra e e ha1 hb1 hq2 hs2 hx2 hx2 hr2 (by omega)) (fun hc h3 hh3 => ?_) (fun hc h3 hh3 => ?_)
  · obtain ⟨hf3, hs3, hr3⟩ := hh3
    have hf3 := hf2.tr hf3
    have hl : (x.take i).length = i := by rw [List.length_take]; omega
    rw [k_app_pre hl.symm] at hr3
    generalize p_put (x.drop nA) [0] (x.drop nB) = y at hc hr3 ⊢
    have hq3 := hf3.rw rb hq
    have hx3 := hf3.row ra e ha
    refine z_aload_n d_Rw_doLambda_58 rfl rfl ?_
    refine z_getf (L_Rw_28K HG) (by decide) (L_Rw_28 HG) d_Rw_doLambda_59 hq3 (by rfl) ?_
    refine z_aload_n d_Rw_doLambda_62 rfl rfl ?_
    refine z_getf (L_Rw_24K HG) (by decide) (L_Rw_24 HG) d_Rw_doLambda_63 hq3 (by rfl) ?_
    refine z_aload_n d_Rw_doLambda_66 rfl rfl ?_
    refine z_getf (L_Rw_24K HG) (by decide) (L_Rw_24 HG) d_Rw_doLambda_67 hq3 (by rfl) ?_
    refine z_iload_n d_Rw_doLambda_70 rfl rfl ?_
    refine z_callV1r (dY := d + 1) d_Rw_doLambda_71 rfl (by omega) (Y_Rw_84 HG) hx3.1 (cl_Row HG) (Nat.le_of_ble_eq_true rfl) (c_Row_endOf HG hx3 hx ha1) ?_
    rw [hE]
    refine z_aload_n d_Rw_doLambda_74 rfl rfl ?_
    refine z_getf (L_Rw_24K HG) (by decide) (L_Rw_24 HG) d_Rw_doLambda_75 hq3 (by rfl) ?_
    refine z_getf (L_Rw_66K HG) (by decide) (L_Rw_66 HG) d_Rw_doLambda_78 hx3.1 (by rfl) ?_
    have hl2 : (x.take i ++ y ++ x.drop nE).length = i + y.length + (x.length - nE) := by
      rw [List.length_append, List.length_append, List.length_drop, hl]
    refine z_callV3e (dY := d + 1) d_Rw_doLambda_81 rfl (by omega) (Y_Rw_90 HG) hr3.1 (cl_Row HG) (Nat.le_of_ble_eq_true rfl) (c2_appendPart HG (hf3.rm hrm) hr3 hc hx3 hx (a := nE) (b := x.length) he1 (Nat.le_refl _) e) (fun hc4 h4 hh4 => ?_) (fun hc4 h4 hh4 => ?_)
    · rw [l_dl, k_app_pre (by rw [List.length_append, hl])] at hh4
      have hf4 : k_fr q b h h4 := by
        subst hh4
        exact hf3.tr k_fr.rset
      have hr4 : rowAt G h4 b (i + y.length + (x.length - nE)) (k_app fb 0 (x.take i ++ y ++ x.drop nE)) := by
        subst hh4
        exact rset_at ..
      have hs4 : k_sc G q h4 := by
        subst hh4
        exact hs3.rset rb
      refine z_aload_n d_Rw_doLambda_84 rfl rfl ?_
      refine z_callV0v (dY := d) d_Rw_doLambda_85 rfl (by omega) (Y_Rw_98 HG) (hf4.rw rb hq) (cl_Rw HG) (Nat.le_of_ble_eq_true rfl) (c_Rw_takeNext HG (hf4.rw rb hq)) ?_
      refine z_return d_Rw_doLambda_88 rfl ?_
      rw [hl2]
      exact z_eq2.ok hc4 ⟨h4, rfl, hf4, hs4, hr4⟩
    · obtain ⟨f', hh4⟩ := hh4
      rw [hl2]
      exact z_eq2.no hc4 ⟨_, hh4, hf3.tr k_fr.rset, hs3.rset rb, f', rset_at ..⟩
  · refine z_eq2.no ?_ (k_xc.tr hf2 hh3)
    rw [List.length_append, List.length_append, List.length_take]
    omega
end DL
