/-! the reference's small methods -/
theorem k_ix_neg {i : Int32} {n : Nat} (h : i < 0) : k_ix i n = none := if_pos h
theorem k_ix_big {i : Int32} {n : Nat} (h0 : ¬ i < 0) (h : ¬ i < nI n) : k_ix i n = none := by
  unfold k_ix
  rw [if_neg h0, if_pos (Int32.not_lt.mp h)]
theorem k_ix_nI {j n : Nat} (hj : j < n) (hn : n < 2 ^ 31) : k_ix (nI j) n = some j := by
  unfold k_ix
  rw [if_neg (nI_pos (by omega)), if_neg (by rw [nI_leI (by omega) (by omega)]; omega), nI_clamp (by omega)]
theorem m_ad.fit {r : Nat} {l w : List Nat} {s s1 : Nat → Int32} {A A1 : Nat → Nat → Int32} (hw : l.length + w.length ≤ 40) (h : m_ad r l w s A s1 A1) : s1 = s ∧ m_wr A A1 r (l ++ w) := by
  obtain ⟨e, k⟩ := h
  rw [m_tl_no _ (decide_eq_false (by omega))] at e
  rw [l_t40 (by rw [List.length_append]; exact hw)] at k
  exact ⟨e, k⟩
section MZ
variable {G : z_G} {h : z_H} {q d r n : Nat} {s : Nat → Int32} {A : Nat → Nat → Int32} {l l' : List Nat} {K : pK}
theorem c_Md_thrown (HG : z_ok G) {x : Int32} (hx : s 0 = x) : z_C G m_Md_thrown d [.ref q] (md G h q s A) (z_rq (some (.int x)) (md G h q s A)) := by
  refine z_C.of (Nat.le_of_ble_eq_true rfl) ?_
  refine z_aload_n d_Md_thrown_0 rfl rfl ?_
  refine z_mg HG d_Md_thrown_1 (L_Md_41 HG) (by decide) rfl ?_
  refine z_eqi hx ?_
  exact z_ireturn d_Md_thrown_4 rfl rfl ⟨rfl, rfl⟩
theorem c_Md_raise (HG : z_ok G) {c : Nat} : z_C G m_Md_raise d [.ref q, .int (nI c)] (md G h q s A) (m_post G h q (fun o s' A' => o = some (.int (nI 0)) ∧ s' = va_up s 0 (nI c) ∧ A' = A)) := by
  refine z_C.of (Nat.le_of_ble_eq_true rfl) ?_
  refine z_aload_n d_Md_raise_0 rfl rfl ?_
  refine z_iload_n d_Md_raise_1 rfl rfl ?_
  refine z_mp HG d_Md_raise_2 (L_Md_41 HG) (by decide) rfl rfl rfl rfl ?_
  refine z_iconst (v := nI 0) d_Md_raise_5 (by decide) ?_
  exact z_ireturn d_Md_raise_6 rfl rfl ⟨_, _, _, rfl, rfl, rfl, rfl, rfl⟩
theorem c_Md_present (HG : z_ok G) {k e ne : Nat} (hk : k < 6) (he : e < 100) (hne : ne < 100) (h3 : A 3 k = nI e) (h5 : s 5 = nI ne) : z_C G m_Md_present d [.ref q, .int (nI k)] (md G h q s A) (z_rq (some (.int (if e = ne then nI 1 else nI 0))) (md G h q s A)) := by
  refine z_C.of (Nat.le_of_ble_eq_true rfl) ?_
  refine z_iload_n d_Md_present_0 rfl rfl ?_
  refine z_if_lt (tgt := 21) d_Md_present_1 rfl (fun c1 => ?_) (fun c1 => ?_)
  · rw [← nI_0, nI_ltI (by omega) (by omega)] at c1
    omega
  · rw [← nI_0, nI_ltI (by omega) (by omega)] at c1
    refine z_aload_n d_Md_present_4 rfl rfl ?_
    refine z_mg HG d_Md_present_5 (L_Md_16 HG) (by decide) rfl ?_
    refine z_iload_n d_Md_present_8 rfl rfl ?_
    refine z_ml HG 3 d_Md_present_9 (by decide) (show _ < 6 by omega) h3 ?_
    refine z_aload_n d_Md_present_10 rfl rfl ?_
    refine z_mg HG d_Md_present_11 (L_Md_104 HG) (by decide) rfl ?_
    refine z_eqi h5 ?_
    refine z_icmp_ne (tgt := 21) d_Md_present_14 rfl (fun c14 => ?_) (fun c14 => ?_)
    · rw [nI_eq (by omega) (by omega)] at c14
      rw [if_neg c14]
      refine z_iconst (v := nI 0) d_Md_present_21 (by decide) ?_
      exact z_ireturn d_Md_present_22 rfl rfl ⟨rfl, rfl⟩
    · rw [nI_eq (by omega) (by omega)] at c14
      rw [if_pos c14]
      refine z_iconst (v := nI 1) d_Md_present_17 (by decide) ?_
      refine z_goto (tgt := 22) d_Md_present_18 rfl ?_
      exact z_ireturn d_Md_present_22 rfl rfl ⟨rfl, rfl⟩
theorem c_Md_presentN (HG : z_ok G) : z_C G m_Md_present d [.ref q, .int (-1)] (md G h q s A) (z_rq (some (.int (nI 0))) (md G h q s A)) := by
  refine z_C.of (Nat.le_of_ble_eq_true rfl) ?_
  refine z_iload_n d_Md_present_0 rfl rfl ?_
  refine z_if_lt (tgt := 21) d_Md_present_1 rfl (fun c1 => ?_) (fun c1 => ?_)
  · refine z_iconst (v := nI 0) d_Md_present_21 (by decide) ?_
    exact z_ireturn d_Md_present_22 rfl rfl ⟨rfl, rfl⟩
  · exact absurd (by decide) c1
theorem c_Md_isOne (HG : z_ok G) {v : Nat} (hr : r < 43) (hl : mrow A r l) (hv : v < 1000) : z_C G m_Md_isOne (d + 1) [.ref q, .int (nI r), .int (nI v)] (md G h q s A) (z_rq (some (.int (if l = [v] then nI 1 else nI 0))) (md G h q s A)) := by
  have h40 := hl.len
  refine z_C.of (Nat.le_of_ble_eq_true rfl) ?_
  refine z_aload_n d_Md_isOne_0 rfl rfl ?_
  refine z_mg HG d_Md_isOne_1 (L_Md_13 HG) (by decide) rfl ?_
  refine z_iload_n d_Md_isOne_4 rfl rfl ?_
  refine z_ml HG 2 d_Md_isOne_5 (by decide) (show _ < 43 by omega) hl.1 ?_
  refine z_iconst (v := nI 1) d_Md_isOne_6 (by decide) ?_
  refine z_icmp_ne (tgt := 24) d_Md_isOne_7 rfl (fun c7 => ?_) (fun c7 => ?_)
  · rw [nI_eq (by omega) (by omega)] at c7
    rw [if_neg (fun hh => c7 (by rw [hh]; rfl))]
    refine z_iconst (v := nI 0) d_Md_isOne_24 (by decide) ?_
    exact z_ireturn d_Md_isOne_25 rfl rfl ⟨rfl, rfl⟩
  · rw [nI_eq (by omega) (by omega)] at c7
    obtain ⟨v0, rfl⟩ : ∃ v0, l = [v0] := by
      match l, c7 with
      | [v0], _ => exact ⟨v0, rfl⟩
    have hv0 := hl.lt (i := 0) Nat.zero_lt_one
    have hv0 : v0 < 1000 := hv0
    refine z_aload_n d_Md_isOne_10 rfl rfl ?_
    refine z_iload_n d_Md_isOne_11 rfl rfl ?_
    refine z_iconst (v := nI 0) d_Md_isOne_12 (by decide) ?_
    refine z_mr (as := [.int (nI r), .int (nI 0)]) (dY := d) HG d_Md_isOne_13 rfl (by omega) (Y_Md_49 HG) rfl rfl (Nat.le_of_ble_eq_true rfl) (c_Md_at (x := nI v0) HG (by omega) (hl.eq (i := 0) Nat.zero_lt_one)) ?_
    refine z_iload_n d_Md_isOne_16 rfl rfl ?_
    refine z_icmp_ne (tgt := 24) d_Md_isOne_17 rfl (fun c17 => ?_) (fun c17 => ?_)
    · rw [nI_eq (by omega) (by omega)] at c17
      rw [if_neg (fun hh => c17 (by cases hh; rfl))]
      refine z_iconst (v := nI 0) d_Md_isOne_24 (by decide) ?_
      exact z_ireturn d_Md_isOne_25 rfl rfl ⟨rfl, rfl⟩
    · rw [nI_eq (by omega) (by omega)] at c17
      rw [if_pos (by rw [c17])]
      refine z_iconst (v := nI 1) d_Md_isOne_20 (by decide) ?_
      refine z_goto (tgt := 25) d_Md_isOne_21 rfl ?_
      exact z_ireturn d_Md_isOne_25 rfl rfl ⟨rfl, rfl⟩
theorem c_Md_seen (HG : z_ok G) (hr : r < 43) (hl : mrow A r l) (i : Int32) : z_C G m_Md_seen (d + 1) [.ref q, .int (nI r), .int i] (md G h q s A) (z_rq (some (.int (p_at l i))) (md G h q s A)) := by
  have h40 := hl.len
  refine z_C.of (Nat.le_of_ble_eq_true rfl) ?_
  unfold p_at
  refine z_iload_n d_Md_seen_0 rfl rfl ?_
  refine z_if_lt (tgt := 23) d_Md_seen_1 rfl (fun c1 => ?_) (fun c1 => ?_)
  · rw [k_ix_neg c1]
    refine z_iconst (v := -1) d_Md_seen_23 (by decide) ?_
    exact z_ireturn d_Md_seen_24 rfl rfl ⟨rfl, rfl⟩
  · refine z_iload_n d_Md_seen_4 rfl rfl ?_
    refine z_aload_n d_Md_seen_5 rfl rfl ?_
    refine z_mg HG d_Md_seen_6 (L_Md_13 HG) (by decide) rfl ?_
    refine z_iload_n d_Md_seen_9 rfl rfl ?_
    refine z_ml HG 2 d_Md_seen_10 (by decide) (show _ < 43 by omega) hl.1 ?_
    refine z_icmp_ge (tgt := 23) d_Md_seen_11 rfl (fun c11 => ?_) (fun c11 => ?_)
    · rw [k_ix_big c1 (Int32.not_lt.mpr c11)]
      refine z_iconst (v := -1) d_Md_seen_23 (by decide) ?_
      exact z_ireturn d_Md_seen_24 rfl rfl ⟨rfl, rfl⟩
    · obtain ⟨j, hj, rfl⟩ := nI_of c1
      rw [nI_leI (by omega) (by omega)] at c11
      rw [k_ix_nI (by omega) (by omega)]
      refine z_aload_n d_Md_seen_14 rfl rfl ?_
      refine z_iload_n d_Md_seen_15 rfl rfl ?_
      refine z_iload_n d_Md_seen_16 rfl rfl ?_
      refine z_mr (as := [.int (nI r), .int (nI j)]) (dY := d) HG d_Md_seen_17 rfl (by omega) (Y_Md_49 HG) rfl rfl (Nat.le_of_ble_eq_true rfl) (c_Md_at HG (by omega) (hl.eq (by omega))) ?_
      refine z_goto (tgt := 24) d_Md_seen_20 rfl ?_
      exact z_ireturn d_Md_seen_24 rfl rfl ⟨rfl, rfl⟩
theorem l_Md_equal (HG : z_ok G) {r2 : Nat} (hr : r < 43) (hr2 : r2 < 43) (hl : mrow A r l) (hl2 : mrow A r2 l') (hll : l.length = l'.length) : ∀ (c i : Nat), i + c = l.length → (∀ j, j < i → l.getD j 0 = l'.getD j 0) →
    z_V G m_Md_equal (d + 1) 24 [(0, .ref q), (1, .int (nI r)), (2, .int (nI r2)), (3, .int (nI 1)), (4, .int (nI i))] [] (md G h q s A) (z_rq (some (.int (if l = l' then nI 1 else nI 0))) (md G h q s A)) := by
  have h40 := hl.len
  intro c
  induction c with
  | zero =>
    intro i hi hs
    have e : l = l' := by
      refine List.ext_getElem? (fun j => ?_)
      by_cases hj : j < l.length
      · have h1 := hs j (by omega)
        rw [List.getD_eq_getElem?_getD, List.getD_eq_getElem?_getD, List.getElem?_eq_getElem hj, List.getElem?_eq_getElem (by omega)] at h1
        rw [List.getElem?_eq_getElem hj, List.getElem?_eq_getElem (by omega)]
        exact congrArg some h1
      · rw [List.getElem?_eq_none (by omega), List.getElem?_eq_none (by omega)]
    rw [if_pos e]
    refine z_iload d_Md_equal_24 rfl ?_
    refine z_aload_n d_Md_equal_26 rfl rfl ?_
    refine z_mg HG d_Md_equal_27 (L_Md_13 HG) (by decide) rfl ?_
    refine z_iload_n d_Md_equal_30 rfl rfl ?_
    refine z_ml HG 2 d_Md_equal_31 (by decide) (show _ < 43 by omega) hl.1 ?_
    refine z_icmp_ge (tgt := 68) d_Md_equal_32 rfl (fun c32 => ?_) (fun c32 => ?_)
    · rw [nI_leI (by omega) (by omega)] at c32
      refine z_iload_n d_Md_equal_68 rfl rfl ?_
      exact z_ireturn d_Md_equal_69 rfl rfl ⟨rfl, rfl⟩
    · rw [nI_leI (by omega) (by omega)] at c32
      omega
  | succ c ih =>
    intro i hi hs
    have hx1 := hl.lt (i := i) (by omega)
    have hx2 := hl2.lt (i := i) (by omega)
    refine z_iload d_Md_equal_24 rfl ?_
    refine z_aload_n d_Md_equal_26 rfl rfl ?_
    refine z_mg HG d_Md_equal_27 (L_Md_13 HG) (by decide) rfl ?_
    refine z_iload_n d_Md_equal_30 rfl rfl ?_
    refine z_ml HG 2 d_Md_equal_31 (by decide) (show _ < 43 by omega) hl.1 ?_
    refine z_icmp_ge (tgt := 68) d_Md_equal_32 rfl (fun c32 => ?_) (fun c32 => ?_)
    · rw [nI_leI (by omega) (by omega)] at c32
      omega
    · rw [nI_leI (by omega) (by omega)] at c32
      refine z_iload_n d_Md_equal_35 rfl rfl ?_
      refine z_if_eq (tgt := 68) d_Md_equal_36 rfl (fun c36 => ?_) (fun c36 => ?_)
      · rw [← nI_0, nI_eq (by omega) (by omega)] at c36
        omega
      · rw [← nI_0, nI_eq (by omega) (by omega)] at c36
        refine z_aload_n d_Md_equal_39 rfl rfl ?_
        refine z_iload_n d_Md_equal_40 rfl rfl ?_
        refine z_iload d_Md_equal_41 rfl ?_
        refine z_mr (as := [.int (nI r), .int (nI i)]) (dY := d) HG d_Md_equal_43 rfl (by omega) (Y_Md_49 HG) rfl rfl (Nat.le_of_ble_eq_true rfl) (c_Md_at HG (by omega) (hl.eq (by omega))) ?_
        refine z_aload_n d_Md_equal_46 rfl rfl ?_
        refine z_iload_n d_Md_equal_47 rfl rfl ?_
        refine z_iload d_Md_equal_48 rfl ?_
        refine z_mr (as := [.int (nI r2), .int (nI i)]) (dY := d) HG d_Md_equal_50 rfl (by omega) (Y_Md_49 HG) rfl rfl (Nat.le_of_ble_eq_true rfl) (c_Md_at HG (by omega) (hl2.eq (by omega))) ?_
        refine z_icmp_ne (tgt := 60) d_Md_equal_53 rfl (fun c53 => ?_) (fun c53 => ?_)
        · rw [nI_eq (by omega) (by omega)] at c53
          refine z_iconst (v := nI 0) d_Md_equal_60 (by decide) ?_
          refine z_istore_n d_Md_equal_61 rfl (by decide) ?_
          refine z_iinc (v := nI (i + 1)) d_Md_equal_62 rfl (i_inc _) (by decide) ?_
          refine z_goto (tgt := 24) d_Md_equal_65 rfl ?_
          rw [if_neg (show ¬ l = l' from fun hh => c53 (by rw [hh]))]
          refine z_iload d_Md_equal_24 rfl ?_
          refine z_aload_n d_Md_equal_26 rfl rfl ?_
          refine z_mg HG d_Md_equal_27 (L_Md_13 HG) (by decide) rfl ?_
          refine z_iload_n d_Md_equal_30 rfl rfl ?_
          refine z_ml HG 2 d_Md_equal_31 (by decide) (show _ < 43 by omega) hl.1 ?_
          refine z_icmp_ge (tgt := 68) d_Md_equal_32 rfl (fun c32 => ?_) (fun c32 => ?_)
          · rw [nI_leI (by omega) (by omega)] at c32
            refine z_iload_n d_Md_equal_68 rfl rfl ?_
            exact z_ireturn d_Md_equal_69 rfl rfl ⟨rfl, rfl⟩
          · rw [nI_leI (by omega) (by omega)] at c32
            refine z_iload_n d_Md_equal_35 rfl rfl ?_
            refine z_if_eq (tgt := 68) d_Md_equal_36 rfl (fun c36 => ?_) (fun c36 => ?_)
            · rw [← nI_0, nI_eq (by omega) (by omega)] at c36
              refine z_iload_n d_Md_equal_68 rfl rfl ?_
              exact z_ireturn d_Md_equal_69 rfl rfl ⟨rfl, rfl⟩
            · rw [← nI_0, nI_eq (by omega) (by omega)] at c36
              omega
        · rw [nI_eq (by omega) (by omega)] at c53
          refine z_iconst (v := nI 1) d_Md_equal_56 (by decide) ?_
          refine z_goto (tgt := 61) d_Md_equal_57 rfl ?_
          refine z_istore_n d_Md_equal_61 rfl (by decide) ?_
          refine z_iinc (v := nI (i + 1)) d_Md_equal_62 rfl (i_inc _) (by decide) ?_
          refine z_goto (tgt := 24) d_Md_equal_65 rfl ?_
          refine z_fg [(0, .ref q), (1, .int (nI r)), (2, .int (nI r2)), (3, .int (nI 1)), (4, .int (nI (i + 1)))] ⟨rfl, rfl, rfl, rfl, rfl, trivial⟩ ?_
          refine ih (i + 1) (by omega) (fun j hj => ?_)
          by_cases e : j = i
          · rw [e]
            exact c53
          · exact hs j (by omega)
theorem c_Md_equal (HG : z_ok G) {r2 : Nat} (hr : r < 43) (hr2 : r2 < 43) (hl : mrow A r l) (hl2 : mrow A r2 l') : z_C G m_Md_equal (d + 1) [.ref q, .int (nI r), .int (nI r2)] (md G h q s A) (z_rq (some (.int (if l = l' then nI 1 else nI 0))) (md G h q s A)) := by
  have h40 := hl.len
  have h40' := hl2.len
  refine z_C.of (Nat.le_of_ble_eq_true rfl) ?_
  refine z_aload_n d_Md_equal_0 rfl rfl ?_
  refine z_mg HG d_Md_equal_1 (L_Md_13 HG) (by decide) rfl ?_
  refine z_iload_n d_Md_equal_4 rfl rfl ?_
  refine z_ml HG 2 d_Md_equal_5 (by decide) (show _ < 43 by omega) hl.1 ?_
  refine z_aload_n d_Md_equal_6 rfl rfl ?_
  refine z_mg HG d_Md_equal_7 (L_Md_13 HG) (by decide) rfl ?_
  refine z_iload_n d_Md_equal_10 rfl rfl ?_
  refine z_ml HG 2 d_Md_equal_11 (by decide) (show _ < 43 by omega) hl2.1 ?_
  refine z_icmp_ne (tgt := 19) d_Md_equal_12 rfl (fun c12 => ?_) (fun c12 => ?_)
  · rw [nI_eq (by omega) (by omega)] at c12
    refine z_iconst (v := nI 0) d_Md_equal_19 (by decide) ?_
    refine z_istore_n d_Md_equal_20 rfl (by decide) ?_
    refine z_iconst (v := nI 0) d_Md_equal_21 (by decide) ?_
    refine z_istore d_Md_equal_22 (by decide) ?_
    rw [if_neg (show ¬ l = l' from fun hh => c12 (by rw [hh]))]
    refine z_iload d_Md_equal_24 rfl ?_
    refine z_aload_n d_Md_equal_26 rfl rfl ?_
    refine z_mg HG d_Md_equal_27 (L_Md_13 HG) (by decide) rfl ?_
    refine z_iload_n d_Md_equal_30 rfl rfl ?_
    refine z_ml HG 2 d_Md_equal_31 (by decide) (show _ < 43 by omega) hl.1 ?_
    refine z_icmp_ge (tgt := 68) d_Md_equal_32 rfl (fun c32 => ?_) (fun c32 => ?_)
    · rw [nI_leI (by omega) (by omega)] at c32
      refine z_iload_n d_Md_equal_68 rfl rfl ?_
      exact z_ireturn d_Md_equal_69 rfl rfl ⟨rfl, rfl⟩
    · rw [nI_leI (by omega) (by omega)] at c32
      refine z_iload_n d_Md_equal_35 rfl rfl ?_
      refine z_if_eq (tgt := 68) d_Md_equal_36 rfl (fun c36 => ?_) (fun c36 => ?_)
      · rw [← nI_0, nI_eq (by omega) (by omega)] at c36
        refine z_iload_n d_Md_equal_68 rfl rfl ?_
        exact z_ireturn d_Md_equal_69 rfl rfl ⟨rfl, rfl⟩
      · rw [← nI_0, nI_eq (by omega) (by omega)] at c36
        omega
  · rw [nI_eq (by omega) (by omega)] at c12
    refine z_iconst (v := nI 1) d_Md_equal_15 (by decide) ?_
    refine z_goto (tgt := 20) d_Md_equal_16 rfl ?_
    refine z_istore_n d_Md_equal_20 rfl (by decide) ?_
    refine z_iconst (v := nI 0) d_Md_equal_21 (by decide) ?_
    refine z_istore d_Md_equal_22 (by decide) ?_
    refine z_fg [(0, .ref q), (1, .int (nI r)), (2, .int (nI r2)), (3, .int (nI 1)), (4, .int (nI 0))] ⟨rfl, rfl, rfl, rfl, rfl, trivial⟩ ?_
    exact l_Md_equal HG hr hr2 hl hl2 c12 l.length 0 (by omega) (fun j hj => absurd hj (Nat.not_lt_zero _))
/-- room for one more judgement at n is made -/
def m_pu (n e : Nat) (A A' : Nat → Nat → Int32) : Prop := (∀ k, k ≠ 2 → k ≠ 3 → A' k = A k) ∧ (∀ j, j ≠ n → j ≠ 6 + n → A' 2 j = A 2 j) ∧ (∀ j, j ≠ n → A' 3 j = A 3 j) ∧ A' 3 n = nI e ∧ mrow A' n [] ∧ mrow A' (6 + n) []
theorem c_Md_pushX (HG : z_ok G) (h3 : s 3 = nI 6) : z_C G m_Md_push d [.ref q] (md G h q s A) (z_rq (some (.int (nI 0))) (md G h q s A)) := by
  refine z_C.of (Nat.le_of_ble_eq_true rfl) ?_
  refine z_aload_n d_Md_push_0 rfl rfl ?_
  refine z_mg HG d_Md_push_1 (L_Md_107 HG) (by decide) rfl ?_
  refine z_eqi h3 ?_
  refine z_bipush (v := nI 6) d_Md_push_4 (by decide +kernel) ?_
  refine z_icmp_ne (tgt := 11) d_Md_push_6 rfl (fun c6 => ?_) (fun c6 => ?_)
  · rw [nI_eq (by omega) (by omega)] at c6
    omega
  · rw [nI_eq (by omega) (by omega)] at c6
    refine z_iconst (v := nI 0) d_Md_push_9 (by decide) ?_
    exact z_ireturn d_Md_push_10 rfl rfl ⟨rfl, rfl⟩
theorem c_Md_push (HG : z_ok G) {ne : Nat} (hn : n < 6) (h3 : s 3 = nI n) (h5 : s 5 = nI ne) : z_C G m_Md_push d [.ref q] (md G h q s A) (m_post G h q (fun o s' A' => o = some (.int (nI 1)) ∧ s' = va_up s 3 (nI (n + 1)) ∧ m_pu n ne A A')) := by
  refine z_C.of (Nat.le_of_ble_eq_true rfl) ?_
  refine z_aload_n d_Md_push_0 rfl rfl ?_
  refine z_mg HG d_Md_push_1 (L_Md_107 HG) (by decide) rfl ?_
  refine z_eqi h3 ?_
  refine z_bipush (v := nI 6) d_Md_push_4 (by decide +kernel) ?_
  refine z_icmp_ne (tgt := 11) d_Md_push_6 rfl (fun c6 => ?_) (fun c6 => ?_)
  · rw [nI_eq (by omega) (by omega)] at c6
    refine z_aload_n d_Md_push_11 rfl rfl ?_
    refine z_mg HG d_Md_push_12 (L_Md_13 HG) (by decide) rfl ?_
    refine z_iconst (v := nI 0) d_Md_push_15 (by decide) ?_
    refine z_aload_n d_Md_push_16 rfl rfl ?_
    refine z_mg HG d_Md_push_17 (L_Md_107 HG) (by decide) rfl ?_
    refine z_eqi h3 ?_
    refine z_iadd d_Md_push_20 ?_
    refine z_eqi ((nI_add _ _).trans (pk_bump (Nat.zero_add n))) ?_
    refine z_iconst (v := nI 0) d_Md_push_21 (by decide) ?_
    refine z_ms HG 2 d_Md_push_22 (by decide) (show _ < 43 by omega) ?_
    refine z_aload_n d_Md_push_23 rfl rfl ?_
    refine z_mg HG d_Md_push_24 (L_Md_13 HG) (by decide) rfl ?_
    refine z_bipush (v := nI 6) d_Md_push_27 (by decide +kernel) ?_
    refine z_aload_n d_Md_push_29 rfl rfl ?_
    refine z_mg HG d_Md_push_30 (L_Md_107 HG) (by decide) rfl ?_
    refine z_eqi h3 ?_
    refine z_iadd d_Md_push_33 ?_
    refine z_eqi (nI_add _ _) ?_
    refine z_iconst (v := nI 0) d_Md_push_34 (by decide) ?_
    refine z_ms HG 2 d_Md_push_35 (by decide) (show _ < 43 by omega) ?_
    refine z_aload_n d_Md_push_36 rfl rfl ?_
    refine z_mg HG d_Md_push_37 (L_Md_16 HG) (by decide) rfl ?_
    refine z_aload_n d_Md_push_40 rfl rfl ?_
    refine z_mg HG d_Md_push_41 (L_Md_107 HG) (by decide) rfl ?_
    refine z_eqi h3 ?_
    refine z_aload_n d_Md_push_44 rfl rfl ?_
    refine z_mg HG d_Md_push_45 (L_Md_104 HG) (by decide) rfl ?_
    refine z_eqi h5 ?_
    refine z_ms HG 3 d_Md_push_48 (by decide) (show _ < 6 by omega) ?_
    have z0 := m_wr.zero A n
    have y0 : va_up A 2 (upd (A 2) n (nI 0)) 1 = A 1 := va_up_ne _ _ (by decide)
    generalize va_up A 2 (upd (A 2) n (nI 0)) = B at z0 y0 ⊢
    have z1 := m_wr.zero B (6 + n)
    have y1 : va_up B 2 (upd (B 2) (6 + n) (nI 0)) 1 = B 1 := va_up_ne _ _ (by decide)
    generalize va_up B 2 (upd (B 2) (6 + n) (nI 0)) = C at z1 y1 ⊢
    have pf : m_pu n ne A (va_up C 3 (upd (C 3) n (nI ne))) := by
      have e1 : ∀ k, k ≠ 3 → va_up C 3 (upd (C 3) n (nI ne)) k = C k := fun k hk => va_up_ne _ _ hk
      refine ⟨fun k k2 k3 => ?_, fun j j1 j2 => ?_, fun j hj => ?_, ?_, ?_, ?_⟩
      · rw [e1 k k3]
        by_cases k1 : k = 1
        · subst k1
          rw [y1, y0]
        · rw [z1.1 k k1 k2, z0.1 k k1 k2]
      · rw [e1 2 (by decide), z1.2.1 j j2, z0.2.1 j j1]
      · rw [va_up_self]
        exact (if_neg hj).trans (by rw [z1.1 3 (by decide) (by decide), z0.1 3 (by decide) (by decide)])
      · rw [va_up_self]
        exact if_pos rfl
      · exact (z1.keep (by omega) z0.row).eqv (e1 1 (by decide)) (e1 2 (by decide))
      · exact z1.row.eqv (e1 1 (by decide)) (e1 2 (by decide))
    refine z_aload_n d_Md_push_49 rfl rfl ?_
    refine z_dup d_Md_push_50 rfl ?_
    refine z_mg HG d_Md_push_51 (L_Md_107 HG) (by decide) rfl ?_
    refine z_eqi h3 ?_
    refine z_iconst (v := nI 1) d_Md_push_54 (by decide) ?_
    refine z_iadd d_Md_push_55 ?_
    refine z_eqi (nI_add _ _) ?_
    refine z_mp HG d_Md_push_56 (L_Md_107 HG) (by decide) rfl rfl rfl rfl ?_
    refine z_iconst (v := nI 1) d_Md_push_59 (by decide) ?_
    exact z_ireturn d_Md_push_60 rfl rfl ⟨_, _, _, rfl, rfl, rfl, rfl, pf⟩
  · rw [nI_eq (by omega) (by omega)] at c6
    omega
end MZ
