/-! counts, judgement, made, entry, type, side -/
def p_at (l : List Nat) (i : Int32) : Int32 := match k_ix i l.length with
  | none => -1
  | some j => nI (l.getD j 0)
theorem k_at_rl {f : Nat → Int32} {l : List Nat} (h : rl f l) (i : Int32) : k_at l.length f i = p_at l i := by
  have h40 := h.len
  unfold p_at k_ix k_at
  by_cases h1 : i < 0
  · rw [if_pos h1, if_pos h1]
  · by_cases h2 : nI l.length ≤ i
    · rw [if_neg h1, if_neg h1, if_pos h2, if_pos h2]
    · rw [if_neg h1, if_neg h1, if_neg h2, if_neg h2]
      rcases pk_ix i (n := l.length) (by omega) with h | h' | ⟨j, hj, rfl⟩
      · exact absurd h h1
      · exact absurd h' h2
      · simp only []
        rw [nI_clamp (by omega), h.eq hj]
section KL
variable {G : z_G} {h : z_H} {d o : Nat} {K : pK}
theorem c_TK_counts (HG : z_ok G) (H : KAt G h o K) : z_C G m_TK_counts d [.ref o] h (z_rq (some (.int (nI (K.1.length + 8 * K.2.1.length + 64 * K.2.2.1.length + 1024 * K.2.2.2.length)))) h) := by
  obtain ⟨x, a, b, nb, fx, fb, g, fr', hab, hq, -⟩ := H.2.2.2.2.2.2.1
  refine z_C.of (Nat.le_of_ble_eq_true rfl) ?_
  refine z_aload_n d_TK_counts_0 rfl rfl ?_
  refine z_getf (L_TK_15K HG) (by decide) (L_TK_15 HG) d_TK_counts_1 H.2.1 (by rfl) ?_
  refine z_bipush (v := nI 8) d_TK_counts_4 (by decide +kernel) ?_
  refine z_aload_n d_TK_counts_6 rfl rfl ?_
  refine z_getf (L_TK_25K HG) (by decide) (L_TK_25 HG) d_TK_counts_7 H.2.1 (by rfl) ?_
  refine z_imul d_TK_counts_10 ?_
  rw [pk_mul]
  refine z_iadd d_TK_counts_11 ?_
  rw [nI_add]
  refine z_bipush (v := nI 64) d_TK_counts_12 (by decide +kernel) ?_
  refine z_aload_n d_TK_counts_14 rfl rfl ?_
  refine z_getf (L_TK_35K HG) (by decide) (L_TK_35 HG) d_TK_counts_15 H.2.1 (by rfl) ?_
  refine z_imul d_TK_counts_18 ?_
  rw [pk_mul]
  refine z_iadd d_TK_counts_19 ?_
  rw [nI_add]
  refine z_sipush (v := nI 1024) d_TK_counts_20 (by decide +kernel) ?_
  refine z_aload_n d_TK_counts_23 rfl rfl ?_
  refine z_getf (L_TK_41K HG) (by decide) (L_TK_41 HG) d_TK_counts_24 H.2.1 (by rfl) ?_
  refine z_getf (L_TK_149K HG) (by decide) (L_TK_149 HG) d_TK_counts_27 hq (by rfl) ?_
  refine z_imul d_TK_counts_30 ?_
  rw [pk_mul]
  refine z_iadd d_TK_counts_31 ?_
  rw [nI_add]
  exact z_ireturn d_TK_counts_32 rfl rfl ⟨rfl, rfl⟩
def k_judg (K : pK) (k t i : Int32) : Int32 := match k_ix k K.1.length with
  | none => -1
  | some j => if t = 0 then p_at ((K.1[j]?.getD (0, [], [])).2.1) i else p_at ((K.1[j]?.getD (0, [], [])).2.2) i
theorem c_TK_judgement (HG : z_ok G) (H : KAt G h o K) (k t i : Int32) : z_C G m_TK_judgement (d + 1) [.ref o, .int k, .int t, .int i] h (z_rq (some (.int (k_judg K k t i))) h) := by
  obtain ⟨l1, l2, l3⟩ := H.len
  unfold k_judg
  refine z_C.of (Nat.le_of_ble_eq_true rfl) ?_
  refine z_aload_n d_TK_judgement_0 rfl rfl ?_
  refine z_iload_n d_TK_judgement_1 rfl rfl ?_
  refine z_callV1r (dY := d) d_TK_judgement_2 rfl (by omega) (Y_TK_173 HG) H.2.1 (cl_TK HG) (Nat.le_of_ble_eq_true rfl) (c_TK_isJudgement HG H.2.1 k) ?_
  rcases k_ix_cases k (n := K.1.length) (by omega) with ⟨e1, e2⟩ | ⟨j, hj, rfl, e1, e2⟩
  · rw [e1, e2]
    refine z_if_ne (tgt := 10) d_TK_judgement_5 rfl (fun c1 => absurd nI_0 c1) (fun c1 => ?_)
    refine z_iconst (v := -1) d_TK_judgement_8 (by decide) ?_
    exact z_ireturn d_TK_judgement_9 rfl rfl ⟨rfl, rfl⟩
  · rw [e1, e2]
    refine z_if_ne (tgt := 10) d_TK_judgement_5 rfl (fun c1 => ?_) (fun c1 => absurd c1 (by decide))
    refine z_aload_n d_TK_judgement_10 rfl rfl ?_
    refine z_iload_n d_TK_judgement_11 rfl rfl ?_
    refine z_callV1r (dY := d) d_TK_judgement_12 rfl (by omega) (Y_TK_176 HG) H.2.1 (cl_TK HG) (Nat.le_of_ble_eq_true rfl) (c_TK_judgementAt HG H.2.1 H.1 l1 hj) ?_
    have hJ := List.getElem?_eq_getElem hj
    generalize K.1[j] = J at hJ
    have hu := H.2.2.1.get hJ
    obtain ⟨ft, rt, hlt⟩ := rowL.get hu.2.1
    obtain ⟨fy, ry, hly⟩ := rowL.get hu.2.2
    have hu := hu.ob
    generalize k_ju o (K.1.length - 1 - j) = u at *
    simp only [hJ, Option.getD_some]
    refine z_astore d_TK_judgement_15 (by decide) ?_
    refine z_iload_n d_TK_judgement_17 rfl rfl ?_
    refine z_if_eq (tgt := 33) d_TK_judgement_18 rfl (fun c2 => ?_) (fun c2 => ?_)
    · rw [if_pos c2]
      refine z_aload d_TK_judgement_33 rfl ?_
      refine z_getf (L_TK_64K HG) (by decide) (L_TK_64 HG) d_TK_judgement_35 hu (by rfl) ?_
      refine z_iload_n d_TK_judgement_38 rfl rfl ?_
      refine z_callV1r (dY := d) d_TK_judgement_39 rfl (by omega) (Y_TK_107 HG) rt.1 (cl_Row HG) (Nat.le_of_ble_eq_true rfl) (c_Row_at HG rt hlt.len i) ?_
      rw [k_at_rl hlt]
      exact z_ireturn d_TK_judgement_42 rfl rfl ⟨rfl, rfl⟩
    · rw [if_neg c2]
      refine z_aload d_TK_judgement_21 rfl ?_
      refine z_getf (L_TK_71K HG) (by decide) (L_TK_71 HG) d_TK_judgement_23 hu (by rfl) ?_
      refine z_iload_n d_TK_judgement_26 rfl rfl ?_
      refine z_callV1r (dY := d) d_TK_judgement_27 rfl (by omega) (Y_TK_107 HG) ry.1 (cl_Row HG) (Nat.le_of_ble_eq_true rfl) (c_Row_at HG ry hly.len i) ?_
      rw [k_at_rl hly]
      refine z_goto (tgt := 42) d_TK_judgement_30 rfl ?_
      exact z_ireturn d_TK_judgement_42 rfl rfl ⟨rfl, rfl⟩
def k_made (K : pK) (k : Int32) : Int32 := match k_ix k K.1.length with
  | none => -1
  | some j => nI (K.1[j]?.getD (0, [], [])).1
theorem c_TK_made (HG : z_ok G) (H : KAt G h o K) (k : Int32) : z_C G m_TK_made (d + 1) [.ref o, .int k] h (z_rq (some (.int (k_made K k))) h) := by
  obtain ⟨l1, l2, l3⟩ := H.len
  unfold k_made
  refine z_C.of (Nat.le_of_ble_eq_true rfl) ?_
  refine z_aload_n d_TK_made_0 rfl rfl ?_
  refine z_iload_n d_TK_made_1 rfl rfl ?_
  refine z_callV1r (dY := d) d_TK_made_2 rfl (by omega) (Y_TK_173 HG) H.2.1 (cl_TK HG) (Nat.le_of_ble_eq_true rfl) (c_TK_isJudgement HG H.2.1 k) ?_
  rcases k_ix_cases k (n := K.1.length) (by omega) with ⟨e1, e2⟩ | ⟨j, hj, rfl, e1, e2⟩
  · rw [e1, e2]
    refine z_if_eq (tgt := 19) d_TK_made_5 rfl (fun c1 => ?_) (fun c1 => absurd nI_0 c1)
    refine z_iconst (v := -1) d_TK_made_19 (by decide) ?_
    exact z_ireturn d_TK_made_20 rfl rfl ⟨rfl, rfl⟩
  · rw [e1, e2]
    refine z_if_eq (tgt := 19) d_TK_made_5 rfl (fun c1 => absurd c1 (by decide)) (fun c1 => ?_)
    refine z_aload_n d_TK_made_8 rfl rfl ?_
    refine z_iload_n d_TK_made_9 rfl rfl ?_
    refine z_callV1r (dY := d) d_TK_made_10 rfl (by omega) (Y_TK_176 HG) H.2.1 (cl_TK HG) (Nat.le_of_ble_eq_true rfl) (c_TK_judgementAt HG H.2.1 H.1 l1 hj) ?_
    have hJ := List.getElem?_eq_getElem hj
    generalize K.1[j] = J at hJ
    have hu := (H.2.2.1.get hJ).ob
    simp only [hJ, Option.getD_some]
    refine z_getf (L_TK_166K HG) (by decide) (L_TK_166 HG) d_TK_made_13 hu (by rfl) ?_
    refine z_goto (tgt := 20) d_TK_made_16 rfl ?_
    exact z_ireturn d_TK_made_20 rfl rfl ⟨rfl, rfl⟩
def k_entry (K : pK) (k i : Int32) : Int32 := match k_ix k K.2.1.length with
  | none => -1
  | some j => p_at (K.2.1[j]?.getD []) i
theorem c_TK_entry (HG : z_ok G) (H : KAt G h o K) (k i : Int32) : z_C G m_TK_entry (d + 1) [.ref o, .int k, .int i] h (z_rq (some (.int (k_entry K k i))) h) := by
  obtain ⟨l1, l2, l3⟩ := H.len
  unfold k_entry
  refine z_C.of (Nat.le_of_ble_eq_true rfl) ?_
  refine z_aload_n d_TK_entry_0 rfl rfl ?_
  refine z_iload_n d_TK_entry_1 rfl rfl ?_
  refine z_callV1r (dY := d) d_TK_entry_2 rfl (by omega) (Y_TK_85 HG) H.2.1 (cl_TK HG) (Nat.le_of_ble_eq_true rfl) (c_TK_isEntry HG H.2.1 k) ?_
  rcases k_ix_cases k (n := K.2.1.length) (by omega) with ⟨e1, e2⟩ | ⟨j, hj, rfl, e1, e2⟩
  · rw [e1, e2]
    refine z_if_eq (tgt := 20) d_TK_entry_5 rfl (fun c1 => ?_) (fun c1 => absurd nI_0 c1)
    refine z_iconst (v := -1) d_TK_entry_20 (by decide) ?_
    exact z_ireturn d_TK_entry_21 rfl rfl ⟨rfl, rfl⟩
  · rw [e1, e2]
    refine z_if_eq (tgt := 20) d_TK_entry_5 rfl (fun c1 => absurd c1 (by decide)) (fun c1 => ?_)
    refine z_aload_n d_TK_entry_8 rfl rfl ?_
    refine z_iload_n d_TK_entry_9 rfl rfl ?_
    refine z_callV1r (dY := d) d_TK_entry_10 rfl (by omega) (Y_TK_91 HG) H.2.1 (cl_TK HG) (Nat.le_of_ble_eq_true rfl) (c_TK_entryAt HG H.2.1 H.1 l2 hj) ?_
    have hJ := List.getElem?_eq_getElem hj
    generalize K.2.1[j] = c at hJ
    obtain ⟨f, r, hl⟩ := (H.2.2.2.1.get hJ).get
    simp only [hJ, Option.getD_some]
    refine z_iload_n d_TK_entry_13 rfl rfl ?_
    refine z_callV1r (dY := d) d_TK_entry_14 rfl (by omega) (Y_TK_107 HG) r.1 (cl_Row HG) (Nat.le_of_ble_eq_true rfl) (c_Row_at HG r hl.len i) ?_
    rw [k_at_rl hl]
    refine z_goto (tgt := 21) d_TK_entry_17 rfl ?_
    exact z_ireturn d_TK_entry_21 rfl rfl ⟨rfl, rfl⟩
def k_type (K : pK) (k i : Int32) : Int32 := match k_ix k K.2.2.1.length with
  | none => -1
  | some j => if i = -1 then (if (K.2.2.1[j]?.getD ([], false)).2 = true then nI 1 else nI 0) else p_at (K.2.2.1[j]?.getD ([], false)).1 i
theorem c_TK_type (HG : z_ok G) (H : KAt G h o K) (k i : Int32) : z_C G m_TK_type (d + 1) [.ref o, .int k, .int i] h (z_rq (some (.int (k_type K k i))) h) := by
  obtain ⟨l1, l2, l3⟩ := H.len
  unfold k_type
  refine z_C.of (Nat.le_of_ble_eq_true rfl) ?_
  refine z_aload_n d_TK_type_0 rfl rfl ?_
  refine z_iload_n d_TK_type_1 rfl rfl ?_
  refine z_callV1r (dY := d) d_TK_type_2 rfl (by omega) (Y_TK_74 HG) H.2.1 (cl_TK HG) (Nat.le_of_ble_eq_true rfl) (c_TK_isConstant HG H.2.1 k) ?_
  rcases k_ix_cases k (n := K.2.2.1.length) (by omega) with ⟨e1, e2⟩ | ⟨j, hj, rfl, e1, e2⟩
  · rw [e1, e2]
    refine z_if_ne (tgt := 10) d_TK_type_5 rfl (fun c1 => absurd nI_0 c1) (fun c1 => ?_)
    refine z_iconst (v := -1) d_TK_type_8 (by decide) ?_
    exact z_ireturn d_TK_type_9 rfl rfl ⟨rfl, rfl⟩
  · rw [e1, e2]
    refine z_if_ne (tgt := 10) d_TK_type_5 rfl (fun c1 => ?_) (fun c1 => absurd c1 (by decide))
    have hJ := List.getElem?_eq_getElem hj
    generalize K.2.2.1[j] = c at hJ
    obtain ⟨f, r, hl⟩ := (H.2.2.2.2.1.get hJ).get
    obtain ⟨fd, hd1, hd2⟩ := H.2.2.2.2.1.2
    obtain ⟨-, -, ff, ha3, hf3⟩ := H.1
    simp only [hJ, Option.getD_some]
    refine z_iload_n d_TK_type_10 rfl rfl ?_
    refine z_iconst (v := -1) d_TK_type_11 (by decide) ?_
    refine z_icmp_ne (tgt := 30) d_TK_type_12 rfl (fun c2 => ?_) (fun c2 => ?_)
    · rw [if_neg c2]
      refine z_aload_n d_TK_type_30 rfl rfl ?_
      refine z_getf (L_TK_28K HG) (by decide) (L_TK_28 HG) d_TK_type_31 H.2.1 (by rfl) ?_
      refine z_iload_n d_TK_type_34 rfl rfl ?_
      refine z_aald d_TK_type_35 (ty3 HG) ha3 (pk_in j 8 (by omega)) (by rw [nI_clamp (by omega)]; exact hf3 j (by omega)) ?_
      refine z_iload_n d_TK_type_36 rfl rfl ?_
      refine z_callV1r (dY := d) d_TK_type_37 rfl (by omega) (Y_TK_107 HG) r.1 (cl_Row HG) (Nat.le_of_ble_eq_true rfl) (c_Row_at HG r hl.len i) ?_
      rw [k_at_rl hl]
      exact z_ireturn d_TK_type_40 rfl rfl ⟨rfl, rfl⟩
    · rw [if_pos c2]
      refine z_aload_n d_TK_type_15 rfl rfl ?_
      refine z_getf (L_TK_31K HG) (by decide) (L_TK_31 HG) d_TK_type_16 H.2.1 (by rfl) ?_
      refine z_iload_n d_TK_type_19 rfl rfl ?_
      refine z_zald d_TK_type_20 (ty2 HG) hd1 (pk_in j 8 (by omega)) ?_
      rw [nI_clamp (by omega), hd2 j c hJ]
      by_cases hb : c.2 = true
      · rw [if_pos hb]
        refine z_if_eq (tgt := 28) d_TK_type_21 rfl (fun c3 => absurd c3 (by decide)) (fun c3 => ?_)
        refine z_iconst (v := nI 1) d_TK_type_24 (by decide) ?_
        refine z_goto (tgt := 29) d_TK_type_25 rfl ?_
        exact z_ireturn d_TK_type_29 rfl rfl ⟨rfl, rfl⟩
      · rw [if_neg hb]
        refine z_if_eq (tgt := 28) d_TK_type_21 rfl (fun c3 => ?_) (fun c3 => absurd nI_0 c3)
        refine z_iconst (v := nI 0) d_TK_type_28 (by decide) ?_
        exact z_ireturn d_TK_type_29 rfl rfl ⟨rfl, rfl⟩
def k_side (K : pK) (k t i : Int32) : Int32 := match k_ix k K.2.2.2.length with
  | none => -1
  | some j => if i = -1 then nI (K.2.2.2[j]?.getD ([], [], 0)).2.2 else if t = 0 then p_at (K.2.2.2[j]?.getD ([], [], 0)).1 i else p_at (K.2.2.2[j]?.getD ([], [], 0)).2.1 i
theorem c_TK_side (HG : z_ok G) (H : KAt G h o K) (k t i : Int32) : z_C G m_TK_side (d + 1) [.ref o, .int k, .int t, .int i] h (z_rq (some (.int (k_side K k t i))) h) := by
  obtain ⟨x, a, b, nb, fx, fb, g, fr', hab, hq, h1, hfr, -, -, -, -, -, hR⟩ := H.2.2.2.2.2.2.1
  have h8 := hR.1
  unfold k_side
  refine z_C.of (Nat.le_of_ble_eq_true rfl) ?_
  refine z_iload_n d_TK_side_0 rfl rfl ?_
  rcases pk_ix k (n := K.2.2.2.length) (by omega) with hk | hk | ⟨j, hj, rfl⟩
  · have e1 : k_ix k K.2.2.2.length = none := by
      unfold k_ix
      rw [if_pos hk]
    rw [e1]
    refine z_if_lt (tgt := 15) d_TK_side_1 rfl (fun c1 => ?_) (fun c1 => absurd hk c1)
    refine z_iconst (v := -1) d_TK_side_15 (by decide) ?_
    exact z_ireturn d_TK_side_16 rfl rfl ⟨rfl, rfl⟩
  · have e1 : k_ix k K.2.2.2.length = none := by
      unfold k_ix
      by_cases hk0 : k < 0
      · rw [if_pos hk0]
      · rw [if_neg hk0, if_pos hk]
    rw [e1]
    refine z_if_lt (tgt := 15) d_TK_side_1 rfl (fun c1 => ?_) (fun c1 => ?_)
    · refine z_iconst (v := -1) d_TK_side_15 (by decide) ?_
      exact z_ireturn d_TK_side_16 rfl rfl ⟨rfl, rfl⟩
    · refine z_iload_n d_TK_side_4 rfl rfl ?_
      refine z_aload_n d_TK_side_5 rfl rfl ?_
      refine z_getf (L_TK_41K HG) (by decide) (L_TK_41 HG) d_TK_side_6 H.2.1 (by rfl) ?_
      refine z_getf (L_TK_149K HG) (by decide) (L_TK_149 HG) d_TK_side_9 hq (by rfl) ?_
      refine z_icmp_lt (tgt := 17) d_TK_side_12 rfl (fun c2 => ?_) (fun c2 => ?_)
      · rw [Int32.lt_iff_toInt_lt] at c2
        rw [Int32.le_iff_toInt_le] at hk
        omega
      · refine z_iconst (v := -1) d_TK_side_15 (by decide) ?_
        exact z_ireturn d_TK_side_16 rfl rfl ⟨rfl, rfl⟩
  · have e1 : k_ix (nI j) K.2.2.2.length = some j := by
      unfold k_ix
      rw [if_neg (nI_pos (by omega)), if_neg (nI_ge hj (by omega)), nI_clamp (by omega)]
    rw [e1]
    have hJ := List.getElem?_eq_getElem hj
    generalize K.2.2.2[j] = R at hJ
    obtain ⟨hnv, hu, ⟨fl, rl1, hl1⟩, fr, rr1, hr1⟩ := hR.2 j R hJ
    simp only [hJ, Option.getD_some]
    refine z_if_lt (tgt := 15) d_TK_side_1 rfl (fun c1 => absurd c1 (nI_pos (by omega))) (fun c1 => ?_)
    refine z_iload_n d_TK_side_4 rfl rfl ?_
    refine z_aload_n d_TK_side_5 rfl rfl ?_
    refine z_getf (L_TK_41K HG) (by decide) (L_TK_41 HG) d_TK_side_6 H.2.1 (by rfl) ?_
    refine z_getf (L_TK_149K HG) (by decide) (L_TK_149 HG) d_TK_side_9 hq (by rfl) ?_
    refine z_icmp_lt (tgt := 17) d_TK_side_12 rfl (fun c2 => ?_) (fun c2 => absurd (nI_lt hj (by omega)) c2)
    refine z_aload_n d_TK_side_17 rfl rfl ?_
    refine z_getf (L_TK_41K HG) (by decide) (L_TK_41 HG) d_TK_side_18 H.2.1 (by rfl) ?_
    refine z_getf (L_TK_179K HG) (by decide) (L_TK_179 HG) d_TK_side_21 hq (by rfl) ?_
    refine z_iload_n d_TK_side_24 rfl rfl ?_
    refine z_aald d_TK_side_25 (ty5 HG) h1 (pk_in j 8 (by omega)) (by rw [nI_clamp (by omega)]; exact hfr j (by omega)) ?_
    refine z_astore d_TK_side_26 (by decide) ?_
    refine z_iload_n d_TK_side_28 rfl rfl ?_
    refine z_iconst (v := -1) d_TK_side_29 (by decide) ?_
    refine z_icmp_ne (tgt := 39) d_TK_side_30 rfl (fun c3 => ?_) (fun c3 => ?_)
    · rw [if_neg c3]
      refine z_iload_n d_TK_side_39 rfl rfl ?_
      refine z_if_eq (tgt := 55) d_TK_side_40 rfl (fun c4 => ?_) (fun c4 => ?_)
      · rw [if_pos c4]
        refine z_aload d_TK_side_55 rfl ?_
        refine z_getf (L_TK_191K HG) (by decide) (L_TK_191 HG) d_TK_side_57 hu (by rfl) ?_
        refine z_iload_n d_TK_side_60 rfl rfl ?_
        refine z_callV1r (dY := d) d_TK_side_61 rfl (by omega) (Y_TK_107 HG) rl1.1 (cl_Row HG) (Nat.le_of_ble_eq_true rfl) (c_Row_at HG rl1 hl1.len i) ?_
        rw [k_at_rl hl1]
        exact z_ireturn d_TK_side_64 rfl rfl ⟨rfl, rfl⟩
      · rw [if_neg c4]
        refine z_aload d_TK_side_43 rfl ?_
        refine z_getf (L_TK_188K HG) (by decide) (L_TK_188 HG) d_TK_side_45 hu (by rfl) ?_
        refine z_iload_n d_TK_side_48 rfl rfl ?_
        refine z_callV1r (dY := d) d_TK_side_49 rfl (by omega) (Y_TK_107 HG) rr1.1 (cl_Row HG) (Nat.le_of_ble_eq_true rfl) (c_Row_at HG rr1 hr1.len i) ?_
        rw [k_at_rl hr1]
        refine z_goto (tgt := 64) d_TK_side_52 rfl ?_
        exact z_ireturn d_TK_side_64 rfl rfl ⟨rfl, rfl⟩
    · rw [if_pos c3]
      refine z_aload d_TK_side_33 rfl ?_
      refine z_getf (L_TK_183K HG) (by decide) (L_TK_183 HG) d_TK_side_35 hu (by rfl) ?_
      exact z_ireturn d_TK_side_38 rfl rfl ⟨rfl, rfl⟩
end KL
