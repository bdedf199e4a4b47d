/-! mayStandInPattern, isLeftSide, rule -/
def p_may (l : List Nat) (i : Nat) : Bool := if 100 ≤ l.getD i 0 then (decide (i = 0) || !decide (l.getD (i - 1) 0 = 2)) else (decide (10 ≤ l.getD i 0) || decide (l.getD i 0 = 2))
theorem p_head_lt {n : Nat} : ∀ {l : List Nat} {d : Nat} {S : List Nat}, p_wf n (d :: S) l → p_head l < l.length
  | [], d, S, h => by cases h
  | v :: l, d, S, h => by
    unfold p_head
    by_cases hv : v = 2
    · rw [if_pos hv]
      subst hv
      have h2 : p_wf n (d :: d :: S) l := h.2
      exact Nat.succ_lt_succ (p_head_lt h2)
    · rw [if_neg hv]
      simp
def p_left (ks : List (List Nat × Bool)) (ne : Nat) (l : List Nat) : Bool :=
  (decide (10 ≤ l.getD (p_head l) 0) && (ks[l.getD (p_head l) 0 - 10]?.map (·.2)).getD false) && (List.range l.length).all (p_may l) && (List.range ne).all (fun v => decide (l.count (100 + v) = 1))
section KR
variable {G : z_G} {h : z_H} {d o r : Nat} {f : Nat → Int32} {l : List Nat}
theorem c_TK_may (HG : z_ok G) (hr : rowAt G h r l.length f) (hl : rl f l) {i : Nat} (hi : i < l.length) : z_C G m_TK_mayStandInPattern (d + 1) [.ref r, .int (nI i)] h (z_rq (some (.int (if p_may l i = true then nI 1 else nI 0))) h) := by
  have h40 := hl.len
  have hv := hl.lt hi
  unfold p_may
  refine z_C.of (Nat.le_of_ble_eq_true rfl) ?_
  refine z_aload_n d_TK_mayStandInPattern_0 rfl rfl ?_
  refine z_iload_n d_TK_mayStandInPattern_1 rfl rfl ?_
  refine z_callV1r (dY := d) d_TK_mayStandInPattern_2 rfl (by omega) (Y_TK_107 HG) hr.1 (cl_Row HG) (Nat.le_of_ble_eq_true rfl) (c_Row_at HG hr h40 (nI i)) ?_
  rw [k_at_in f hi h40, hl.eq hi]
  generalize l.getD i 0 = v at hv ⊢
  refine z_istore_n d_TK_mayStandInPattern_5 rfl (by decide) ?_
  refine z_iload_n d_TK_mayStandInPattern_6 rfl rfl ?_
  refine z_bipush (v := nI 100) d_TK_mayStandInPattern_7 (by decide +kernel) ?_
  refine z_icmp_lt (tgt := 29) d_TK_mayStandInPattern_9 rfl (fun c1 => ?_) (fun c1 => ?_)
  · rw [nI_ltI (by omega) (by omega)] at c1
    rw [if_neg (show ¬ 100 ≤ v by omega)]
    refine z_iload_n d_TK_mayStandInPattern_29 rfl rfl ?_
    refine z_bipush (v := nI 10) d_TK_mayStandInPattern_30 (by decide +kernel) ?_
    refine z_icmp_ge (tgt := 40) d_TK_mayStandInPattern_32 rfl (fun c2 => ?_) (fun c2 => ?_)
    · rw [nI_leI (by omega) (by omega)] at c2
      rw [if_pos (by simp [c2])]
      refine z_iconst (v := nI 1) d_TK_mayStandInPattern_40 (by decide) ?_
      refine z_goto (tgt := 45) d_TK_mayStandInPattern_41 rfl ?_
      exact z_ireturn d_TK_mayStandInPattern_45 rfl rfl ⟨rfl, rfl⟩
    · rw [nI_leI (by omega) (by omega)] at c2
      refine z_iload_n d_TK_mayStandInPattern_35 rfl rfl ?_
      refine z_iconst (v := nI 2) d_TK_mayStandInPattern_36 (by decide) ?_
      refine z_icmp_ne (tgt := 44) d_TK_mayStandInPattern_37 rfl (fun c3 => ?_) (fun c3 => ?_)
      · rw [nI_eq (by omega) (by omega)] at c3
        rw [if_neg (by simp [c2, c3])]
        refine z_iconst (v := nI 0) d_TK_mayStandInPattern_44 (by decide) ?_
        exact z_ireturn d_TK_mayStandInPattern_45 rfl rfl ⟨rfl, rfl⟩
      · rw [nI_eq (by omega) (by omega)] at c3
        rw [if_pos (by simp [c3])]
        refine z_iconst (v := nI 1) d_TK_mayStandInPattern_40 (by decide) ?_
        refine z_goto (tgt := 45) d_TK_mayStandInPattern_41 rfl ?_
        exact z_ireturn d_TK_mayStandInPattern_45 rfl rfl ⟨rfl, rfl⟩
  · rw [nI_ltI (by omega) (by omega)] at c1
    rw [if_pos (show 100 ≤ v by omega)]
    refine z_aload_n d_TK_mayStandInPattern_12 rfl rfl ?_
    refine z_iload_n d_TK_mayStandInPattern_13 rfl rfl ?_
    refine z_iconst (v := nI 1) d_TK_mayStandInPattern_14 (by decide) ?_
    refine z_isub d_TK_mayStandInPattern_15 ?_
    refine z_callV1r (dY := d) d_TK_mayStandInPattern_16 rfl (by omega) (Y_TK_107 HG) hr.1 (cl_Row HG) (Nat.le_of_ble_eq_true rfl) (c_Row_at HG hr h40 (nI i - nI 1)) ?_
    refine z_iconst (v := nI 2) d_TK_mayStandInPattern_19 (by decide) ?_
    by_cases hi0 : i = 0
    · have e : k_at l.length f (nI i - nI 1) = -1 := by
        unfold k_at
        rw [if_pos (pk_sneg (by omega) (by omega))]
      rw [e, if_pos (by simp [hi0])]
      refine z_icmp_eq (tgt := 27) d_TK_mayStandInPattern_20 rfl (fun c2 => absurd c2 (by decide)) (fun c2 => ?_)
      refine z_iconst (v := nI 1) d_TK_mayStandInPattern_23 (by decide) ?_
      refine z_goto (tgt := 28) d_TK_mayStandInPattern_24 rfl ?_
      exact z_ireturn d_TK_mayStandInPattern_28 rfl rfl ⟨rfl, rfl⟩
    · have hw := hl.lt (i := i - 1) (by omega)
      rw [pk_sub (by omega), k_at_in f (by omega) h40, hl.eq (by omega)]
      refine z_icmp_eq (tgt := 27) d_TK_mayStandInPattern_20 rfl (fun c2 => ?_) (fun c2 => ?_)
      · rw [nI_eq (by omega) (by omega)] at c2
        rw [if_neg (by rw [decide_eq_false hi0, decide_eq_true c2]; decide)]
        refine z_iconst (v := nI 0) d_TK_mayStandInPattern_27 (by decide) ?_
        exact z_ireturn d_TK_mayStandInPattern_28 rfl rfl ⟨rfl, rfl⟩
      · rw [nI_eq (by omega) (by omega)] at c2
        rw [if_pos (by rw [decide_eq_false c2]; simp)]
        refine z_iconst (v := nI 1) d_TK_mayStandInPattern_23 (by decide) ?_
        refine z_goto (tgt := 28) d_TK_mayStandInPattern_24 rfl ?_
        exact z_ireturn d_TK_mayStandInPattern_28 rfl rfl ⟨rfl, rfl⟩
theorem l_leftA (HG : z_ok G) {Q : z_R → z_H → Prop} (hr : rowAt G h r l.length f) (hl : rl f l) : ∀ (c i : Nat), i + c = l.length →
    ((∀ j, i ≤ j → j < l.length → p_may l j = true) → z_V G m_TK_isLeftSide (d + 2) 61 [(0, .ref o), (1, .ref r)] [] h Q) → (¬ (∀ j, i ≤ j → j < l.length → p_may l j = true) → Q (.inl (some (.int (nI 0)))) h) →
    z_V G m_TK_isLeftSide (d + 2) 37 [(0, .ref o), (1, .ref r), (3, .int (nI i))] [] h Q := by
  have h40 := hl.len
  intro c
  induction c with
  | zero =>
    intro i hi kk kx
    refine z_iload_n d_TK_isLeftSide_37 rfl rfl ?_
    refine z_aload_n d_TK_isLeftSide_38 rfl rfl ?_
    refine z_getf (L_TK_197K HG) (by decide) (L_TK_197 HG) d_TK_isLeftSide_39 hr.1 (by rfl) ?_
    refine z_icmp_ge (tgt := 61) d_TK_isLeftSide_42 rfl (fun c1 => ?_) (fun c1 => ?_)
    · exact z_fg [(0, .ref o), (1, .ref r)] ⟨rfl, rfl, trivial⟩ (kk (fun j h1 h2 => by omega))
    · rw [nI_leI (by omega) (by omega)] at c1
      omega
  | succ c ih =>
    intro i hi kk kx
    refine z_iload_n d_TK_isLeftSide_37 rfl rfl ?_
    refine z_aload_n d_TK_isLeftSide_38 rfl rfl ?_
    refine z_getf (L_TK_197K HG) (by decide) (L_TK_197 HG) d_TK_isLeftSide_39 hr.1 (by rfl) ?_
    refine z_icmp_ge (tgt := 61) d_TK_isLeftSide_42 rfl (fun c1 => ?_) (fun c1 => ?_)
    · rw [nI_leI (by omega) (by omega)] at c1
      omega
    · refine z_aload_n d_TK_isLeftSide_45 rfl rfl ?_
      refine z_iload_n d_TK_isLeftSide_46 rfl rfl ?_
      refine z_callS2r (dY := d + 1) d_TK_isLeftSide_47 rfl (by omega) (Y_TK_200 HG) (Nat.le_of_ble_eq_true rfl) (c_TK_may HG hr hl (show i < l.length by omega)) ?_
      by_cases hm : p_may l i = true
      · rw [if_pos hm]
        refine z_if_ne (tgt := 55) d_TK_isLeftSide_50 rfl (fun c2 => ?_) (fun c2 => absurd c2 (by decide))
        refine z_iinc (v := nI (i + 1)) d_TK_isLeftSide_55 rfl (i_inc i) (by decide) ?_
        refine z_goto (tgt := 37) d_TK_isLeftSide_58 rfl ?_
        refine z_fg [(0, .ref o), (1, .ref r), (3, .int (nI (i + 1)))] ⟨rfl, rfl, rfl, trivial⟩ ?_
        refine ih (i + 1) (by omega) (fun hA => kk (fun j h1 h2 => ?_)) (fun hN => kx (fun hA => hN (fun j h1 h2 => hA j (by omega) h2)))
        by_cases e : j = i
        · rw [e]
          exact hm
        · exact hA j (by omega) h2
      · rw [if_neg hm]
        refine z_if_ne (tgt := 55) d_TK_isLeftSide_50 rfl (fun c2 => absurd nI_0 c2) (fun c2 => ?_)
        refine z_iconst (v := nI 0) d_TK_isLeftSide_53 (by decide) ?_
        exact z_ireturn d_TK_isLeftSide_54 rfl rfl (kx (fun hA => hm (hA i (Nat.le_refl _) (by omega))))
theorem l_leftB (HG : z_ok G) {Q : z_R → z_H → Prop} {nj ne nc : Nat} (ho : h.2.2 o = some (k_tk o nj ne nc)) (hne : ne ≤ 4) (hr : rowAt G h r l.length f) (hl : rl f l) : ∀ (c v : Nat), v + c = ne →
    ((∀ j, v ≤ j → j < ne → l.count (100 + j) = 1) → Q (.inl (some (.int (nI 1)))) h) → (¬ (∀ j, v ≤ j → j < ne → l.count (100 + j) = 1) → Q (.inl (some (.int (nI 0)))) h) →
    z_V G m_TK_isLeftSide (d + 2) 63 [(0, .ref o), (1, .ref r), (3, .int (nI v))] [] h Q := by
  have h40 := hl.len
  intro c
  induction c with
  | zero =>
    intro v hv kk kx
    refine z_iload_n d_TK_isLeftSide_63 rfl rfl ?_
    refine z_aload_n d_TK_isLeftSide_64 rfl rfl ?_
    refine z_getf (L_TK_25K HG) (by decide) (L_TK_25 HG) d_TK_isLeftSide_65 ho (by rfl) ?_
    refine z_icmp_ge (tgt := 91) d_TK_isLeftSide_68 rfl (fun c1 => ?_) (fun c1 => ?_)
    · refine z_iconst (v := nI 1) d_TK_isLeftSide_91 (by decide) ?_
      exact z_ireturn d_TK_isLeftSide_92 rfl rfl (kk (fun j h1 h2 => by omega))
    · rw [nI_leI (by omega) (by omega)] at c1
      omega
  | succ c ih =>
    intro v hv kk kx
    have hcl : l.count (100 + v) ≤ l.length := List.count_le_length
    refine z_iload_n d_TK_isLeftSide_63 rfl rfl ?_
    refine z_aload_n d_TK_isLeftSide_64 rfl rfl ?_
    refine z_getf (L_TK_25K HG) (by decide) (L_TK_25 HG) d_TK_isLeftSide_65 ho (by rfl) ?_
    refine z_icmp_ge (tgt := 91) d_TK_isLeftSide_68 rfl (fun c1 => ?_) (fun c1 => ?_)
    · rw [nI_leI (by omega) (by omega)] at c1
      omega
    · refine z_aload_n d_TK_isLeftSide_71 rfl rfl ?_
      refine z_bipush (v := nI 100) d_TK_isLeftSide_72 (by decide +kernel) ?_
      refine z_iload_n d_TK_isLeftSide_74 rfl rfl ?_
      refine z_iadd d_TK_isLeftSide_75 ?_
      rw [nI_add]
      refine z_callV1r (dY := d) d_TK_isLeftSide_76 rfl (by omega) (Y_TK_204 HG) hr.1 (cl_Row HG) (Nat.le_of_ble_eq_true rfl) (c_Row_countOf HG hr hl (v := 100 + v) (by omega)) ?_
      refine z_iconst (v := nI 1) d_TK_isLeftSide_79 (by decide) ?_
      refine z_icmp_eq (tgt := 85) d_TK_isLeftSide_80 rfl (fun c2 => ?_) (fun c2 => ?_)
      · rw [nI_eq (by omega) (by omega)] at c2
        refine z_iinc (v := nI (v + 1)) d_TK_isLeftSide_85 rfl (i_inc v) (by decide) ?_
        refine z_goto (tgt := 63) d_TK_isLeftSide_88 rfl ?_
        refine z_fg [(0, .ref o), (1, .ref r), (3, .int (nI (v + 1)))] ⟨rfl, rfl, rfl, trivial⟩ ?_
        refine ih (v + 1) (by omega) (fun hA => kk (fun j h1 h2 => ?_)) (fun hN => kx (fun hA => hN (fun j h1 h2 => hA j (by omega) h2)))
        by_cases e : j = v
        · rw [e]
          exact c2
        · exact hA j (by omega) h2
      · rw [nI_eq (by omega) (by omega)] at c2
        refine z_iconst (v := nI 0) d_TK_isLeftSide_83 (by decide) ?_
        exact z_ireturn d_TK_isLeftSide_84 rfl rfl (kx (fun hA => c2 (hA v (Nat.le_refl _) (by omega))))
theorem c_TK_isLeftSide (HG : z_ok G) {n nj ne : Nat} {ks : List (List Nat × Bool)} (ho : h.2.2 o = some (k_tk o nj ne ks.length)) (hne : ne ≤ 4) (hk : ksAt G h o ks) (hr : rowAt G h r l.length f) (hl : rl f l) (hw : p_wf n [0] l) :
    z_C G m_TK_isLeftSide (d + 2) [.ref o, .ref r] h (z_rq (some (.int (if p_left ks ne l = true then nI 1 else nI 0))) h) := by
  have h40 := hl.len
  have hk8 := hk.1.1
  have hhd := p_head_lt hw
  have hv := hl.lt hhd
  obtain ⟨fd, hd1, hd2⟩ := hk.2
  refine z_C.of (Nat.le_of_ble_eq_true rfl) ?_
  refine z_aload_n d_TK_isLeftSide_0 rfl rfl ?_
  refine z_aload_n d_TK_isLeftSide_1 rfl rfl ?_
  refine z_iconst (v := nI 0) d_TK_isLeftSide_2 (by decide) ?_
  refine z_callV1r (dY := d) d_TK_isLeftSide_3 rfl (by omega) (Y_TK_194 HG) hr.1 (cl_Row HG) (Nat.le_of_ble_eq_true rfl) (c_Row_headOf HG hr hl) ?_
  refine z_callV1r (dY := d) d_TK_isLeftSide_6 rfl (by omega) (Y_TK_107 HG) hr.1 (cl_Row HG) (Nat.le_of_ble_eq_true rfl) (c_Row_at HG hr h40 (nI (p_head l))) ?_
  rw [k_at_in f hhd h40, hl.eq hhd]
  unfold p_left
  generalize l.getD (p_head l) 0 = w at hv ⊢
  refine z_istore_n d_TK_isLeftSide_9 rfl (by decide) ?_
  refine z_aload_n d_TK_isLeftSide_10 rfl rfl ?_
  refine z_iload_n d_TK_isLeftSide_11 rfl rfl ?_
  refine z_bipush (v := nI 10) d_TK_isLeftSide_12 (by decide +kernel) ?_
  refine z_isub d_TK_isLeftSide_14 ?_
  refine z_callV1r (dY := d) d_TK_isLeftSide_15 rfl (by omega) (Y_TK_74 HG) ho (cl_TK HG) (Nat.le_of_ble_eq_true rfl) (c_TK_isConstant HG ho (nI w - nI 10)) ?_
  have bad : (decide (10 ≤ w) && (ks[w - 10]?.map (·.2)).getD false) = false → ∀ lo, z_V G m_TK_isLeftSide (d + 2) 33 lo [] h (z_rq (some (.int (if (decide (10 ≤ w) && (ks[w - 10]?.map (·.2)).getD false && (List.range l.length).all (p_may l) && (List.range ne).all (fun v => decide (l.count (100 + v) = 1))) = true then nI 1 else nI 0))) h) := by
    intro hb lo
    rw [hb]
    refine z_iconst (v := nI 0) d_TK_isLeftSide_33 (by decide) ?_
    exact z_ireturn d_TK_isLeftSide_34 rfl rfl ⟨rfl, rfl⟩
  by_cases h10 : 10 ≤ w
  · rw [pk_sub h10, k_is_nI (by omega) (by omega)]
    by_cases hc : w - 10 < ks.length
    · rw [if_pos hc]
      have hJ := List.getElem?_eq_getElem hc
      generalize ks[w - 10] = c at hJ
      refine z_if_eq (tgt := 33) d_TK_isLeftSide_18 rfl (fun c1 => absurd c1 (by decide)) (fun c1 => ?_)
      refine z_aload_n d_TK_isLeftSide_21 rfl rfl ?_
      refine z_getf (L_TK_31K HG) (by decide) (L_TK_31 HG) d_TK_isLeftSide_22 ho (by rfl) ?_
      refine z_iload_n d_TK_isLeftSide_25 rfl rfl ?_
      refine z_bipush (v := nI 10) d_TK_isLeftSide_26 (by decide +kernel) ?_
      refine z_isub d_TK_isLeftSide_28 ?_
      rw [pk_sub h10]
      refine z_zald d_TK_isLeftSide_29 (ty2 HG) hd1 (pk_in (w - 10) 8 (by omega)) ?_
      rw [nI_clamp (by omega), hd2 (w - 10) c hJ]
      by_cases hb : c.2 = true
      · rw [if_pos hb]
        have e1 : (decide (10 ≤ w) && (ks[w - 10]?.map (·.2)).getD false) = true := by
          rw [hJ, decide_eq_true h10]
          exact hb
        rw [e1, Bool.true_and]
        refine z_if_ne (tgt := 35) d_TK_isLeftSide_30 rfl (fun c2 => ?_) (fun c2 => absurd c2 (by decide))
        refine z_iconst (v := nI 0) d_TK_isLeftSide_35 (by decide) ?_
        refine z_istore_n d_TK_isLeftSide_36 rfl (by decide) ?_
        refine z_fg [(0, .ref o), (1, .ref r), (3, .int (nI 0))] ⟨rfl, rfl, rfl, trivial⟩ ?_
        refine l_leftA HG hr hl l.length 0 (by omega) (fun hA => ?_) (fun hA => ?_)
        · have e2 : (List.range l.length).all (p_may l) = true := by
            rw [List.all_eq_true]
            intro j hj
            exact hA j (Nat.zero_le _) (List.mem_range.mp hj)
          rw [e2, Bool.true_and]
          refine z_iconst (v := nI 0) d_TK_isLeftSide_61 (by decide) ?_
          refine z_istore_n d_TK_isLeftSide_62 rfl (by decide) ?_
          refine z_fg [(0, .ref o), (1, .ref r), (3, .int (nI 0))] ⟨rfl, rfl, rfl, trivial⟩ ?_
          refine l_leftB HG ho hne hr hl ne 0 (by omega) (fun hB => ?_) (fun hB => ?_)
          · rw [if_pos]
            · exact ⟨rfl, rfl⟩
            · rw [List.all_eq_true]
              intro j hj
              exact decide_eq_true (hB j (Nat.zero_le _) (List.mem_range.mp hj))
          · rw [if_neg]
            · exact ⟨rfl, rfl⟩
            · intro hh
              rw [List.all_eq_true] at hh
              exact hB (fun j _ h2 => of_decide_eq_true (hh j (List.mem_range.mpr h2)))
        · rw [if_neg]
          · exact ⟨rfl, rfl⟩
          · intro hh
            rw [Bool.and_eq_true, List.all_eq_true] at hh
            exact hA (fun j _ h2 => hh.1 j (List.mem_range.mpr h2))
      · rw [if_neg hb]
        refine z_if_ne (tgt := 35) d_TK_isLeftSide_30 rfl (fun c2 => absurd nI_0 c2) (fun c2 => ?_)
        refine bad ?_ _
        rw [hJ, decide_eq_true h10]
        exact Bool.eq_false_iff.mpr hb
    · rw [if_neg hc]
      refine z_if_eq (tgt := 33) d_TK_isLeftSide_18 rfl (fun c1 => ?_) (fun c1 => absurd nI_0 c1)
      refine bad ?_ _
      rw [List.getElem?_eq_none (by omega), decide_eq_true h10]
      rfl
  · have e : k_is (nI w - nI 10) ks.length = nI 0 := by
      unfold k_is
      rw [if_pos (pk_sneg (by omega) (by omega))]
    rw [e]
    refine z_if_eq (tgt := 33) d_TK_isLeftSide_18 rfl (fun c1 => ?_) (fun c1 => absurd nI_0 c1)
    refine bad ?_ _
    rw [decide_eq_false h10]
    rfl
end KR
