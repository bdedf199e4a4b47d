/-! the reference: putTerm, apply -/
section MP
variable {G : z_G} {h : z_H} {q d n r : Nat} {s s' : Nat → Int32} {A A1 : Nat → Nat → Int32} {K : pK} {z t : List Nat}
theorem l_Md_putTerm (HG : z_ok G) {b bb bt : Nat} (hr : r < 40) (hb : b < 40) (hz40 : z.length ≤ 40) (ht0 : 0 < t.length) (ht : t.length = 0 + p_end 1 (t.drop 0)) (hvt : ∀ v ∈ t, v < 200) (hvz : ∀ v ∈ z, v < 200) : ∀ (c i m : Nat) (S l : List Nat) (s : Nat → Int32) (A : Nat → Nat → Int32), i + c = z.length → c = p_end S.length (z.drop i) → mrow A 40 l → mrow A 42 z → mrow A r t → A 6 0 = nI bt → dpA (A 6) bt 0 [0] (t.drop 0) → A 7 b = nI bb → dpA (A 7) bb i S (z.drop i) → (∀ y ∈ S, y ≤ m) → m ≤ i →
    z_V G m_Md_putTerm (d + 2) 15 [(0, .ref q), (1, .int (nI b)), (2, .int (nI r)), (3, .int (nI i))] [] (md G h q s A) (m_post G h q (fun o s' A' => o = none ∧ m_ad 40 l (p_put t S (z.drop i)) s A s' A')) := by
  intro c
  induction c with
  | zero =>
    intro i m S l s A hi hc hl hz hT hA hDA hB hD hS hm
    have e0 : p_put t S (z.drop i) = [] := by
      cases hS0 : S with
      | nil => exact p_put_stop _ _
      | cons d0 S3 =>
        cases hl0 : z.drop i with
        | nil => exact p_put_nil _ _
        | cons v0 t0 =>
          rw [hS0, hl0] at hc
          cases hc
    refine z_iload_n d_Md_putTerm_15 rfl rfl ?_
    refine z_aload_n d_Md_putTerm_16 rfl rfl ?_
    refine z_mg HG d_Md_putTerm_17 (L_Md_13 HG) (by decide) rfl ?_
    refine z_bipush (v := nI 42) d_Md_putTerm_20 (by decide +kernel) ?_
    refine z_ml HG 2 d_Md_putTerm_22 (by decide) (show _ < 43 by omega) hz.1 ?_
    refine z_icmp_ge (tgt := 116) d_Md_putTerm_23 rfl (fun c23 => ?_) (fun c23 => ?_)
    · rw [nI_leI (by omega) (by omega)] at c23
      exact z_return d_Md_putTerm_116 rfl ⟨_, _, _, rfl, rfl, rfl, by rw [e0]; exact m_ad.nil hl⟩
    · rw [nI_leI (by omega) (by omega)] at c23
      omega
  | succ c ih =>
    intro i m S l s A hi hc hl hz hT hA hDA hB hD hS hm
    have h40' := hl.len
    have hv1 : z.getD i 0 < 200 := by
      rw [List.getD_eq_getElem?_getD, List.getElem?_eq_getElem (by omega)]
      exact hvz _ (List.getElem_mem (by omega))
    rw [l_dc (l := z) (i := i) (by omega)] at hc hD ⊢
    obtain ⟨d0, S3, rfl⟩ : ∃ d0 S3, S = d0 :: S3 := by
      cases S with
      | nil => cases hc
      | cons d0 S3 => exact ⟨d0, S3, rfl⟩
    have hd0 : d0 ≤ m := hS d0 List.mem_cons_self
    have hc2 : c = p_end (p_aw (z.getD i 0) d0 S3).length (z.drop (i + 1)) := by
      rw [p_aw_len]
      exact Nat.succ.inj hc
    have hm2 := p_aw_max (v := z.getD i 0) hd0 (fun y hy => hS y (List.mem_cons_of_mem _ hy))
    show z_V _ _ _ _ _ _ _ (m_post G h q (fun o s' A' => o = none ∧ m_ad 40 l ((if z.getD i 0 = 100 + d0 then p_lift d0 [0] t else if 100 + d0 < z.getD i 0 then [z.getD i 0 - 1] else [z.getD i 0]) ++ p_put t (p_aw (z.getD i 0) d0 S3) (z.drop (i + 1))) s A s' A'))
    refine z_iload_n d_Md_putTerm_15 rfl rfl ?_
    refine z_aload_n d_Md_putTerm_16 rfl rfl ?_
    refine z_mg HG d_Md_putTerm_17 (L_Md_13 HG) (by decide) rfl ?_
    refine z_bipush (v := nI 42) d_Md_putTerm_20 (by decide +kernel) ?_
    refine z_ml HG 2 d_Md_putTerm_22 (by decide) (show _ < 43 by omega) hz.1 ?_
    refine z_icmp_ge (tgt := 116) d_Md_putTerm_23 rfl (fun c23 => ?_) (fun c23 => ?_)
    · rw [nI_leI (by omega) (by omega)] at c23
      omega
    · rw [nI_leI (by omega) (by omega)] at c23
      refine z_aload_n d_Md_putTerm_26 rfl rfl ?_
      refine z_bipush (v := nI 42) d_Md_putTerm_27 (by decide +kernel) ?_
      refine z_iload_n d_Md_putTerm_29 rfl rfl ?_
      refine z_mr (as := [.int (nI 42), .int (nI i)]) (dY := d) HG d_Md_putTerm_30 rfl (by omega) (Y_Md_49 HG) rfl rfl (Nat.le_of_ble_eq_true rfl) (c_Md_at (r := 42) HG (by omega) (hz.eq (by omega))) ?_
      refine z_istore d_Md_putTerm_33 (by decide) ?_
      refine z_bipush (v := nI 100) d_Md_putTerm_35 (by decide +kernel) ?_
      refine z_aload_n d_Md_putTerm_37 rfl rfl ?_
      refine z_mg HG d_Md_putTerm_38 (L_Md_29 HG) (by decide) rfl ?_
      refine z_iload_n d_Md_putTerm_41 rfl rfl ?_
      refine z_ml HG 7 d_Md_putTerm_42 (by decide) (show _ < 40 by omega) hD.1 ?_
      refine z_iadd d_Md_putTerm_43 ?_
      refine z_eqi rfl ?_
      refine z_aload_n d_Md_putTerm_44 rfl rfl ?_
      refine z_mg HG d_Md_putTerm_45 (L_Md_29 HG) (by decide) rfl ?_
      refine z_iload_n d_Md_putTerm_48 rfl rfl ?_
      refine z_ml HG 7 d_Md_putTerm_49 (by decide) (show _ < 40 by omega) hB ?_
      refine z_isub d_Md_putTerm_50 ?_
      refine z_eqi (nI_100 bb d0) ?_
      refine z_istore d_Md_putTerm_51 (by decide) ?_
      refine z_iload d_Md_putTerm_53 rfl ?_
      refine z_iload d_Md_putTerm_55 rfl ?_
      refine z_icmp_ge (tgt := 71) d_Md_putTerm_57 rfl (fun c57 => ?_) (fun c57 => ?_)
      · rw [nI_leI (by omega) (by omega)] at c57
        refine z_iload d_Md_putTerm_71 rfl ?_
        refine z_iload d_Md_putTerm_73 rfl ?_
        refine z_icmp_ne (tgt := 100) d_Md_putTerm_75 rfl (fun c75 => ?_) (fun c75 => ?_)
        · rw [nI_eq (by omega) (by omega)] at c75
          rw [if_neg c75, if_pos (by omega)]
          refine z_aload_n d_Md_putTerm_100 rfl rfl ?_
          refine z_bipush (v := nI 40) d_Md_putTerm_101 (by decide +kernel) ?_
          refine z_iload d_Md_putTerm_103 rfl ?_
          refine z_iconst (v := nI 1) d_Md_putTerm_105 (by decide) ?_
          refine z_isub d_Md_putTerm_106 ?_
          refine z_eqi (pk_sub (by omega)) ?_
          refine z_mc (as := [.int (nI 40), .int (nI ((z.getD i 0) - 1))]) (dY := d) HG d_Md_putTerm_107 rfl (by omega) (Y_Md_53 HG) rfl rfl (Nat.le_of_ble_eq_true rfl) (c_Md_add HG (by omega) hl (by omega)) (fun v1 s1 A1 hp1 => ?_)
          obtain ⟨rfl, hp1⟩ := hp1
          refine z_iinc (v := nI (i + 1)) d_Md_putTerm_110 rfl (i_inc _) (by decide) ?_
          refine z_goto (tgt := 15) d_Md_putTerm_113 rfl ?_
          refine z_fg [(0, .ref q), (1, .int (nI b)), (2, .int (nI r)), (3, .int (nI (i + 1)))] ⟨rfl, rfl, rfl, rfl, trivial⟩ ?_
          have e6 := hp1.arr (k := 6) (by decide) (by decide)
          have e7 := hp1.arr (k := 7) (by decide) (by decide)
          refine z_Vm (ih (i + 1) (m + 1) _ _ s1 A1 (by omega) hc2 hp1.row (hp1.keep (by decide) hz) (hp1.keep (by omega) hT) (by rw [e6]; exact hA) (by rw [e6]; exact hDA) (by rw [e7]; exact hB) (by rw [e7]; exact hD.2) hm2 (by omega)) (fun v s' A' hh => ⟨hh.1, ?_⟩)
          exact hp1.tr h40' hh.2
        · rw [nI_eq (by omega) (by omega)] at c75
          rw [if_pos c75]
          refine z_aload_n d_Md_putTerm_78 rfl rfl ?_
          refine z_bipush (v := nI 40) d_Md_putTerm_79 (by decide +kernel) ?_
          refine z_iload_n d_Md_putTerm_81 rfl rfl ?_
          refine z_iconst (v := nI 0) d_Md_putTerm_82 (by decide) ?_
          refine z_aload_n d_Md_putTerm_83 rfl rfl ?_
          refine z_mg HG d_Md_putTerm_84 (L_Md_13 HG) (by decide) rfl ?_
          refine z_iload_n d_Md_putTerm_87 rfl rfl ?_
          refine z_ml HG 2 d_Md_putTerm_88 (by decide) (show _ < 43 by omega) hT.1 ?_
          refine z_iload d_Md_putTerm_89 rfl ?_
          refine z_bipush (v := nI 100) d_Md_putTerm_91 (by decide +kernel) ?_
          refine z_isub d_Md_putTerm_93 ?_
          refine z_eqi ((pk_sub (by omega)).trans (pk_bump (show _ = d0 by omega))) ?_
          refine z_mc (as := [.int (nI 40), .int (nI r), .int (nI 0), .int (nI t.length), .int (nI d0)]) (dY := d + 1) HG d_Md_putTerm_94 rfl (by omega) (Y_Md_64 HG) rfl rfl (Nat.le_of_ble_eq_true rfl) (c_Md_addShifted HG (by omega) (by omega) (by omega) (by omega) ht0 ht hl hT hA hDA hvt) (fun v1 s1 A1 hp1 => ?_)
          obtain ⟨rfl, hp1⟩ := hp1
          rw [List.drop_zero] at hp1
          refine z_goto (tgt := 110) d_Md_putTerm_97 rfl ?_
          refine z_iinc (v := nI (i + 1)) d_Md_putTerm_110 rfl (i_inc _) (by decide) ?_
          refine z_goto (tgt := 15) d_Md_putTerm_113 rfl ?_
          refine z_fg [(0, .ref q), (1, .int (nI b)), (2, .int (nI r)), (3, .int (nI (i + 1)))] ⟨rfl, rfl, rfl, rfl, trivial⟩ ?_
          have e6 := hp1.arr (k := 6) (by decide) (by decide)
          have e7 := hp1.arr (k := 7) (by decide) (by decide)
          refine z_Vm (ih (i + 1) (m + 1) _ _ s1 A1 (by omega) hc2 hp1.row (hp1.keep (by decide) hz) (hp1.keep (by omega) hT) (by rw [e6]; exact hA) (by rw [e6]; exact hDA) (by rw [e7]; exact hB) (by rw [e7]; exact hD.2) hm2 (by omega)) (fun v s' A' hh => ⟨hh.1, ?_⟩)
          exact hp1.tr h40' hh.2
      · rw [nI_leI (by omega) (by omega)] at c57
        rw [if_neg (by omega), if_neg (by omega)]
        refine z_aload_n d_Md_putTerm_60 rfl rfl ?_
        refine z_bipush (v := nI 40) d_Md_putTerm_61 (by decide +kernel) ?_
        refine z_iload d_Md_putTerm_63 rfl ?_
        refine z_mc (as := [.int (nI 40), .int (nI (z.getD i 0))]) (dY := d) HG d_Md_putTerm_65 rfl (by omega) (Y_Md_53 HG) rfl rfl (Nat.le_of_ble_eq_true rfl) (c_Md_add HG (by omega) hl (by omega)) (fun v1 s1 A1 hp1 => ?_)
        obtain ⟨rfl, hp1⟩ := hp1
        refine z_goto (tgt := 110) d_Md_putTerm_68 rfl ?_
        refine z_iinc (v := nI (i + 1)) d_Md_putTerm_110 rfl (i_inc _) (by decide) ?_
        refine z_goto (tgt := 15) d_Md_putTerm_113 rfl ?_
        refine z_fg [(0, .ref q), (1, .int (nI b)), (2, .int (nI r)), (3, .int (nI (i + 1)))] ⟨rfl, rfl, rfl, rfl, trivial⟩ ?_
        have e6 := hp1.arr (k := 6) (by decide) (by decide)
        have e7 := hp1.arr (k := 7) (by decide) (by decide)
        refine z_Vm (ih (i + 1) (m + 1) _ _ s1 A1 (by omega) hc2 hp1.row (hp1.keep (by decide) hz) (hp1.keep (by omega) hT) (by rw [e6]; exact hA) (by rw [e6]; exact hDA) (by rw [e7]; exact hB) (by rw [e7]; exact hD.2) hm2 (by omega)) (fun v s' A' hh => ⟨hh.1, ?_⟩)
        exact hp1.tr h40' hh.2
theorem c_Md_putTerm (HG : z_ok G) {b n2 d1 : Nat} {l : List Nat} (hr : r < 40) (hn : n ≤ 4) (hn2 : n2 ≤ 4) (hb : b < z.length) (hwt : p_wf n [0] t) (hwz : p_wf n2 [0] z) (hwb : p_wf n2 [d1] (z.drop b)) (hl : mrow A 40 l) (hz : mrow A 42 z) (hT : mrow A r t) : z_C G m_Md_putTerm (d + 2) [.ref q, .int (nI b), .int (nI r)] (md G h q s A) (m_post G h q (fun o s' A' => o = none ∧ ∃ A1, m_ms 6 A A1 ∧ ∃ A2, m_ms 7 A1 A2 ∧ m_ad 40 l (p_put t [0] (z.drop b)) s A2 s' A')) := by
  refine z_C.of (Nat.le_of_ble_eq_true rfl) ?_
  refine z_aload_n d_Md_putTerm_0 rfl rfl ?_
  refine z_iload_n d_Md_putTerm_1 rfl rfl ?_
  refine z_iconst (v := nI 0) d_Md_putTerm_2 (by decide) ?_
  refine z_mc (as := [.int (nI r), .int (nI 0)]) (dY := d + 1) HG d_Md_putTerm_3 rfl (by omega) (Y_Md_71 HG) rfl rfl (Nat.le_of_ble_eq_true rfl) (c_Md_measure (t := 0) (k := 6) HG (by omega) (Or.inl ⟨rfl, rfl⟩) hT hwt) (fun v1 s1 A1 hp1 => ?_)
  obtain ⟨rfl, rfl, k1, k2⟩ := hp1
  refine z_aload_n d_Md_putTerm_6 rfl rfl ?_
  refine z_bipush (v := nI 42) d_Md_putTerm_7 (by decide +kernel) ?_
  refine z_iconst (v := nI 1) d_Md_putTerm_9 (by decide) ?_
  refine z_mc (as := [.int (nI 42), .int (nI 1)]) (dY := d + 1) HG d_Md_putTerm_10 rfl (by omega) (Y_Md_71 HG) rfl rfl (Nat.le_of_ble_eq_true rfl) (c_Md_measure (t := 1) (k := 7) HG (by omega) (Or.inr ⟨rfl, rfl⟩) (k1.row (Or.inl rfl) hz) hwz) (fun v2 s2 A2 hp2 => ?_)
  obtain ⟨rfl, rfl, k3, k4⟩ := hp2
  refine z_iload_n d_Md_putTerm_13 rfl rfl ?_
  refine z_istore_n d_Md_putTerm_14 rfl (by decide) ?_
  refine z_fg [(0, .ref q), (1, .int (nI b)), (2, .int (nI r)), (3, .int (nI b))] ⟨rfl, rfl, rfl, rfl, trivial⟩ ?_
  have hz40 := hz.len
  have ht0 : 0 < t.length := l_nd (i := 0) hwt
  obtain ⟨bt, hA, hDA⟩ := k2.sub0 hwt ht0
  obtain ⟨bb, hB, hDB⟩ := k4.sub0 hwz hb
  have hpe : z.length - b = p_end ([0] : List Nat).length (z.drop b) := by
    have e := p_end_full hwb
    rw [List.length_drop] at e
    exact e.symm
  have e6 : A2 6 = A1 6 := k3 6 (by decide) (by decide)
  refine z_Vm (l_Md_putTerm (bb := bb) (bt := bt) HG hr (by omega) hz40 ht0 (by rw [Nat.zero_add, List.drop_zero]; exact (p_end_full hwt).symm) (p_wf_200 hwt hn hT.len) (p_wf_200 hwz hn2 hz40) (z.length - b) b 0 [0] l s2 A2 (by omega) hpe (k3.row (Or.inr rfl) (k1.row (Or.inl rfl) hl)) (k3.row (Or.inr rfl) (k1.row (Or.inl rfl) hz)) (k3.row (Or.inr rfl) (k1.row (Or.inl rfl) hT)) (by rw [e6]; exact hA) (by rw [e6]; exact hDA) hB hDB (fun y hy => by simp at hy; omega) (by omega)) (fun v s' A' hh => ⟨hh.1, A1, k1, A2, k3, hh.2⟩)
theorem l_Md_fits (HG : z_ok G) {Q : z_R → z_H → Prop} {x : List Nat} {lo4 lo5 : Nat} (hx : mrow A 40 x) (hz : mrow A 42 z) (hxz : 1 + x.length ≤ z.length) (kk : ∀ b : Bool, (b = true ↔ x = (z.drop 1).take x.length) → z_V G m_Md_applied (d + 6) 179 [(0, .ref q), (1, .int (nI lo4)), (2, .int (nI lo5)), (5, .int (nI (1 + x.length))), (6, .int (if b = true then nI 1 else nI 0))] [] (md G h q s A) Q) : ∀ (c i : Nat) (f : Bool), i + c = x.length → (f = true ↔ x.take i = (z.drop 1).take i) →
    z_V G m_Md_applied (d + 6) 128 [(0, .ref q), (1, .int (nI lo4)), (2, .int (nI lo5)), (5, .int (nI (1 + x.length))), (6, .int (if f = true then nI 1 else nI 0)), (7, .int (nI i))] [] (md G h q s A) Q := by
  have h40 := hx.len
  have hz40 := hz.len
  have done : ∀ (i : Nat) (f : Bool), (f = true ↔ x = (z.drop 1).take x.length) → z_V G m_Md_applied (d + 6) 179 [(0, .ref q), (1, .int (nI lo4)), (2, .int (nI lo5)), (5, .int (nI (1 + x.length))), (6, .int (if f = true then nI 1 else nI 0)), (7, .int (nI i))] [] (md G h q s A) Q := fun i f hf => z_fg [(0, .ref q), (1, .int (nI lo4)), (2, .int (nI lo5)), (5, .int (nI (1 + x.length))), (6, .int (if f = true then nI 1 else nI 0))] ⟨rfl, rfl, rfl, rfl, rfl, trivial⟩ (kk f hf)
  intro c
  induction c with
  | zero =>
    intro i f hi hf
    have hf2 : f = true ↔ x = (z.drop 1).take x.length := by
      rw [hf, show i = x.length by omega, List.take_length]
    refine z_iload d_Md_applied_128 rfl ?_
    refine z_aload_n d_Md_applied_130 rfl rfl ?_
    refine z_mg HG d_Md_applied_131 (L_Md_13 HG) (by decide) rfl ?_
    refine z_bipush (v := nI 40) d_Md_applied_134 (by decide +kernel) ?_
    refine z_ml HG 2 d_Md_applied_136 (by decide) (show _ < 43 by omega) hx.1 ?_
    refine z_icmp_ge (tgt := 179) d_Md_applied_137 rfl (fun c137 => ?_) (fun c137 => ?_)
    · rw [nI_leI (by omega) (by omega)] at c137
      exact done i f hf2
    · rw [nI_leI (by omega) (by omega)] at c137
      omega
  | succ c ih =>
    intro i f hi hf
    have hx1 := hx.lt (i := i) (by omega)
    have hz1 := hz.lt (i := 1 + i) (by omega)
    have hex : x.take (i + 1) = x.take i ++ [x.getD i 0] := by
      rw [List.take_succ, List.getElem?_eq_getElem (by omega), List.getD_eq_getElem?_getD, List.getElem?_eq_getElem (by omega)]
      rfl
    have hez : (z.drop 1).take (i + 1) = (z.drop 1).take i ++ [z.getD (1 + i) 0] := by
      rw [List.take_succ, List.getElem?_drop, List.getElem?_eq_getElem (by omega), List.getD_eq_getElem?_getD, List.getElem?_eq_getElem (by omega)]
      rfl
    have hlen : (x.take i).length = ((z.drop 1).take i).length := by
      rw [List.length_take, List.length_take, List.length_drop]
      omega
    have hstep : x.take (i + 1) = (z.drop 1).take (i + 1) ↔ (x.take i = (z.drop 1).take i ∧ x.getD i 0 = z.getD (1 + i) 0) := by
      rw [hex, hez]
      constructor
      · intro hh
        have e := List.append_inj hh hlen
        exact ⟨e.1, by simpa using e.2⟩
      · rintro ⟨h1, h2⟩
        rw [h1, h2]
    refine z_iload d_Md_applied_128 rfl ?_
    refine z_aload_n d_Md_applied_130 rfl rfl ?_
    refine z_mg HG d_Md_applied_131 (L_Md_13 HG) (by decide) rfl ?_
    refine z_bipush (v := nI 40) d_Md_applied_134 (by decide +kernel) ?_
    refine z_ml HG 2 d_Md_applied_136 (by decide) (show _ < 43 by omega) hx.1 ?_
    refine z_icmp_ge (tgt := 179) d_Md_applied_137 rfl (fun c137 => ?_) (fun c137 => ?_)
    · rw [nI_leI (by omega) (by omega)] at c137
      omega
    · rw [nI_leI (by omega) (by omega)] at c137
      refine z_iload d_Md_applied_140 rfl ?_
      refine z_if_eq (tgt := 179) d_Md_applied_142 rfl (fun c142 => ?_) (fun c142 => ?_)
      · have c142 := b_eq c142
        refine done i f ⟨fun hh => absurd hh c142, fun hh => absurd (hf.mpr ?_) c142⟩
        rw [show (z.drop 1).take i = ((z.drop 1).take x.length).take i by rw [List.take_take, Nat.min_eq_left (by omega)], ← hh]
      · have c142 := b_ne c142
        refine z_aload_n d_Md_applied_145 rfl rfl ?_
        refine z_bipush (v := nI 40) d_Md_applied_146 (by decide +kernel) ?_
        refine z_iload d_Md_applied_148 rfl ?_
        refine z_mr (as := [.int (nI 40), .int (nI i)]) (dY := d) HG d_Md_applied_150 rfl (by omega) (Y_Md_49 HG) rfl rfl (Nat.le_of_ble_eq_true rfl) (c_Md_at (r := 40) HG (by omega) (hx.eq (by omega))) ?_
        refine z_aload_n d_Md_applied_153 rfl rfl ?_
        refine z_bipush (v := nI 42) d_Md_applied_154 (by decide +kernel) ?_
        refine z_iconst (v := nI 1) d_Md_applied_156 (by decide) ?_
        refine z_iload d_Md_applied_157 rfl ?_
        refine z_iadd d_Md_applied_159 ?_
        refine z_eqi (nI_add _ _) ?_
        refine z_mr (as := [.int (nI 42), .int (nI (1 + i))]) (dY := d) HG d_Md_applied_160 rfl (by omega) (Y_Md_49 HG) rfl rfl (Nat.le_of_ble_eq_true rfl) (c_Md_at (r := 42) HG (by omega) (hz.eq (by omega))) ?_
        refine z_icmp_ne (tgt := 170) d_Md_applied_163 rfl (fun c163 => ?_) (fun c163 => ?_)
        · rw [nI_eq (by omega) (by omega)] at c163
          refine z_iconst (v := nI 0) d_Md_applied_170 (by decide) ?_
          refine z_istore d_Md_applied_171 (by decide) ?_
          refine z_iinc (v := nI (i + 1)) d_Md_applied_173 rfl (i_inc _) (by decide) ?_
          refine z_goto (tgt := 128) d_Md_applied_176 rfl ?_
          refine z_fg [(0, .ref q), (1, .int (nI lo4)), (2, .int (nI lo5)), (5, .int (nI (1 + x.length))), (6, .int (if (false : Bool) = true then nI 1 else nI 0)), (7, .int (nI (i + 1)))] ⟨rfl, rfl, rfl, rfl, rfl, rfl, trivial⟩ ?_
          refine ih (i + 1) false (by omega) ?_
          exact ⟨fun hh => absurd hh (by decide), fun hh => absurd (hstep.mp hh).2 c163⟩
        · rw [nI_eq (by omega) (by omega)] at c163
          refine z_iconst (v := nI 1) d_Md_applied_166 (by decide) ?_
          refine z_goto (tgt := 171) d_Md_applied_167 rfl ?_
          refine z_istore d_Md_applied_171 (by decide) ?_
          refine z_iinc (v := nI (i + 1)) d_Md_applied_173 rfl (i_inc _) (by decide) ?_
          refine z_goto (tgt := 128) d_Md_applied_176 rfl ?_
          refine z_fg [(0, .ref q), (1, .int (nI lo4)), (2, .int (nI lo5)), (5, .int (nI (1 + x.length))), (6, .int (if (true : Bool) = true then nI 1 else nI 0)), (7, .int (nI (i + 1)))] ⟨rfl, rfl, rfl, rfl, rfl, rfl, trivial⟩ ?_
          refine ih (i + 1) true (by omega) ?_
          exact ⟨fun _ => hstep.mpr ⟨hf.mp c142, c163⟩, fun _ => rfl⟩
end MP
