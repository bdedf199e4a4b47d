/-! the reference: addResult, step -/
section MS
variable {G : z_G} {h : z_H} {q d p n nv ru : Nat} {s : Nat → Int32} {A : Nat → Nat → Int32} {x lr : List Nat} {g : Nat → Nat}
theorem l_Md_res (HG : z_ok G) (hru : ru < 8) (hnv : nv ≤ 4) (hwx : p_wf n [0] x) (hvx : ∀ v ∈ x, v < 200) (hgl : ∀ j, j < nv → g j < x.length) : ∀ (c i m : Nat) (S l : List Nat) (s : Nat → Int32) (A : Nat → Nat → Int32), i + c = lr.length → mrow A 41 l → mrow A 40 x → mrow A (32 + ru) lr → dpA (A 6) 0 0 [0] x → dpA (A 7) 0 i S (lr.drop i) → p_wf nv S (lr.drop i) → (∀ y ∈ S, y ≤ m) → m ≤ i → (∀ j, j < nv → m_gt A x g j) →
    z_V G m_Md_addResult (d + 2) 13 [(0, .ref q), (2, .int (nI (32 + ru))), (3, .int (nI i))] [] (md G h q s A) (m_post G h q (fun o s' A' => o = none ∧ m_ad 41 l (p_res nv (fun j => x.drop (g j)) S (lr.drop i)) s A s' A')) := by
  intro c
  induction c with
  | zero =>
    intro i m S l s A hi hl hx hr hD6 hD hw hS hm hg
    have h40 := hr.len
    refine z_iload_n d_Md_addResult_13 rfl rfl ?_
    refine z_aload_n d_Md_addResult_14 rfl rfl ?_
    refine z_mg HG d_Md_addResult_15 (L_Md_13 HG) (by decide) rfl ?_
    refine z_iload_n d_Md_addResult_18 rfl rfl ?_
    refine z_ml HG 2 d_Md_addResult_19 (by decide) (show _ < 43 by omega) hr.1 ?_
    refine z_icmp_ge (tgt := 102) d_Md_addResult_20 rfl (fun c20 => ?_) (fun c20 => ?_)
    · rw [nI_leI (by omega) (by omega)] at c20
      exact z_return d_Md_addResult_102 rfl ⟨_, _, _, rfl, rfl, rfl, by rw [List.drop_eq_nil_of_le (by omega), p_res_nil]; exact m_ad.nil hl⟩
    · rw [nI_leI (by omega) (by omega)] at c20
      omega
  | succ c ih =>
    intro i m S l s A hi hl hx hr hD6 hD hw hS hm hg
    have h40 := hr.len
    have h40' := hl.len
    have hx40 := hx.len
    rw [l_dc (l := lr) (i := i) (by omega)] at hD hw ⊢
    obtain ⟨d0, S3, rfl⟩ : ∃ d0 S3, S = d0 :: S3 := by
      cases S with
      | nil => exact hw.elim
      | cons d0 S3 => exact ⟨d0, S3, rfl⟩
    have hd0 : d0 ≤ m := hS d0 List.mem_cons_self
    have hw1 := hw.1
    have hw2 := hw.2
    have hD1 : A 7 i = nI d0 := hD.1.trans (by rw [Nat.zero_add])
    have hD2 := hD.2
    have hm2 := p_aw_max (v := lr.getD i 0) hd0 (fun y hy => hS y (List.mem_cons_of_mem _ hy))
    have hle := hr.eq (i := i) (by omega)
    show z_V _ _ _ _ _ _ _ (m_post G h q (fun o s' A' => o = none ∧ m_ad 41 l ((if 100 + d0 ≤ lr.getD i 0 ∧ lr.getD i 0 < 100 + d0 + nv then p_lift d0 [0] (x.drop (g (lr.getD i 0 - 100 - d0))) else [lr.getD i 0]) ++ p_res nv (fun j => x.drop (g j)) (p_aw (lr.getD i 0) d0 S3) (lr.drop (i + 1))) s A s' A'))
    generalize lr.getD i 0 = v at hw1 hw2 hD2 hm2 hle ⊢
    refine z_iload_n d_Md_addResult_13 rfl rfl ?_
    refine z_aload_n d_Md_addResult_14 rfl rfl ?_
    refine z_mg HG d_Md_addResult_15 (L_Md_13 HG) (by decide) rfl ?_
    refine z_iload_n d_Md_addResult_18 rfl rfl ?_
    refine z_ml HG 2 d_Md_addResult_19 (by decide) (show _ < 43 by omega) hr.1 ?_
    refine z_icmp_ge (tgt := 102) d_Md_addResult_20 rfl (fun c20 => ?_) (fun c20 => ?_)
    · rw [nI_leI (by omega) (by omega)] at c20
      omega
    · rw [nI_leI (by omega) (by omega)] at c20
      refine z_aload_n d_Md_addResult_23 rfl rfl ?_
      refine z_iload_n d_Md_addResult_24 rfl rfl ?_
      refine z_iload_n d_Md_addResult_25 rfl rfl ?_
      refine z_mr (as := [.int (nI (32 + ru)), .int (nI i)]) (dY := d) HG d_Md_addResult_26 rfl (by omega) (Y_Md_49 HG) rfl rfl (Nat.le_of_ble_eq_true rfl) (c_Md_at HG (by omega) hle) ?_
      refine z_istore d_Md_addResult_29 (by decide) ?_
      refine z_iload d_Md_addResult_31 rfl ?_
      refine z_bipush (v := nI 100) d_Md_addResult_33 (by decide +kernel) ?_
      refine z_isub d_Md_addResult_35 ?_
      refine z_eqi rfl ?_
      refine z_aload_n d_Md_addResult_36 rfl rfl ?_
      refine z_mg HG d_Md_addResult_37 (L_Md_29 HG) (by decide) rfl ?_
      refine z_iload_n d_Md_addResult_40 rfl rfl ?_
      refine z_ml HG 7 d_Md_addResult_41 (by decide) (show _ < 40 by omega) hD1 ?_
      refine z_isub d_Md_addResult_42 ?_
      refine z_eqi rfl ?_
      refine z_istore d_Md_addResult_43 (by decide) ?_
      refine z_iload d_Md_addResult_45 rfl ?_
      refine z_bipush (v := nI 100) d_Md_addResult_47 (by decide +kernel) ?_
      refine z_icmp_lt (tgt := 88) d_Md_addResult_49 rfl (fun c49 => ?_) (fun c49 => ?_)
      · rw [nI_ltI (by omega) (by omega)] at c49
        rw [if_neg (by omega)]
        refine z_aload_n d_Md_addResult_88 rfl rfl ?_
        refine z_bipush (v := nI 41) d_Md_addResult_89 (by decide +kernel) ?_
        refine z_iload d_Md_addResult_91 rfl ?_
        refine z_mc (as := [.int (nI 41), .int (nI v)]) (dY := d) HG d_Md_addResult_93 rfl (by omega) (Y_Md_53 HG) rfl rfl (Nat.le_of_ble_eq_true rfl) (c_Md_add HG (by omega) hl (by omega)) (fun v1 s1 A1 hp1 => ?_)
        obtain ⟨rfl, hp1⟩ := hp1
        refine z_iinc (v := nI (i + 1)) d_Md_addResult_96 rfl (i_inc _) (by decide) ?_
        refine z_goto (tgt := 13) d_Md_addResult_99 rfl ?_
        refine z_fg [(0, .ref q), (2, .int (nI (32 + ru))), (3, .int (nI (i + 1)))] ⟨rfl, rfl, rfl, trivial⟩ ?_
        have e6 := hp1.arr (k := 6) (by decide) (by decide)
        have e7 := hp1.arr (k := 7) (by decide) (by decide)
        refine z_Vm (ih (i + 1) (m + 1) _ _ s1 A1 (by omega) hp1.row (hp1.keep (by omega) hx) (hp1.keep (by omega) hr) (by rw [e6]; exact hD6) (by rw [e7]; exact hD2) hw2 hm2 (by omega) (fun j hj => by unfold m_gt; rw [hp1.arr (k := 9) (by decide) (by decide), hp1.arr (k := 10) (by decide) (by decide)]; exact hg j hj)) (fun v s' A' hh => ⟨hh.1, ?_⟩)
        exact hp1.tr h40' hh.2
      · rw [nI_ltI (by omega) (by omega)] at c49
        refine z_iload d_Md_addResult_52 rfl ?_
        refine z_if_lt (tgt := 88) d_Md_addResult_54 rfl (fun c54 => ?_) (fun c54 => ?_)
        · have hno : ¬ (100 + d0 ≤ v ∧ v < 100 + d0 + nv) := by
            intro hh
            rw [nI_jp hh.1] at c54
            exact nI_pos (by omega) c54
          rw [if_neg hno]
          refine z_aload_n d_Md_addResult_88 rfl rfl ?_
          refine z_bipush (v := nI 41) d_Md_addResult_89 (by decide +kernel) ?_
          refine z_iload d_Md_addResult_91 rfl ?_
          refine z_mc (as := [.int (nI 41), .int (nI v)]) (dY := d) HG d_Md_addResult_93 rfl (by omega) (Y_Md_53 HG) rfl rfl (Nat.le_of_ble_eq_true rfl) (c_Md_add HG (by omega) hl (by omega)) (fun v1 s1 A1 hp1 => ?_)
          obtain ⟨rfl, hp1⟩ := hp1
          refine z_iinc (v := nI (i + 1)) d_Md_addResult_96 rfl (i_inc _) (by decide) ?_
          refine z_goto (tgt := 13) d_Md_addResult_99 rfl ?_
          refine z_fg [(0, .ref q), (2, .int (nI (32 + ru))), (3, .int (nI (i + 1)))] ⟨rfl, rfl, rfl, trivial⟩ ?_
          have e6 := hp1.arr (k := 6) (by decide) (by decide)
          have e7 := hp1.arr (k := 7) (by decide) (by decide)
          refine z_Vm (ih (i + 1) (m + 1) _ _ s1 A1 (by omega) hp1.row (hp1.keep (by omega) hx) (hp1.keep (by omega) hr) (by rw [e6]; exact hD6) (by rw [e7]; exact hD2) hw2 hm2 (by omega) (fun j hj => by unfold m_gt; rw [hp1.arr (k := 9) (by decide) (by decide), hp1.arr (k := 10) (by decide) (by decide)]; exact hg j hj)) (fun v s' A' hh => ⟨hh.1, ?_⟩)
          exact hp1.tr h40' hh.2
        · have hge : 100 + d0 ≤ v := by
            apply Classical.byContradiction
            intro hh
            exact c54 (nI_jn (by omega) (by omega))
          have hyes : 100 + d0 ≤ v ∧ v < 100 + d0 + nv := by omega
          rw [if_pos hyes]
          have ej := nI_jp hge
          have hj : v - 100 - d0 < nv := by omega
          generalize v - 100 - d0 = j at ej hj ⊢
          have hgj := hgl j hj
          obtain ⟨b6, hA6, hDD⟩ := hD6.sub0 hwx hgj
          refine z_aload_n d_Md_addResult_57 rfl rfl ?_
          refine z_bipush (v := nI 41) d_Md_addResult_58 (by decide +kernel) ?_
          refine z_bipush (v := nI 40) d_Md_addResult_60 (by decide +kernel) ?_
          refine z_aload_n d_Md_addResult_62 rfl rfl ?_
          refine z_mg HG d_Md_addResult_63 (L_Md_35 HG) (by decide) rfl ?_
          refine z_iload d_Md_addResult_66 rfl ?_
          refine z_eqi ej ?_
          refine z_ml HG 9 d_Md_addResult_68 (by decide) (show _ < 4 by omega) (hg j hj).1 ?_
          refine z_aload_n d_Md_addResult_69 rfl rfl ?_
          refine z_mg HG d_Md_addResult_70 (L_Md_38 HG) (by decide) rfl ?_
          refine z_iload d_Md_addResult_73 rfl ?_
          refine z_eqi ej ?_
          refine z_ml HG 10 d_Md_addResult_75 (by decide) (show _ < 4 by omega) (hg j hj).2 ?_
          refine z_aload_n d_Md_addResult_76 rfl rfl ?_
          refine z_mg HG d_Md_addResult_77 (L_Md_29 HG) (by decide) rfl ?_
          refine z_iload_n d_Md_addResult_80 rfl rfl ?_
          refine z_ml HG 7 d_Md_addResult_81 (by decide) (show _ < 40 by omega) hD1 ?_
          refine z_mc (as := [.int (nI 41), .int (nI 40), .int (nI (g j)), .int (nI (g j + p_end 1 (x.drop (g j)))), .int (nI d0)]) (dY := d + 1) HG d_Md_addResult_82 rfl (by omega) (Y_Md_64 HG) rfl rfl (Nat.le_of_ble_eq_true rfl) (c_Md_addShifted HG (by omega) (by omega) (by omega) (by omega) hgj rfl hl hx hA6 hDD hvx) (fun v1 s1 A1 hp1 => ?_)
          obtain ⟨rfl, hp1⟩ := hp1
          refine z_goto (tgt := 96) d_Md_addResult_85 rfl ?_
          refine z_iinc (v := nI (i + 1)) d_Md_addResult_96 rfl (i_inc _) (by decide) ?_
          refine z_goto (tgt := 13) d_Md_addResult_99 rfl ?_
          refine z_fg [(0, .ref q), (2, .int (nI (32 + ru))), (3, .int (nI (i + 1)))] ⟨rfl, rfl, rfl, trivial⟩ ?_
          have e6 := hp1.arr (k := 6) (by decide) (by decide)
          have e7 := hp1.arr (k := 7) (by decide) (by decide)
          refine z_Vm (ih (i + 1) (m + 1) _ _ s1 A1 (by omega) hp1.row (hp1.keep (by omega) hx) (hp1.keep (by omega) hr) (by rw [e6]; exact hD6) (by rw [e7]; exact hD2) hw2 hm2 (by omega) (fun j hj => by unfold m_gt; rw [hp1.arr (k := 9) (by decide) (by decide), hp1.arr (k := 10) (by decide) (by decide)]; exact hg j hj)) (fun v s' A' hh => ⟨hh.1, ?_⟩)
          exact hp1.tr h40' hh.2
theorem c_Md_addResult (HG : z_ok G) {l : List Nat} (hru : ru < 8) (hnv : nv ≤ 4) (hn : n ≤ 4) (hwx : p_wf n [0] x) (hwr : p_wf nv [0] lr) (hgl : ∀ j, j < nv → g j < x.length) (hl : mrow A 41 l) (hx : mrow A 40 x) (hr : mrow A (32 + ru) lr) (hD : dpA (A 6) 0 0 [0] x) (hg : ∀ j, j < nv → m_gt A x g j) : z_C G m_Md_addResult (d + 2) [.ref q, .int (nI ru)] (md G h q s A) (m_post G h q (fun o s' A' => o = none ∧ ∃ A1, m_ms 7 A A1 ∧ m_ad 41 l (p_res nv (fun j => x.drop (g j)) [0] lr) s A1 s' A')) := by
  refine z_C.of (Nat.le_of_ble_eq_true rfl) ?_
  refine z_bipush (v := nI 32) d_Md_addResult_0 (by decide +kernel) ?_
  refine z_iload_n d_Md_addResult_2 rfl rfl ?_
  refine z_iadd d_Md_addResult_3 ?_
  refine z_eqi (nI_add _ _) ?_
  refine z_istore_n d_Md_addResult_4 rfl (by decide) ?_
  refine z_aload_n d_Md_addResult_5 rfl rfl ?_
  refine z_iload_n d_Md_addResult_6 rfl rfl ?_
  refine z_iconst (v := nI 1) d_Md_addResult_7 (by decide) ?_
  refine z_mc (as := [.int (nI (32 + ru)), .int (nI 1)]) (dY := d + 1) HG d_Md_addResult_8 rfl (by omega) (Y_Md_71 HG) rfl rfl (Nat.le_of_ble_eq_true rfl) (c_Md_measure (t := 1) (k := 7) HG (by omega) (Or.inr ⟨rfl, rfl⟩) hr hwr) (fun v1 s1 A1 hp1 => ?_)
  obtain ⟨rfl, rfl, k1, k2⟩ := hp1
  refine z_iconst (v := nI 0) d_Md_addResult_11 (by decide) ?_
  refine z_istore_n d_Md_addResult_12 rfl (by decide) ?_
  refine z_fg [(0, .ref q), (2, .int (nI (32 + ru))), (3, .int (nI 0))] ⟨rfl, rfl, rfl, trivial⟩ ?_
  refine z_Vm (l_Md_res (nv := nv) (g := g) HG hru hnv hwx (p_wf_200 hwx hn hx.len) hgl lr.length 0 0 [0] l s1 A1 (by omega) (k1.row (Or.inr rfl) hl) (k1.row (Or.inr rfl) hx) (k1.row (Or.inr rfl) hr) (by rw [k1 6 (by decide) (by decide)]; exact hD) k2 hwr (fun y hy => by simp at hy; omega) (by omega) (fun j hj => by unfold m_gt; rw [k1 9 (by decide) (by decide), k1 10 (by decide) (by decide)]; exact hg j hj)) (fun v s' A' hh => ⟨hh.1, A1, k1, hh.2⟩)
theorem l_stA (HG : z_ok G) {Q : z_R → z_H → Prop} {wv : Int32} (hp : p ≤ x.length) : ∀ (c i : Nat) (l : List Nat) (s : Nat → Int32) (A : Nat → Nat → Int32), i + c = p → mrow A 41 l → mrow A 40 x → (∀ s' A', m_ad 41 l ((x.drop i).take c) s A s' A' → z_V G m_Md_step (d + 3) 41 [(0, .ref q), (1, .int (nI p)), (2, .int wv)] [] (md G h q s' A') Q) →
    z_V G m_Md_step (d + 3) 17 [(0, .ref q), (1, .int (nI p)), (2, .int wv), (3, .int (nI i))] [] (md G h q s A) Q := by
  intro c
  induction c with
  | zero =>
    intro i l s A hi hl hx kk
    have h40 := hx.len
    refine z_iload_n d_Md_step_17 rfl rfl ?_
    refine z_iload_n d_Md_step_18 rfl rfl ?_
    refine z_icmp_ge (tgt := 41) d_Md_step_19 rfl (fun c19 => ?_) (fun c19 => ?_)
    · rw [nI_leI (by omega) (by omega)] at c19
      exact z_fg [(0, .ref q), (1, .int (nI p)), (2, .int wv)] ⟨rfl, rfl, rfl, trivial⟩ (kk s A (m_ad.nil hl))
    · rw [nI_leI (by omega) (by omega)] at c19
      omega
  | succ c ih =>
    intro i l s A hi hl hx kk
    have h40 := hx.len
    have h40' := hl.len
    refine z_iload_n d_Md_step_17 rfl rfl ?_
    refine z_iload_n d_Md_step_18 rfl rfl ?_
    refine z_icmp_ge (tgt := 41) d_Md_step_19 rfl (fun c19 => ?_) (fun c19 => ?_)
    · rw [nI_leI (by omega) (by omega)] at c19
      omega
    · rw [nI_leI (by omega) (by omega)] at c19
      refine z_aload_n d_Md_step_22 rfl rfl ?_
      refine z_bipush (v := nI 41) d_Md_step_23 (by decide +kernel) ?_
      refine z_aload_n d_Md_step_25 rfl rfl ?_
      refine z_bipush (v := nI 40) d_Md_step_26 (by decide +kernel) ?_
      refine z_iload_n d_Md_step_28 rfl rfl ?_
      refine z_mr (as := [.int (nI 40), .int (nI i)]) (dY := d) HG d_Md_step_29 rfl (by omega) (Y_Md_49 HG) rfl rfl (Nat.le_of_ble_eq_true rfl) (c_Md_at (r := 40) HG (by omega) (hx.eq (by omega))) ?_
      refine z_mc (as := [.int (nI 41), .int (nI (x.getD i 0))]) (dY := d) HG d_Md_step_32 rfl (by omega) (Y_Md_53 HG) rfl rfl (Nat.le_of_ble_eq_true rfl) (c_Md_add HG (by omega) hl (hx.lt (by omega))) (fun v1 s1 A1 hp1 => ?_)
      obtain ⟨rfl, hp1⟩ := hp1
      refine z_iinc (v := nI (i + 1)) d_Md_step_35 rfl (i_inc _) (by decide) ?_
      refine z_goto (tgt := 17) d_Md_step_38 rfl ?_
      refine z_fg [(0, .ref q), (1, .int (nI p)), (2, .int wv), (3, .int (nI (i + 1)))] ⟨rfl, rfl, rfl, rfl, trivial⟩ ?_
      refine ih (i + 1) _ s1 A1 (by omega) hp1.row (hp1.keep (by omega) hx) (fun s' A' hh => kk s' A' ?_)
      rw [l_dc (l := x) (i := i) (by omega), List.take_succ_cons]
      exact hp1.tr h40' hh
theorem l_stB (HG : z_ok G) {Q : z_R → z_H → Prop} : ∀ (c i : Nat) (l : List Nat) (s : Nat → Int32) (A : Nat → Nat → Int32), i + c = x.length → mrow A 41 l → mrow A 40 x → (∀ s' A', m_ad 41 l (x.drop i) s A s' A' → z_V G m_Md_step (d + 3) 133 [(0, .ref q)] [] (md G h q s' A') Q) →
    z_V G m_Md_step (d + 3) 101 [(0, .ref q), (4, .int (nI i))] [] (md G h q s A) Q := by
  intro c
  induction c with
  | zero =>
    intro i l s A hi hl hx kk
    have h40 := hx.len
    refine z_iload d_Md_step_101 rfl ?_
    refine z_aload_n d_Md_step_103 rfl rfl ?_
    refine z_mg HG d_Md_step_104 (L_Md_13 HG) (by decide) rfl ?_
    refine z_bipush (v := nI 40) d_Md_step_107 (by decide +kernel) ?_
    refine z_ml HG 2 d_Md_step_109 (by decide) (show _ < 43 by omega) hx.1 ?_
    refine z_icmp_ge (tgt := 133) d_Md_step_110 rfl (fun c110 => ?_) (fun c110 => ?_)
    · rw [nI_leI (by omega) (by omega)] at c110
      exact z_fg [(0, .ref q)] ⟨rfl, trivial⟩ (kk s A (by rw [List.drop_eq_nil_of_le (by omega)]; exact m_ad.nil hl))
    · rw [nI_leI (by omega) (by omega)] at c110
      omega
  | succ c ih =>
    intro i l s A hi hl hx kk
    have h40 := hx.len
    have h40' := hl.len
    refine z_iload d_Md_step_101 rfl ?_
    refine z_aload_n d_Md_step_103 rfl rfl ?_
    refine z_mg HG d_Md_step_104 (L_Md_13 HG) (by decide) rfl ?_
    refine z_bipush (v := nI 40) d_Md_step_107 (by decide +kernel) ?_
    refine z_ml HG 2 d_Md_step_109 (by decide) (show _ < 43 by omega) hx.1 ?_
    refine z_icmp_ge (tgt := 133) d_Md_step_110 rfl (fun c110 => ?_) (fun c110 => ?_)
    · rw [nI_leI (by omega) (by omega)] at c110
      omega
    · rw [nI_leI (by omega) (by omega)] at c110
      refine z_aload_n d_Md_step_113 rfl rfl ?_
      refine z_bipush (v := nI 41) d_Md_step_114 (by decide +kernel) ?_
      refine z_aload_n d_Md_step_116 rfl rfl ?_
      refine z_bipush (v := nI 40) d_Md_step_117 (by decide +kernel) ?_
      refine z_iload d_Md_step_119 rfl ?_
      refine z_mr (as := [.int (nI 40), .int (nI i)]) (dY := d) HG d_Md_step_121 rfl (by omega) (Y_Md_49 HG) rfl rfl (Nat.le_of_ble_eq_true rfl) (c_Md_at (r := 40) HG (by omega) (hx.eq (by omega))) ?_
      refine z_mc (as := [.int (nI 41), .int (nI (x.getD i 0))]) (dY := d) HG d_Md_step_124 rfl (by omega) (Y_Md_53 HG) rfl rfl (Nat.le_of_ble_eq_true rfl) (c_Md_add HG (by omega) hl (hx.lt (by omega))) (fun v1 s1 A1 hp1 => ?_)
      obtain ⟨rfl, hp1⟩ := hp1
      refine z_iinc (v := nI (i + 1)) d_Md_step_127 rfl (i_inc _) (by decide) ?_
      refine z_goto (tgt := 101) d_Md_step_130 rfl ?_
      refine z_fg [(0, .ref q), (4, .int (nI (i + 1)))] ⟨rfl, rfl, trivial⟩ ?_
      refine ih (i + 1) _ s1 A1 (by omega) hp1.row (hp1.keep (by omega) hx) (fun s' A' hh => kk s' A' ?_)
      rw [l_dc (l := x) (i := i) (by omega)]
      exact hp1.tr h40' hh
theorem l_stC (HG : z_ok G) {e : Nat} {l : List Nat} (he : e ≤ x.length) (hl : mrow A 41 l) (hx : mrow A 40 x) : z_V G m_Md_step (d + 3) 98 [(0, .ref q), (3, .int (nI e))] [] (md G h q s A) (m_post G h q (fun o s' A' => o = none ∧ ∃ A1, m_ad 41 l (x.drop e) s A s' A1 ∧ m_wr A1 A' 40 ((l ++ x.drop e).take 40))) := by
  refine z_iload_n d_Md_step_98 rfl rfl ?_
  refine z_istore d_Md_step_99 (by decide) ?_
  refine z_fg [(0, .ref q), (4, .int (nI e))] ⟨rfl, rfl, trivial⟩ ?_
  refine l_stB HG (x.length - e) e l s A (by omega) hl hx (fun s' A' hh => ?_)
  refine z_aload_n d_Md_step_133 rfl rfl ?_
  refine z_bipush (v := nI 41) d_Md_step_134 (by decide +kernel) ?_
  refine z_bipush (v := nI 40) d_Md_step_136 (by decide +kernel) ?_
  refine z_mc (as := [.int (nI 41), .int (nI 40)]) (dY := d + 2) HG d_Md_step_138 rfl (by omega) (Y_Md_90 HG) rfl rfl (Nat.le_of_ble_eq_true rfl) (c_Md_copy HG (by omega) (by omega) (by omega) hh.row) (fun v1 s1 A1 hp1 => ?_)
  obtain ⟨rfl, rfl, hp1⟩ := hp1
  exact z_return d_Md_step_141 rfl ⟨_, _, _, rfl, rfl, rfl, _, hh, hp1⟩
/-- the row after a step that made y -/
def m_sq (y : List Nat) (s : Nat → Int32) (A : Nat → Nat → Int32) : Option Value → (Nat → Int32) → (Nat → Nat → Int32) → Prop := fun o s' A' => o = none ∧ s' = m_tl s (decide (40 < y.length)) ∧ m_sx A A' ∧ mrow A' 40 (y.take 40)
theorem m_ax.fin {L w y : List Nat} {s1 s' : Nat → Int32} {A1 A3 A' : Nat → Nat → Int32} (hy : y = L ++ w) (h1 : m_ax [] L s A s1 A1) (h2 : m_ad 41 (([] ++ L).take 40) w s1 A1 s' A3) (h3 : m_wr A3 A' 40 ((([] ++ L).take 40 ++ w).take 40)) : m_sq y s A none s' A' := by
  have h4 := h1.tr (by decide) h2.ax
  subst hy
  refine ⟨rfl, ?_, h4.2.1.tr (h3.sx (Or.inl rfl)), ?_⟩
  · rw [List.length_append]
    have e := h4.1
    rw [List.length_nil, Nat.zero_add, List.length_append] at e
    exact e
  · have e := h3.row
    rw [l_tt, List.nil_append] at e
    exact e
theorem c_Md_stepB (HG : z_ok G) (hn : n ≤ 4) (hw : p_wf n [0] x) (hx : mrow A 40 x) (h2 : x[p]? = some 2) (h3 : x[p + 1]? = some 3) : z_C G m_Md_step (d + 3) [.ref q, .int (nI p), .int (-1)] (md G h q s A) (m_post G h q (m_sq (p_beta x p) s A)) := by
  have hp := l_gi h2
  have hp1 := l_gi h3
  have h40 := hx.len
  have hbe := p_end_beta h2 h3
  have k0 := (p_wf_at (i := p) hw (Nat.le_of_lt hp)).1
  have k1 := k0
  rw [l_d2 h2, l_d2 h3] at k1
  obtain ⟨d1, S, e⟩ := p_wf_ne k1 (by simp)
  rw [e] at k0 k1
  have k3 : p_wf n ([d1] ++ ((d1 + 1) :: d1 :: S)) (x.drop (p + 2)) := k1.2.2
  have hp2 := l_nd k3
  have w1 := (p_wf_split k3).2
  rw [List.drop_drop] at w1
  have hB : p_beta x p = (x.take p ++ p_put (x.drop (p + 2 + p_end 1 (x.drop (p + 2)) + p_end 1 (x.drop (p + 2 + p_end 1 (x.drop (p + 2)))))) [0] (x.drop (p + 2 + p_end 1 (x.drop (p + 2))))) ++ x.drop (p + 2 + p_end 1 (x.drop (p + 2)) + p_end 1 (x.drop (p + 2 + p_end 1 (x.drop (p + 2)))) + p_end 1 (x.drop (p + 2 + p_end 1 (x.drop (p + 2)) + p_end 1 (x.drop (p + 2 + p_end 1 (x.drop (p + 2))))))) := rfl
  rw [← hbe] at hB
  have hee := p_end_drop (x := x) (i := p) (Nat.le_of_lt hp)
  have w1 : p_wf n ((d1 + 1) :: d1 :: S) (x.drop (p + 2 + p_end 1 (x.drop (p + 2)))) := w1
  generalize hb : p + 2 + p_end 1 (x.drop (p + 2)) = b at w1 hB hbe
  have s2 := (p_wf_split (S1 := [d1 + 1]) (S2 := d1 :: S) w1).2
  rw [List.drop_drop] at s2
  have s2 : p_wf n (d1 :: S) (x.drop (b + p_end 1 (x.drop b))) := s2
  generalize ha : b + p_end 1 (x.drop b) = a at s2 hB hbe
  have hb1 := l_nd w1
  have ha1 := l_nd s2
  generalize he : p + p_end 1 (x.drop p) = e0 at hB hbe hee
  refine z_C.of (Nat.le_of_ble_eq_true rfl) ?_
  refine z_aload_n d_Md_step_0 rfl rfl ?_
  refine z_bipush (v := nI 40) d_Md_step_1 (by decide +kernel) ?_
  refine z_iconst (v := nI 0) d_Md_step_3 (by decide) ?_
  refine z_mc (as := [.int (nI 40), .int (nI 0)]) (dY := d + 1) HG d_Md_step_4 rfl (by omega) (Y_Md_71 HG) rfl rfl (Nat.le_of_ble_eq_true rfl) (c_Md_measure (t := 0) (k := 6) HG (by omega) (Or.inl ⟨rfl, rfl⟩) hx hw) (fun v1 s1 A1 hp1 => ?_)
  obtain ⟨rfl, rfl, k1, k2⟩ := hp1
  refine z_aload_n d_Md_step_7 rfl rfl ?_
  refine z_mg HG d_Md_step_8 (L_Md_13 HG) (by decide) rfl ?_
  refine z_bipush (v := nI 41) d_Md_step_11 (by decide +kernel) ?_
  refine z_iconst (v := nI 0) d_Md_step_13 (by decide) ?_
  refine z_ms HG 2 d_Md_step_14 (by decide) (show _ < 43 by omega) ?_
  refine z_iconst (v := nI 0) d_Md_step_15 (by decide) ?_
  refine z_istore_n d_Md_step_16 rfl (by decide) ?_
  have z0 := m_wr.zero A1 41
  have e60 : va_up A1 2 (upd (A1 2) 41 (nI 0)) 6 = A1 6 := va_up_ne _ _ (by decide)
  generalize va_up A1 2 (upd (A1 2) 41 (nI 0)) = A2 at z0 e60 ⊢
  have hx1 := k1.row (Or.inl rfl) hx
  have hx2 := z0.keep (by decide) hx1
  refine z_fg [(0, .ref q), (1, .int (nI p)), (2, .int (-1)), (3, .int (nI 0))] ⟨rfl, rfl, rfl, rfl, trivial⟩ ?_
  refine l_stA HG (Nat.le_of_lt hp) p 0 [] s1 A2 (by omega) z0.row hx2 (fun s3 A3 h3a => ?_)
  rw [List.drop_zero] at h3a
  have hx3 := h3a.keep (by decide) hx2
  have hD3 : dpA (A3 6) 0 0 [0] x := by
    rw [h3a.arr (k := 6) (by decide) (by decide), e60]
    exact k2
  have hax : m_ax [] (x.take p) s1 A s3 A3 := h3a.ax.pre ((k1.sx (Or.inl rfl)).tr (z0.sx (Or.inr rfl)))
  refine z_aload_n d_Md_step_41 rfl rfl ?_
  refine z_bipush (v := nI 40) d_Md_step_42 (by decide +kernel) ?_
  refine z_iload_n d_Md_step_44 rfl rfl ?_
  refine z_mr (as := [.int (nI 40), .int (nI p)]) (dY := d + 1) HG d_Md_step_45 rfl (by omega) (Y_Md_68 HG) rfl rfl (Nat.le_of_ble_eq_true rfl) (c_Md_end (r := 40) HG (by omega) hx3 (by omega) k0) ?_
  refine z_eqi (congrArg nI he) ?_
  refine z_istore_n d_Md_step_48 rfl (by decide) ?_
  refine z_iload_n d_Md_step_49 rfl rfl ?_
  refine z_iconst (v := -1) d_Md_step_50 (by decide) ?_
  refine z_icmp_ne (tgt := 93) d_Md_step_51 rfl (fun c51 => ?_) (fun c51 => ?_)
  · exact absurd rfl c51
  · obtain ⟨ba, hAa, hDa⟩ := hD3.sub0 hw ha1
    obtain ⟨bb, hAb, hDb⟩ := hD3.sub0 hw hb1
    refine z_aload_n d_Md_step_54 rfl rfl ?_
    refine z_bipush (v := nI 40) d_Md_step_55 (by decide +kernel) ?_
    refine z_iload_n d_Md_step_57 rfl rfl ?_
    refine z_iconst (v := nI 2) d_Md_step_58 (by decide) ?_
    refine z_iadd d_Md_step_59 ?_
    refine z_eqi (nI_add _ _) ?_
    refine z_mr (as := [.int (nI 40), .int (nI (p + 2))]) (dY := d + 1) HG d_Md_step_60 rfl (by omega) (Y_Md_68 HG) rfl rfl (Nat.le_of_ble_eq_true rfl) (c_Md_end (r := 40) (S2 := (d1 + 1) :: d1 :: S) HG (by omega) hx3 (by omega) k3) ?_
    refine z_eqi (congrArg nI hb) ?_
    refine z_istore d_Md_step_63 (by decide) ?_
    refine z_aload_n d_Md_step_65 rfl rfl ?_
    refine z_bipush (v := nI 40) d_Md_step_66 (by decide +kernel) ?_
    refine z_iload d_Md_step_68 rfl ?_
    refine z_mr (as := [.int (nI 40), .int (nI b)]) (dY := d + 1) HG d_Md_step_70 rfl (by omega) (Y_Md_68 HG) rfl rfl (Nat.le_of_ble_eq_true rfl) (c_Md_end (r := 40) HG (by omega) hx3 (by omega) w1) ?_
    refine z_eqi (congrArg nI ha) ?_
    refine z_istore d_Md_step_73 (by decide) ?_
    refine z_aload_n d_Md_step_75 rfl rfl ?_
    refine z_bipush (v := nI 41) d_Md_step_76 (by decide +kernel) ?_
    refine z_bipush (v := nI 40) d_Md_step_78 (by decide +kernel) ?_
    refine z_iload d_Md_step_80 rfl ?_
    refine z_iload d_Md_step_82 rfl ?_
    refine z_iload d_Md_step_84 rfl ?_
    refine z_iload_n d_Md_step_86 rfl rfl ?_
    refine z_mc (as := [.int (nI 41), .int (nI 40), .int (nI b), .int (nI a), .int (nI a), .int (nI e0)]) (dY := d + 2) HG d_Md_step_87 rfl (by omega) (Y_Md_82 HG) rfl rfl (Nat.le_of_ble_eq_true rfl) (c_Md_addPut HG (by omega) (by omega) (by omega) hb1 ha.symm ha1 hbe h3a.row hx3 hAa hDa hAb hDb (p_wf_200 hw hn h40)) (fun v4 s4 A4 hp4 => ?_)
    obtain ⟨rfl, hp4⟩ := hp4
    refine z_goto (tgt := 98) d_Md_step_90 rfl ?_
    refine z_fg [(0, .ref q), (3, .int (nI e0))] ⟨rfl, rfl, trivial⟩ ?_
    have hax2 := hax.tr (by decide) hp4.ax
    have hrow := hax2.2.2
    refine z_Vm (l_stC HG hee hrow (hp4.keep (by decide) hx3)) (fun o s' A' hh => ?_)
    obtain ⟨rfl, A5, u1, u2⟩ := hh
    exact hax2.fin hB u1 u2
theorem c_Md_stepR (HG : z_ok G) {R : List Nat × List Nat × Nat} (hru : ru < 8) (hn : n ≤ 4) (hp : p < x.length) (hw : p_wf n [0] x) (hR : p_rok R) (hm : (p_match R.2.2 x R.1 p (fun _ => 0)).1 = true) (hx : mrow A 40 x) (hr : mrow A (32 + ru) R.2.1) (hg : ∀ j, j < R.2.2 → m_gt A x (p_match R.2.2 x R.1 p (fun _ => 0)).2 j) : z_C G m_Md_step (d + 3) [.ref q, .int (nI p), .int (nI ru)] (md G h q s A) (m_post G h q (m_sq (p_rule R.2.2 (p_match R.2.2 x R.1 p (fun _ => 0)).2 R.2.1 x p) s A)) := by
  have h40 := hx.len
  have hgl := p_match_lt hw hp hR hm
  have k0 := (p_wf_at (i := p) hw (Nat.le_of_lt hp)).1
  have hne : x.drop p ≠ [] := by
    intro hh
    rw [List.drop_eq_getElem_cons hp] at hh
    cases hh
  obtain ⟨d1, S, e⟩ := p_wf_ne k0 hne
  rw [e] at k0
  have hB : p_rule R.2.2 (p_match R.2.2 x R.1 p (fun _ => 0)).2 R.2.1 x p = (x.take p ++ p_res R.2.2 (fun j => x.drop ((p_match R.2.2 x R.1 p (fun _ => 0)).2 j)) [0] R.2.1) ++ x.drop (p + p_end 1 (x.drop p)) := rfl
  have hee := p_end_drop (x := x) (i := p) (Nat.le_of_lt hp)
  generalize (p_match R.2.2 x R.1 p (fun _ => 0)).2 = g at hgl hB hg
  generalize he : p + p_end 1 (x.drop p) = e0 at hB hee
  refine z_C.of (Nat.le_of_ble_eq_true rfl) ?_
  refine z_aload_n d_Md_step_0 rfl rfl ?_
  refine z_bipush (v := nI 40) d_Md_step_1 (by decide +kernel) ?_
  refine z_iconst (v := nI 0) d_Md_step_3 (by decide) ?_
  refine z_mc (as := [.int (nI 40), .int (nI 0)]) (dY := d + 1) HG d_Md_step_4 rfl (by omega) (Y_Md_71 HG) rfl rfl (Nat.le_of_ble_eq_true rfl) (c_Md_measure (t := 0) (k := 6) HG (by omega) (Or.inl ⟨rfl, rfl⟩) hx hw) (fun v1 s1 A1 hp1 => ?_)
  obtain ⟨rfl, rfl, k1, k2⟩ := hp1
  refine z_aload_n d_Md_step_7 rfl rfl ?_
  refine z_mg HG d_Md_step_8 (L_Md_13 HG) (by decide) rfl ?_
  refine z_bipush (v := nI 41) d_Md_step_11 (by decide +kernel) ?_
  refine z_iconst (v := nI 0) d_Md_step_13 (by decide) ?_
  refine z_ms HG 2 d_Md_step_14 (by decide) (show _ < 43 by omega) ?_
  refine z_iconst (v := nI 0) d_Md_step_15 (by decide) ?_
  refine z_istore_n d_Md_step_16 rfl (by decide) ?_
  have z0 := m_wr.zero A1 41
  have e60 : va_up A1 2 (upd (A1 2) 41 (nI 0)) 6 = A1 6 := va_up_ne _ _ (by decide)
  generalize va_up A1 2 (upd (A1 2) 41 (nI 0)) = A2 at z0 e60 ⊢
  have hx1 := k1.row (Or.inl rfl) hx
  have hx2 := z0.keep (by decide) hx1
  refine z_fg [(0, .ref q), (1, .int (nI p)), (2, .int (nI ru)), (3, .int (nI 0))] ⟨rfl, rfl, rfl, rfl, trivial⟩ ?_
  refine l_stA HG (Nat.le_of_lt hp) p 0 [] s1 A2 (by omega) z0.row hx2 (fun s3 A3 h3a => ?_)
  rw [List.drop_zero] at h3a
  have hx3 := h3a.keep (by decide) hx2
  have hD3 : dpA (A3 6) 0 0 [0] x := by
    rw [h3a.arr (k := 6) (by decide) (by decide), e60]
    exact k2
  have hax : m_ax [] (x.take p) s1 A s3 A3 := h3a.ax.pre ((k1.sx (Or.inl rfl)).tr (z0.sx (Or.inr rfl)))
  refine z_aload_n d_Md_step_41 rfl rfl ?_
  refine z_bipush (v := nI 40) d_Md_step_42 (by decide +kernel) ?_
  refine z_iload_n d_Md_step_44 rfl rfl ?_
  refine z_mr (as := [.int (nI 40), .int (nI p)]) (dY := d + 1) HG d_Md_step_45 rfl (by omega) (Y_Md_68 HG) rfl rfl (Nat.le_of_ble_eq_true rfl) (c_Md_end (r := 40) HG (by omega) hx3 (by omega) k0) ?_
  refine z_eqi (congrArg nI he) ?_
  refine z_istore_n d_Md_step_48 rfl (by decide) ?_
  refine z_iload_n d_Md_step_49 rfl rfl ?_
  refine z_iconst (v := -1) d_Md_step_50 (by decide) ?_
  refine z_icmp_ne (tgt := 93) d_Md_step_51 rfl (fun c51 => ?_) (fun c51 => ?_)
  · have hr3 := h3a.keep (r' := 32 + ru) (by omega) (z0.keep (by omega) (k1.row (Or.inl rfl) hr))
    have hg3 : ∀ j, j < R.2.2 → m_gt A3 x g j := fun j hj => by
      unfold m_gt
      rw [h3a.arr (k := 9) (by decide) (by decide), h3a.arr (k := 10) (by decide) (by decide), z0.1 9 (by decide) (by decide), z0.1 10 (by decide) (by decide), k1 9 (by decide) (by decide), k1 10 (by decide) (by decide)]
      exact hg j hj
    refine z_aload_n d_Md_step_93 rfl rfl ?_
    refine z_iload_n d_Md_step_94 rfl rfl ?_
    refine z_mc (as := [.int (nI ru)]) (dY := d + 2) HG d_Md_step_95 rfl (by omega) (Y_Md_86 HG) rfl rfl (Nat.le_of_ble_eq_true rfl) (c_Md_addResult (g := g) HG hru hR.2.2.2.2 hn hw hR.2.1 hgl h3a.row hx3 hr3 hD3 hg3) (fun v4 s4 A4 hp4 => ?_)
    obtain ⟨rfl, A9, u0, hp4⟩ := hp4
    refine z_fg [(0, .ref q), (3, .int (nI e0))] ⟨rfl, rfl, trivial⟩ ?_
    have hax2 := (hax.ms u0).tr (by decide) hp4.ax
    have hrow := hax2.2.2
    refine z_Vm (l_stC HG hee hrow (hp4.keep (by decide) (u0.row (Or.inr rfl) hx3))) (fun o s' A' hh => ?_)
    obtain ⟨rfl, A5, u1, u2⟩ := hh
    exact hax2.fin hB u1 u2
  · exact absurd c51.symm (nI_m1 (by omega))
end MS
