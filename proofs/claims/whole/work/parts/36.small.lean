/-! TypeKernel's small methods -/
def z_ISE : String := "java/lang/IllegalStateException"
def z_UOE : String := "java/lang/UnsupportedOperationException"
def z_IAE : String := "java/lang/IllegalArgumentException"
def z_IOB : String := "java/lang/IndexOutOfBoundsException"
def z_eqx (c : Prop) (v : Option Value) (P : z_H → Prop) (X : String) (PX : z_H → Prop) : z_R → z_H → Prop := fun r h' => (c ∧ r = .inl v ∧ P h') ∨ (¬ c ∧ r = .inr X ∧ PX h')
theorem z_callVg {G : z_G} {mt mtY : z_M} {d dY pc : Nat} {lo : List (Nat × Value)} {st : List Value} {h : z_H} {Q : z_R → z_H → Prop} {as : List Value} {b ci N idx n : Nat} {T : u_T} {fs : List Value} (hd : decode mt.2.1 pc = .ok (.invokevirtual idx, 3)) (hh : mt.2.2.2.2 = []) (hdp : dY + 1 ≤ d) (Y : z_Yv G mt.1.cls idx mtY n) (hn : as.length = n) (hb : h.2.2 b = some (.inr (ci, fs))) (hcl : G.cl[ci]? = some (mtY.1.cls, T, N)) (hst : (st.map fun v => v.category).sum ≤ 8) {c : Prop} {v : Option Value} {P : z_H → Prop} {X : String} {PX : z_H → Prop} (hM : z_C G mtY dY (.ref b :: as) h (z_eqx c v P X PX)) (kk : c → ∀ h', P h' → z_V G mt d (pc + 3) lo (v.toList ++ st) h' Q) (kx : ¬ c → ∀ h', PX h' → Q (.inr X) h') : z_V G mt d pc lo (as.reverse ++ .ref b :: st) h Q :=
  z_callV hd hh hdp Y hn hb hcl hst hM (fun v h' q => by
    rcases q with ⟨q1, q2, q3⟩ | ⟨-, q2, -⟩
    · cases q2
      exact kk q1 h' q3
    · cases q2) (fun X h' q => by
    rcases q with ⟨-, q2, -⟩ | ⟨q1, q2, q3⟩
    · cases q2
    · cases q2
      exact kx q1 h' q3)
def k_is (i : Int32) (n : Nat) : Int32 := if i < 0 then nI 0 else if nI n ≤ i then nI 0 else nI 1
theorem k_is_nI {j n : Nat} (hj : j < 2 ^ 31) (hn : n < 2 ^ 31) : k_is (nI j) n = if j < n then nI 1 else nI 0 := by
  unfold k_is
  rw [if_neg (nI_pos hj)]
  by_cases h : j < n
  · rw [if_neg (nI_ge h hn), if_pos h]
  · rw [if_pos (nI_le (by omega) hj), if_neg h]
theorem l_is {f : Nat → Int32} {l : List Nat} {v : Nat} (h : rl f l) (hv : v < 1000) : (l.length = 1 ∧ f 0 = nI v) ↔ l = [v] := by
  cases l with
  | nil => simp
  | cons w l =>
    have h0 := h.2 0 (by simp)
    have e : (w :: l).getD 0 0 = w := rfl
    rw [e] at h0
    constructor
    · rintro ⟨h1, h2⟩
      rw [h0.1, nI_eq (by omega) (by omega)] at h2
      have : l = [] := List.eq_nil_of_length_eq_zero (by simpa using h1)
      rw [h2, this]
    · intro e
      cases e
      exact ⟨rfl, h0.1⟩
section TS
variable {G : z_G} {h : z_H} {d o nj ne nc : Nat}
theorem c_TK_isConstant (HG : z_ok G) (ho : h.2.2 o = some (k_tk o nj ne nc)) (i : Int32) : z_C G m_TK_isConstant d [.ref o, .int i] h (z_rq (some (.int (k_is i nc))) h) := by
  refine z_C.of (Nat.le_of_ble_eq_true rfl) ?_
  unfold k_is
  refine z_iload_n d_TK_isConstant_0 rfl rfl ?_
  refine z_if_lt (tgt := 16) d_TK_isConstant_1 rfl (fun c1 => ?_) (fun c1 => ?_)
  · rw [if_pos c1]
    refine z_iconst (v := nI 0) d_TK_isConstant_16 (by decide) ?_
    exact z_ireturn d_TK_isConstant_17 rfl rfl ⟨rfl, rfl⟩
  · rw [if_neg c1]
    refine z_iload_n d_TK_isConstant_4 rfl rfl ?_
    refine z_aload_n d_TK_isConstant_5 rfl rfl ?_
    refine z_getf (L_TK_35K HG) (by decide) (L_TK_35 HG) d_TK_isConstant_6 ho (by rfl) ?_
    refine z_icmp_ge (tgt := 16) d_TK_isConstant_9 rfl (fun c2 => ?_) (fun c2 => ?_)
    · rw [if_pos c2]
      refine z_iconst (v := nI 0) d_TK_isConstant_16 (by decide) ?_
      exact z_ireturn d_TK_isConstant_17 rfl rfl ⟨rfl, rfl⟩
    · rw [if_neg c2]
      refine z_iconst (v := nI 1) d_TK_isConstant_12 (by decide) ?_
      refine z_goto (tgt := 17) d_TK_isConstant_13 rfl ?_
      exact z_ireturn d_TK_isConstant_17 rfl rfl ⟨rfl, rfl⟩
theorem c_TK_isEntry (HG : z_ok G) (ho : h.2.2 o = some (k_tk o nj ne nc)) (i : Int32) : z_C G m_TK_isEntry d [.ref o, .int i] h (z_rq (some (.int (k_is i ne))) h) := by
  refine z_C.of (Nat.le_of_ble_eq_true rfl) ?_
  unfold k_is
  refine z_iload_n d_TK_isEntry_0 rfl rfl ?_
  refine z_if_lt (tgt := 16) d_TK_isEntry_1 rfl (fun c1 => ?_) (fun c1 => ?_)
  · rw [if_pos c1]
    refine z_iconst (v := nI 0) d_TK_isEntry_16 (by decide) ?_
    exact z_ireturn d_TK_isEntry_17 rfl rfl ⟨rfl, rfl⟩
  · rw [if_neg c1]
    refine z_iload_n d_TK_isEntry_4 rfl rfl ?_
    refine z_aload_n d_TK_isEntry_5 rfl rfl ?_
    refine z_getf (L_TK_25K HG) (by decide) (L_TK_25 HG) d_TK_isEntry_6 ho (by rfl) ?_
    refine z_icmp_ge (tgt := 16) d_TK_isEntry_9 rfl (fun c2 => ?_) (fun c2 => ?_)
    · rw [if_pos c2]
      refine z_iconst (v := nI 0) d_TK_isEntry_16 (by decide) ?_
      exact z_ireturn d_TK_isEntry_17 rfl rfl ⟨rfl, rfl⟩
    · rw [if_neg c2]
      refine z_iconst (v := nI 1) d_TK_isEntry_12 (by decide) ?_
      refine z_goto (tgt := 17) d_TK_isEntry_13 rfl ?_
      exact z_ireturn d_TK_isEntry_17 rfl rfl ⟨rfl, rfl⟩
theorem c_TK_isJudgement (HG : z_ok G) (ho : h.2.2 o = some (k_tk o nj ne nc)) (i : Int32) : z_C G m_TK_isJudgement d [.ref o, .int i] h (z_rq (some (.int (k_is i nj))) h) := by
  refine z_C.of (Nat.le_of_ble_eq_true rfl) ?_
  unfold k_is
  refine z_iload_n d_TK_isJudgement_0 rfl rfl ?_
  refine z_if_lt (tgt := 16) d_TK_isJudgement_1 rfl (fun c1 => ?_) (fun c1 => ?_)
  · rw [if_pos c1]
    refine z_iconst (v := nI 0) d_TK_isJudgement_16 (by decide) ?_
    exact z_ireturn d_TK_isJudgement_17 rfl rfl ⟨rfl, rfl⟩
  · rw [if_neg c1]
    refine z_iload_n d_TK_isJudgement_4 rfl rfl ?_
    refine z_aload_n d_TK_isJudgement_5 rfl rfl ?_
    refine z_getf (L_TK_15K HG) (by decide) (L_TK_15 HG) d_TK_isJudgement_6 ho (by rfl) ?_
    refine z_icmp_ge (tgt := 16) d_TK_isJudgement_9 rfl (fun c2 => ?_) (fun c2 => ?_)
    · rw [if_pos c2]
      refine z_iconst (v := nI 0) d_TK_isJudgement_16 (by decide) ?_
      exact z_ireturn d_TK_isJudgement_17 rfl rfl ⟨rfl, rfl⟩
    · rw [if_neg c2]
      refine z_iconst (v := nI 1) d_TK_isJudgement_12 (by decide) ?_
      refine z_goto (tgt := 17) d_TK_isJudgement_13 rfl ?_
      exact z_ireturn d_TK_isJudgement_17 rfl rfl ⟨rfl, rfl⟩
theorem c_TK_entryAt (HG : z_ok G) (ho : h.2.2 o = some (k_tk o nj ne nc)) (hF : tkF G h o) (hne : ne ≤ 4) {k : Nat} (hk : k < ne) : z_C G m_TK_entryAt d [.ref o, .int (nI k)] h (z_rq (some (.ref (k_cu o (ne - 1 - k)))) h) := by
  obtain ⟨-, ⟨f, h2, hf⟩, -⟩ := hF
  refine z_C.of (Nat.le_of_ble_eq_true rfl) ?_
  refine z_aload_n d_TK_entryAt_0 rfl rfl ?_
  refine z_getf (L_TK_21K HG) (by decide) (L_TK_21 HG) d_TK_entryAt_1 ho (by rfl) ?_
  refine z_aload_n d_TK_entryAt_4 rfl rfl ?_
  refine z_getf (L_TK_25K HG) (by decide) (L_TK_25 HG) d_TK_entryAt_5 ho (by rfl) ?_
  refine z_iconst (v := nI 1) d_TK_entryAt_8 (by decide) ?_
  refine z_isub d_TK_entryAt_9 ?_
  rw [pk_sub (by omega)]
  refine z_iload_n d_TK_entryAt_10 rfl rfl ?_
  refine z_isub d_TK_entryAt_11 ?_
  rw [pk_sub (by omega)]
  refine z_aald d_TK_entryAt_12 (ty3 HG) h2 (pk_in (ne - 1 - k) 4 (by omega)) (by rw [nI_clamp (by omega)]; exact hf _ (by omega)) ?_
  exact z_areturn d_TK_entryAt_13 rfl ⟨rfl, rfl⟩
theorem c_TK_judgementAt (HG : z_ok G) (ho : h.2.2 o = some (k_tk o nj ne nc)) (hF : tkF G h o) (hnj : nj ≤ 6) {k : Nat} (hk : k < nj) : z_C G m_TK_judgementAt d [.ref o, .int (nI k)] h (z_rq (some (.ref (k_ju o (nj - 1 - k)))) h) := by
  obtain ⟨⟨f, h2, hf⟩, -, -⟩ := hF
  refine z_C.of (Nat.le_of_ble_eq_true rfl) ?_
  refine z_aload_n d_TK_judgementAt_0 rfl rfl ?_
  refine z_getf (L_TK_11K HG) (by decide) (L_TK_11 HG) d_TK_judgementAt_1 ho (by rfl) ?_
  refine z_aload_n d_TK_judgementAt_4 rfl rfl ?_
  refine z_getf (L_TK_15K HG) (by decide) (L_TK_15 HG) d_TK_judgementAt_5 ho (by rfl) ?_
  refine z_iconst (v := nI 1) d_TK_judgementAt_8 (by decide) ?_
  refine z_isub d_TK_judgementAt_9 ?_
  rw [pk_sub (by omega)]
  refine z_iload_n d_TK_judgementAt_10 rfl rfl ?_
  refine z_isub d_TK_judgementAt_11 ?_
  rw [pk_sub (by omega)]
  refine z_aald d_TK_judgementAt_12 (ty4 HG) h2 (pk_in (nj - 1 - k) 6 (by omega)) (by rw [nI_clamp (by omega)]; exact hf _ (by omega)) ?_
  exact z_areturn d_TK_judgementAt_13 rfl ⟨rfl, rfl⟩
theorem c_TK_needed (HG : z_ok G) (hrm : z_rm G h) (ho : h.2.2 o = some (k_tk o nj ne nc)) (hF : tkF G h o) (hnj : nj ≤ 6) {k : Nat} (hk : k < 6) : z_C G m_TK_neededJudgement (d + 1) [.ref o, .int (nI k)] h (z_eqx (k < nj) (some (.ref (k_ju o (nj - 1 - k)))) (fun h' => h' = h) z_ISE (fun h' => h' = z_exc h)) := by
  refine z_C.of (Nat.le_of_ble_eq_true rfl) ?_
  refine z_aload_n d_TK_neededJudgement_0 rfl rfl ?_
  refine z_iload_n d_TK_neededJudgement_1 rfl rfl ?_
  refine z_callV1r (dY := d) d_TK_neededJudgement_2 rfl (by omega) (Y_TK_173 HG) ho (cl_TK HG) (Nat.le_of_ble_eq_true rfl) (c_TK_isJudgement HG ho (nI k)) ?_
  rw [k_is_nI (by omega) (by omega)]
  refine z_if_ne (tgt := 16) d_TK_neededJudgement_5 rfl (fun c1 => ?_) (fun c1 => ?_)
  · have hk2 : k < nj := by
      apply Classical.byContradiction
      intro hh
      rw [if_neg hh] at c1
      exact c1 nI_0
    refine z_aload_n d_TK_neededJudgement_16 rfl rfl ?_
    refine z_iload_n d_TK_neededJudgement_17 rfl rfl ?_
    refine z_callV1r (dY := d) d_TK_neededJudgement_18 rfl (by omega) (Y_TK_176 HG) ho (cl_TK HG) (Nat.le_of_ble_eq_true rfl) (c_TK_judgementAt HG ho hF hnj hk2) ?_
    exact z_areturn d_TK_neededJudgement_21 rfl (Or.inl ⟨hk2, rfl, rfl⟩)
  · have hk2 : ¬ k < nj := by
      intro hh
      rw [if_pos hh] at c1
      exact absurd c1 (by decide)
    exact z_throw d_TK_neededJudgement_8 d_TK_neededJudgement_11 d_TK_neededJudgement_12 d_TK_neededJudgement_15 rfl (by decide +kernel) (t_TK_146 HG) hrm.1 hrm.2 (by decide) (Or.inr ⟨hk2, rfl, rfl⟩)
end TS
section TP
variable {G : z_G} {h : z_H} {d o nc : Nat} {js : List pJ} {ne : Nat}
/-- is there a k-th judgement, made with the present entries -/
def p_pres (js : List pJ) (ne k : Nat) : Prop := ∃ J, js[k]? = some J ∧ J.1 = ne
theorem c_TK_present (HG : z_ok G) (hrm : z_rm G h) (ho : h.2.2 o = some (k_tk o js.length ne nc)) (hF : tkF G h o) (hj : jsAt G h o js) (he : ∀ J ∈ js, J.1 ≤ 4) (hne : ne ≤ 4) {k : Nat} (hk : k < 6) : z_C G m_TK_presentJudgement (d + 2) [.ref o, .int (nI k)] h (z_eqx (p_pres js ne k) (some (.ref (k_ju o (js.length - 1 - k)))) (fun h' => h' = h) z_ISE (fun h' => h' = z_exc h)) := by
  refine z_C.of (Nat.le_of_ble_eq_true rfl) ?_
  refine z_aload_n d_TK_presentJudgement_0 rfl rfl ?_
  refine z_iload_n d_TK_presentJudgement_1 rfl rfl ?_
  refine z_callVg (as := [.int (nI k)]) (dY := d + 1) d_TK_presentJudgement_2 rfl (by omega) (Y_TK_163 HG) rfl ho (cl_TK HG) (Nat.le_of_ble_eq_true rfl) (c_TK_needed HG hrm ho hF hj.1 hk) (fun hc h' hh => ?_) (fun hc h' hh => ?_)
  · subst hh
    have hJ := List.getElem?_eq_getElem hc
    generalize js[k] = J at hJ
    have hJm := he J (List.mem_of_getElem? hJ)
    have hu := (hj.get hJ).ob
    refine z_astore_n d_TK_presentJudgement_5 rfl (by decide) ?_
    refine z_aload_n d_TK_presentJudgement_6 rfl rfl ?_
    refine z_getf (L_TK_166K HG) (by decide) (L_TK_166 HG) d_TK_presentJudgement_7 hu (by rfl) ?_
    refine z_aload_n d_TK_presentJudgement_10 rfl rfl ?_
    refine z_getf (L_TK_25K HG) (by decide) (L_TK_25 HG) d_TK_presentJudgement_11 ho (by rfl) ?_
    refine z_icmp_eq (tgt := 25) d_TK_presentJudgement_14 rfl (fun c1 => ?_) (fun c1 => ?_)
    · rw [nI_eq (by omega) (by omega)] at c1
      refine z_aload_n d_TK_presentJudgement_25 rfl rfl ?_
      exact z_areturn d_TK_presentJudgement_26 rfl (Or.inl ⟨⟨J, hJ, c1⟩, rfl, rfl⟩)
    · rw [nI_eq (by omega) (by omega)] at c1
      refine z_throw d_TK_presentJudgement_17 d_TK_presentJudgement_20 d_TK_presentJudgement_21 d_TK_presentJudgement_24 rfl (by decide +kernel) (t_TK_146 HG) hrm.1 hrm.2 (by decide) (Or.inr ⟨?_, rfl, rfl⟩)
      rintro ⟨J', h1, h2⟩
      rw [hJ] at h1
      cases h1
      exact c1 h2
  · refine Or.inr ⟨?_, rfl, hh⟩
    rintro ⟨J', h1, h2⟩
    exact hc (l_gi' h1)
theorem l_count (HG : z_ok G) (ho : h.2.2 o = some (k_tk o js.length ne nc)) (hF : tkF G h o) (hj : jsAt G h o js) (he : ∀ J ∈ js, J.1 ≤ 4) (hne : ne ≤ 4) : ∀ (c k m : Nat), k + c = js.length → m ≤ k →
    z_V G m_TK_presentCount d 4 [(0, .ref o), (1, .int (nI m)), (2, .int (nI k))] [] h (z_rq (some (.int (nI (m + (js.reverse.drop k).countP (fun J => J.1 == ne))))) h) := by
  obtain ⟨⟨f, h2, hf⟩, -, -⟩ := hF
  have h6 := hj.1
  intro c
  induction c with
  | zero =>
    intro k m hk hm
    rw [List.drop_eq_nil_of_le (by rw [List.length_reverse]; omega)]
    refine z_iload_n d_TK_presentCount_4 rfl rfl ?_
    refine z_aload_n d_TK_presentCount_5 rfl rfl ?_
    refine z_getf (L_TK_15K HG) (by decide) (L_TK_15 HG) d_TK_presentCount_6 ho (by rfl) ?_
    refine z_icmp_ge (tgt := 37) d_TK_presentCount_9 rfl (fun c1 => ?_) (fun c1 => ?_)
    · refine z_iload_n d_TK_presentCount_37 rfl rfl ?_
      exact z_ireturn d_TK_presentCount_38 rfl rfl ⟨rfl, rfl⟩
    · rw [nI_leI (by omega) (by omega)] at c1
      omega
  | succ c ih =>
    intro k m hk hm
    have hkl : k < js.reverse.length := by rw [List.length_reverse]; omega
    have hJ := List.getElem?_eq_getElem hkl
    rw [List.drop_eq_getElem_cons hkl]
    generalize js.reverse[k] = J at hJ ⊢
    have hJm := he J (List.mem_reverse.mp (List.mem_of_getElem? hJ))
    have hu := hj.2 k (by omega)
    rw [hJ] at hu
    have hu := hu.ob
    refine z_iload_n d_TK_presentCount_4 rfl rfl ?_
    refine z_aload_n d_TK_presentCount_5 rfl rfl ?_
    refine z_getf (L_TK_15K HG) (by decide) (L_TK_15 HG) d_TK_presentCount_6 ho (by rfl) ?_
    refine z_icmp_ge (tgt := 37) d_TK_presentCount_9 rfl (fun c1 => ?_) (fun c1 => ?_)
    · rw [nI_leI (by omega) (by omega)] at c1
      omega
    · refine z_aload_n d_TK_presentCount_12 rfl rfl ?_
      refine z_getf (L_TK_11K HG) (by decide) (L_TK_11 HG) d_TK_presentCount_13 ho (by rfl) ?_
      refine z_iload_n d_TK_presentCount_16 rfl rfl ?_
      refine z_aald d_TK_presentCount_17 (ty4 HG) h2 (pk_in k 6 (by omega)) (by rw [nI_clamp (by omega)]; exact hf _ (by omega)) ?_
      refine z_getf (L_TK_166K HG) (by decide) (L_TK_166 HG) d_TK_presentCount_18 hu (by rfl) ?_
      refine z_aload_n d_TK_presentCount_21 rfl rfl ?_
      refine z_getf (L_TK_25K HG) (by decide) (L_TK_25 HG) d_TK_presentCount_22 ho (by rfl) ?_
      refine z_icmp_ne (tgt := 31) d_TK_presentCount_25 rfl (fun c2 => ?_) (fun c2 => ?_)
      · rw [nI_eq (by omega) (by omega)] at c2
        refine z_iinc (v := nI (k + 1)) d_TK_presentCount_31 rfl (i_inc k) (by decide) ?_
        refine z_goto (tgt := 4) d_TK_presentCount_34 rfl ?_
        refine z_fg [(0, .ref o), (1, .int (nI m)), (2, .int (nI (k + 1)))] ⟨rfl, rfl, rfl, trivial⟩ ?_
        rw [List.countP_cons_of_neg (by simpa using c2)]
        exact ih (k + 1) m (by omega) (by omega)
      · rw [nI_eq (by omega) (by omega)] at c2
        refine z_iinc (v := nI (m + 1)) d_TK_presentCount_28 rfl (i_inc m) (by decide) ?_
        refine z_iinc (v := nI (k + 1)) d_TK_presentCount_31 rfl (i_inc k) (by decide) ?_
        refine z_goto (tgt := 4) d_TK_presentCount_34 rfl ?_
        refine z_fg [(0, .ref o), (1, .int (nI (m + 1))), (2, .int (nI (k + 1)))] ⟨rfl, rfl, rfl, trivial⟩ ?_
        rw [List.countP_cons_of_pos (by simpa using c2), ← Nat.add_assoc, Nat.add_right_comm]
        exact ih (k + 1) (m + 1) (by omega) (by omega)
/-- how many judgements are made with the present entries -/
def p_cnt (js : List pJ) (ne : Nat) : Nat := js.countP (fun J => J.1 == ne)
theorem c_TK_presentCount (HG : z_ok G) (ho : h.2.2 o = some (k_tk o js.length ne nc)) (hF : tkF G h o) (hj : jsAt G h o js) (he : ∀ J ∈ js, J.1 ≤ 4) (hne : ne ≤ 4) : z_C G m_TK_presentCount d [.ref o] h (z_rq (some (.int (nI (p_cnt js ne)))) h) := by
  refine z_C.of (Nat.le_of_ble_eq_true rfl) ?_
  refine z_iconst (v := nI 0) d_TK_presentCount_0 (by decide) ?_
  refine z_istore_n d_TK_presentCount_1 rfl (by decide) ?_
  refine z_iconst (v := nI 0) d_TK_presentCount_2 (by decide) ?_
  refine z_istore_n d_TK_presentCount_3 rfl (by decide) ?_
  refine z_fg [(0, .ref o), (1, .int (nI 0)), (2, .int (nI 0))] ⟨rfl, rfl, rfl, trivial⟩ ?_
  refine (l_count HG ho hF hj he hne js.length 0 0 (by omega) (by omega)).mono (fun r h' hh => ?_)
  rw [List.drop_zero, List.countP_reverse, Nat.zero_add] at hh
  exact hh
/-- may the latest entry be taken out with the top judgement -/
def p_only (js : List pJ) (ne : Nat) : Prop := p_pres js ne 0 ∧ ne ≠ 0 ∧ p_cnt js ne ≤ 1
theorem c_TK_only (HG : z_ok G) (hrm : z_rm G h) (ho : h.2.2 o = some (k_tk o js.length ne nc)) (hF : tkF G h o) (hj : jsAt G h o js) (he : ∀ J ∈ js, J.1 ≤ 4) (hne : ne ≤ 4) : z_C G m_TK_onlyPresentJudgement (d + 3) [.ref o] h (z_eqx (p_only js ne) (some (.ref (k_ju o (js.length - 1)))) (fun h' => h' = h) z_ISE (fun h' => h' = z_exc h)) := by
  have hcl : p_cnt js ne ≤ 6 := Nat.le_trans List.countP_le_length hj.1
  refine z_C.of (Nat.le_of_ble_eq_true rfl) ?_
  refine z_aload_n d_TK_onlyPresentJudgement_0 rfl rfl ?_
  refine z_iconst (v := nI 0) d_TK_onlyPresentJudgement_1 (by decide) ?_
  refine z_callVg (as := [.int (nI 0)]) (dY := d + 2) d_TK_onlyPresentJudgement_2 rfl (by omega) (Y_TK_99 HG) rfl ho (cl_TK HG) (Nat.le_of_ble_eq_true rfl) (c_TK_present HG hrm ho hF hj he hne (k := 0) (by omega)) (fun hc h' hh => ?_) (fun hc h' hh => ?_)
  · subst hh
    refine z_astore_n d_TK_onlyPresentJudgement_5 rfl (by decide) ?_
    refine z_aload_n d_TK_onlyPresentJudgement_6 rfl rfl ?_
    refine z_getf (L_TK_25K HG) (by decide) (L_TK_25 HG) d_TK_onlyPresentJudgement_7 ho (by rfl) ?_
    refine z_if_eq (tgt := 21) d_TK_onlyPresentJudgement_10 rfl (fun c1 => ?_) (fun c1 => ?_)
    · rw [← nI_0, nI_eq (by omega) (by omega)] at c1
      exact z_throw d_TK_onlyPresentJudgement_21 d_TK_onlyPresentJudgement_24 d_TK_onlyPresentJudgement_25 d_TK_onlyPresentJudgement_28 rfl (by decide +kernel) (t_TK_146 HG) hrm.1 hrm.2 (by decide) (Or.inr ⟨fun hh => hh.2.1 c1, rfl, rfl⟩)
    · rw [← nI_0, nI_eq (by omega) (by omega)] at c1
      refine z_aload_n d_TK_onlyPresentJudgement_13 rfl rfl ?_
      refine z_callV0r (dY := d) d_TK_onlyPresentJudgement_14 rfl (by omega) (Y_TK_169 HG) ho (cl_TK HG) (Nat.le_of_ble_eq_true rfl) (c_TK_presentCount HG ho hF hj he hne) ?_
      refine z_iconst (v := nI 1) d_TK_onlyPresentJudgement_17 (by decide) ?_
      refine z_icmp_le (tgt := 29) d_TK_onlyPresentJudgement_18 rfl (fun c2 => ?_) (fun c2 => ?_)
      · rw [nI_leI (by omega) (by omega)] at c2
        refine z_aload_n d_TK_onlyPresentJudgement_29 rfl rfl ?_
        exact z_areturn d_TK_onlyPresentJudgement_30 rfl (Or.inl ⟨⟨hc, c1, c2⟩, rfl, rfl⟩)
      · rw [nI_leI (by omega) (by omega)] at c2
        exact z_throw d_TK_onlyPresentJudgement_21 d_TK_onlyPresentJudgement_24 d_TK_onlyPresentJudgement_25 d_TK_onlyPresentJudgement_28 rfl (by decide +kernel) (t_TK_146 HG) hrm.1 hrm.2 (by decide) (Or.inr ⟨fun hh => c2 hh.2.2, rfl, rfl⟩)
  · exact Or.inr ⟨fun hh' => hc hh'.1, rfl, hh⟩
theorem c_TK_hasSort (HG : z_ok G) {u : Nat} {J : pJ} (hJ : jdAt G h u (some J)) : z_C G m_TK_hasSort (d + 1) [.ref u] h (z_rq (some (.int (if J.2.2 = [0] ∨ J.2.2 = [1] then nI 1 else nI 0))) h) := by
  obtain ⟨f, hy, hl⟩ := rowL.get hJ.2.2
  have h40 := hl.len
  refine z_C.of (Nat.le_of_ble_eq_true rfl) ?_
  refine z_aload_n d_TK_hasSort_0 rfl rfl ?_
  refine z_getf (L_TK_71K HG) (by decide) (L_TK_71 HG) d_TK_hasSort_1 hJ.ob (by rfl) ?_
  refine z_iconst (v := nI 0) d_TK_hasSort_4 (by decide) ?_
  refine z_callV1r (dY := d) d_TK_hasSort_5 rfl (by omega) (Y_TK_132 HG) hy.1 (cl_Row HG) (Nat.le_of_ble_eq_true rfl) (c_Row_is HG hy h40 (nI 0)) ?_
  simp only [l_is hl (show 0 < 1000 by omega)]
  refine z_if_ne (tgt := 22) d_TK_hasSort_8 rfl (fun c1 => ?_) (fun c1 => ?_)
  · have hk2 : J.2.2 = [0] := by
      apply Classical.byContradiction
      intro hh
      rw [if_neg hh] at c1
      exact c1 nI_0
    rw [if_pos (Or.inl hk2)]
    refine z_iconst (v := nI 1) d_TK_hasSort_22 (by decide) ?_
    refine z_goto (tgt := 27) d_TK_hasSort_23 rfl ?_
    exact z_ireturn d_TK_hasSort_27 rfl rfl ⟨rfl, rfl⟩
  · have hk2 : ¬ J.2.2 = [0] := by
      intro hh
      rw [if_pos hh] at c1
      exact absurd c1 (by decide)
    refine z_aload_n d_TK_hasSort_11 rfl rfl ?_
    refine z_getf (L_TK_71K HG) (by decide) (L_TK_71 HG) d_TK_hasSort_12 hJ.ob (by rfl) ?_
    refine z_iconst (v := nI 1) d_TK_hasSort_15 (by decide) ?_
    refine z_callV1r (dY := d) d_TK_hasSort_16 rfl (by omega) (Y_TK_132 HG) hy.1 (cl_Row HG) (Nat.le_of_ble_eq_true rfl) (c_Row_is HG hy h40 (nI 1)) ?_
    simp only [l_is hl (show 1 < 1000 by omega)]
    refine z_if_eq (tgt := 26) d_TK_hasSort_19 rfl (fun c2 => ?_) (fun c2 => ?_)
    · have hk3 : ¬ J.2.2 = [1] := by
        intro hh
        rw [if_pos hh] at c2
        exact absurd c2 (by decide)
      rw [if_neg (by intro hh; exact hh.elim hk2 hk3)]
      refine z_iconst (v := nI 0) d_TK_hasSort_26 (by decide) ?_
      exact z_ireturn d_TK_hasSort_27 rfl rfl ⟨rfl, rfl⟩
    · have hk3 : J.2.2 = [1] := by
        apply Classical.byContradiction
        intro hh
        rw [if_neg hh] at c2
        exact c2 nI_0
      rw [if_pos (Or.inr hk3)]
      refine z_iconst (v := nI 1) d_TK_hasSort_22 (by decide) ?_
      refine z_goto (tgt := 27) d_TK_hasSort_23 rfl ?_
      exact z_ireturn d_TK_hasSort_27 rfl rfl ⟨rfl, rfl⟩
end TP
