/-! Rewriter.doRule -/
def k_ru (u nv : Nat) : va_E := .inr (2, [.ref (u + 1), .ref (u + 3), .int (nI nv)])
theorem nI_sub2 (v dd : Nat) : nI v - nI 100 - nI dd = nI v - nI (100 + dd) := by
  rw [← nI_add, Int32.sub_eq_add_neg, Int32.sub_eq_add_neg, Int32.sub_eq_add_neg, Int32.neg_add, Int32.sub_eq_add_neg, Int32.add_assoc]
/-- the row with the rule done at place i -/
def p_rule (n : Nat) (g : Nat → Nat) (lr x : List Nat) (i : Nat) : List Nat :=
  x.take i ++ p_res n (fun j => x.drop (g j)) [0] lr ++ x.drop (i + p_end 1 (x.drop i))
section DR
variable {G : z_G} {d q rc a b u nv : Nat} {fx fr ms : Nat → Int32} {x lr : List Nat} {gs : Nat → Nat}
abbrev dr_lo (q u i0 : Nat) : List (Nat × Value) := [(0, .ref q), (1, .ref u), (2, .int (nI i0))]
abbrev dr_li (q u i0 i : Nat) : List (Nat × Value) := [(0, .ref q), (1, .ref u), (2, .int (nI i0)), (3, .int (nI i))]
theorem l_res_end (HG : z_ok G) {i0 i n : Nat} {g : Nat → Int32} {h : z_H} {Q : z_R → z_H → Prop} (hi : i < 41) (hn : n ≤ 41)
    (hq : h.2.2 q = some (k_rw q rc a b)) (hw : wkAt G h (q + 7) n g) (hu : h.2.2 u = some (k_ru u nv)) (ht : rowAt G h (u + 3) lr.length fr) (hlr : rl fr lr) (he : lr.length ≤ i ∨ n = 0) (kk : z_V G m_Rw_doRule (d + 2) 134 (dr_lo q u i0) [] h Q) :
    z_V G m_Rw_doRule (d + 2) 29 (dr_li q u i0 i) [] h Q := by
  have hl40 := hlr.len
  have kk' : z_V G m_Rw_doRule (d + 2) 134 (dr_li q u i0 i) [] h Q := z_fg (dr_lo q u i0) ⟨rfl, rfl, rfl, trivial⟩ kk
  refine z_iload_n d_Rw_doRule_29 rfl rfl ?_
  refine z_aload_n d_Rw_doRule_30 rfl rfl ?_
  refine z_getf (L_Rw_53K HG) (by decide) (L_Rw_53 HG) d_Rw_doRule_31 hu (by rfl) ?_
  refine z_getf (L_Rw_66K HG) (by decide) (L_Rw_66 HG) d_Rw_doRule_34 ht.1 (by rfl) ?_
  refine z_icmp_ge (tgt := 134) d_Rw_doRule_37 rfl (fun c1 => ?_) (fun c1 => ?_)
  · exact kk'
  · rw [nI_leI (by omega) (by omega)] at c1
    refine z_aload_n d_Rw_doRule_40 rfl rfl ?_
    refine z_getf (L_Rw_38K HG) (by decide) (L_Rw_38 HG) d_Rw_doRule_41 hq (by rfl) ?_
    refine z_callV0r (dY := d) d_Rw_doRule_44 rfl (by omega) (Y_Rw_104 HG) hw.1 (cl_Wk HG) (Nat.le_of_ble_eq_true rfl) (c_Wk_goesOn HG hw hn) ?_
    rw [if_pos (by omega)]
    refine z_if_eq (tgt := 134) d_Rw_doRule_47 rfl (fun c2 => ?_) (fun c2 => ?_)
    · exact kk'
    · exact absurd (by rw [nI_0]) c2
theorem l_res (HG : z_ok G) {i0 : Nat} {Q : z_R → z_H → Prop} (hx : rl fx x) (hlr : rl fr lr) (hb : b = q + 2 ∨ b = q + 4) (ra : k_rr q a) (e : k_ne a b) (qu : q + 10 < u) (hnv : nv ≤ 4) (hgs : ∀ j, j < nv → ms j = nI (gs j) ∧ gs j ≤ x.length) : ∀ (c i m : Nat) (S : List Nat) (f g : Nat → Int32) (h : z_H), z_rm G h → i + c = lr.length → S.length + c ≤ 41 → (∀ y ∈ S, y ≤ i) →
    h.2.2 q = some (k_rw q rc a b) → h.2.2 (q + 6) = some (k_ints G 4 ms) → h.2.2 u = some (k_ru u nv) → wkAt G h (q + 7) S.length g → wk g S → (∃ n9 g9, wkAt G h (q + 9) n9 g9) → rowAt G h a x.length fx → rowAt G h (u + 3) lr.length fr → rowAt G h b m f → m ≤ 40 →
    (∀ h', m + (p_res nv (fun j => x.drop (gs j)) S (lr.drop i)).length ≤ 40 → k_fr q b h h' → k_sc G q h' → rowAt G h' b (m + (p_res nv (fun j => x.drop (gs j)) S (lr.drop i)).length) (k_app f m (p_res nv (fun j => x.drop (gs j)) S (lr.drop i))) → z_V G m_Rw_doRule (d + 2) 134 (dr_lo q u i0) [] h' Q) →
    (∀ h', ¬ m + (p_res nv (fun j => x.drop (gs j)) S (lr.drop i)).length ≤ 40 → k_xc G q b h h' → Q (.inr z_AE) h') →
    z_V G m_Rw_doRule (d + 2) 29 (dr_li q u i0 i) [] h Q := by
  have hl40 := hlr.len
  have rb : k_rr q b := by unfold k_rr; omega
  have et : k_ne (u + 3) b := by unfold k_ne; omega
  have rt : k_rr q (u + 3) := by unfold k_rr; omega
  have ra' := ra
  unfold k_rr at ra'
  intro c
  induction c with
  | zero =>
    intro i m S f g h hrm hi hS hy hq h6 hu hw hg h9 hs ht hr hm kk kx
    refine l_res_end HG (by omega) (by omega) hq hw hu ht hlr (Or.inl (by omega)) ?_
    rw [List.drop_eq_nil_of_le (as := lr) (by omega), p_res_nil, k_app_nil] at kk
    exact kk h hm k_fr.rf ⟨⟨_, _, hw⟩, h9⟩ hr
  | succ c ih =>
    intro i m S f g h hrm hi hS hy hq h6 hu hw hg h9 hs ht hr hm kk kx
    cases S with
    | nil =>
      refine l_res_end HG (by omega) (by simp) hq hw hu ht hlr (Or.inr rfl) ?_
      rw [p_res_stop, k_app_nil] at kk
      exact kk h hm k_fr.rf ⟨⟨_, _, hw⟩, h9⟩ hr
    | cons dd S =>
      have hdd : dd ≤ i := hy dd List.mem_cons_self
      have hSx : ∀ y ∈ S, y ≤ i := fun y h => hy y (List.mem_cons_of_mem _ h)
      have hlen : (dd :: S).length = S.length + 1 := rfl
      have hv := hlr.lt (i := i) (by omega)
      rw [l_dc (l := lr) (i := i) (by omega)] at kk kx
      generalize hvv : lr.getD i 0 = v at hv kk kx ⊢
      have hal : (p_aw v dd S).length + c ≤ 41 := by
        rw [p_aw_len]
        split <;> omega
      have ep : p_res nv (fun j => x.drop (gs j)) (dd :: S) (v :: lr.drop (i + 1)) = (if 100 + dd ≤ v ∧ v < 100 + dd + nv then p_lift dd [0] (x.drop (gs (v - 100 - dd))) else [v]) ++ p_res nv (fun j => x.drop (gs j)) (p_aw v dd S) (lr.drop (i + 1)) := rfl
      rw [ep] at kk kx
      generalize hy1 : (if 100 + dd ≤ v ∧ v < 100 + dd + nv then p_lift dd [0] (x.drop (gs (v - 100 - dd))) else [v]) = l1 at kk kx
      -- what comes behind the piece l1
      have tail : ∀ (h2 : z_H), k_fr q b h h2 → wkAt G h2 (q + 7) (p_aw v dd S).length (wk_up g v dd S.length) → (∃ n9 g9, wkAt G h2 (q + 9) n9 g9) → rowAt G h2 b (m + l1.length) (k_app f m l1) → m + l1.length ≤ 40 →
          ∀ lo, z_in (dr_li q u i0 i) lo → z_V G m_Rw_doRule (d + 2) 128 lo [] h2 Q := by
        intro h2 hf hw2 h92 hr2 hm2 lo hlo
        refine z_fg _ hlo ?_
        refine z_iinc (v := nI (i + 1)) d_Rw_doRule_128 rfl (i_inc i) (by decide) ?_
        refine z_goto (tgt := 29) d_Rw_doRule_131 rfl ?_
        refine z_fg (dr_li q u i0 (i + 1)) ⟨rfl, rfl, rfl, rfl, trivial⟩ ?_
        refine ih (i + 1) (m + l1.length) (p_aw v dd S) (k_app f m l1) (wk_up g v dd S.length) h2 (hf.rm hrm) (by omega) hal (p_aw_bound hdd hSx) (hf.rw rb hq) ((hf.2.2 (q + 6) (by omega) (by omega) (by omega)).trans h6) ((hf.2.2 u (by omega) (by omega) (by omega)).trans hu) hw2 (wk_up_ok _ _ hg.2) h92 (hf.row ra e hs) (hf.row rt et ht) hr2 hm2 (fun h' c1 c2 c3 c4 => ?_) (fun h' c1 c2 => ?_)
        · rw [k_app_app, Nat.add_assoc, ← List.length_append] at c4
          exact kk h' (by rw [List.length_append]; omega) (hf.tr c2) c3 c4
        · exact kx h' (by rw [List.length_append]; omega) (k_xc.tr hf c2)
      refine z_iload_n d_Rw_doRule_29 rfl rfl ?_
      refine z_aload_n d_Rw_doRule_30 rfl rfl ?_
      refine z_getf (L_Rw_53K HG) (by decide) (L_Rw_53 HG) d_Rw_doRule_31 hu (by rfl) ?_
      refine z_getf (L_Rw_66K HG) (by decide) (L_Rw_66 HG) d_Rw_doRule_34 ht.1 (by rfl) ?_
      refine z_icmp_ge (tgt := 134) d_Rw_doRule_37 rfl (fun c1 => ?_) (fun c1 => ?_)
      · rw [nI_leI (by omega) (by omega)] at c1
        omega
      · refine z_aload_n d_Rw_doRule_40 rfl rfl ?_
        refine z_getf (L_Rw_38K HG) (by decide) (L_Rw_38 HG) d_Rw_doRule_41 hq (by rfl) ?_
        refine z_callV0r (dY := d) d_Rw_doRule_44 rfl (by omega) (Y_Rw_104 HG) hw.1 (cl_Wk HG) (Nat.le_of_ble_eq_true rfl) (c_Wk_goesOn HG hw (by simp; omega)) ?_
        rw [if_neg (by simp)]
        refine z_if_eq (tgt := 134) d_Rw_doRule_47 rfl (fun c2 => ?_) (fun c2 => ?_)
        · exact absurd c2 (by decide)
        · refine z_aload_n d_Rw_doRule_50 rfl rfl ?_
          refine z_getf (L_Rw_53K HG) (by decide) (L_Rw_53 HG) d_Rw_doRule_51 hu (by rfl) ?_
          refine z_iload_n d_Rw_doRule_54 rfl rfl ?_
          refine z_callV1r (dY := d) d_Rw_doRule_55 rfl (by omega) (Y_Rw_69 HG) ht.1 (cl_Row HG) (Nat.le_of_ble_eq_true rfl) (c_Row_at HG ht hl40 (nI i)) ?_
          rw [k_at_in fr (by omega) hl40, hlr.eq (by omega), hvv]
          refine z_istore d_Rw_doRule_58 (by decide) ?_
          refine z_aload_n d_Rw_doRule_60 rfl rfl ?_
          refine z_getf (L_Rw_38K HG) (by decide) (L_Rw_38 HG) d_Rw_doRule_61 hq (by rfl) ?_
          refine z_iload d_Rw_doRule_64 rfl ?_
          refine z_callV1r (dY := d) d_Rw_doRule_66 rfl (by omega) (Y_Rw_107 HG) hw.1 (cl_Wk HG) (Nat.le_of_ble_eq_true rfl) (c_Wk_depthOf HG hv hw hg (by omega)) ?_
          refine z_istore d_Rw_doRule_69 (by decide) ?_
          have hf1 : k_fr q b h (wset G h (q + 7) (p_aw v dd S).length (wk_up g v dd S.length)) := k_fr.wset (Or.inl rfl)
          have hw1 := wset_at G h (q + 7) (p_aw v dd S).length (wk_up g v dd S.length)
          have h91 : ∃ n9 g9, wkAt G (wset G h (q + 7) (p_aw v dd S).length (wk_up g v dd S.length)) (q + 9) n9 g9 := by
            obtain ⟨n9, g9, hw9⟩ := h9
            exact ⟨n9, g9, wset_wk hw9 (by omega) (by omega) (by omega)⟩
          have hr1 := wset_row (w := q + 7) (p_aw v dd S).length (wk_up g v dd S.length) hr (by omega) (by omega) (by omega)
          generalize hh1 : wset G h (q + 7) (p_aw v dd S).length (wk_up g v dd S.length) = h1 at hf1 hw1 h91 hr1 ⊢
          have hq1 := hf1.rw rb hq
          have hu1 := (hf1.2.2 u (by omega) (by omega) (by omega)).trans hu
          have h61 := (hf1.2.2 (q + 6) (by omega) (by omega) (by omega)).trans h6
          refine z_iload d_Rw_doRule_71 rfl ?_
          refine z_bipush (v := nI 100) d_Rw_doRule_73 (by decide +kernel) ?_
          refine z_isub d_Rw_doRule_75 ?_
          refine z_iload d_Rw_doRule_76 rfl ?_
          refine z_isub d_Rw_doRule_78 ?_
          rw [nI_sub2]
          refine z_istore d_Rw_doRule_79 (by decide) ?_
          have app : ¬ (100 + dd ≤ v ∧ v < 100 + dd + nv) → z_V G m_Rw_doRule (d + 2) 119 [(0, .ref q), (1, .ref u), (2, .int (nI i0)), (3, .int (nI i)), (4, .int (nI v))] [] h1 Q := by
            intro hno
            rw [if_neg hno] at hy1
            subst hy1
            refine z_aload_n d_Rw_doRule_119 rfl rfl ?_
            refine z_getf (L_Rw_28K HG) (by decide) (L_Rw_28 HG) d_Rw_doRule_120 hq1 (by rfl) ?_
            refine z_iload d_Rw_doRule_123 rfl ?_
            refine z_callV1e (dY := d) d_Rw_doRule_125 rfl (by omega) (Y_Rw_114 HG) hr1.1 (cl_Row HG) (Nat.le_of_ble_eq_true rfl) (c2_append HG (hf1.rm hrm) hr1 hm (nI v)) (fun hc h2 hh2 => ?_) (fun hc h2 hh2 => ?_)
            · subst hh2
              have hr2 := rset_at G h1 b (m + 1) (upd f m (nI v))
              rw [k_app_one] at hr2 ⊢
              exact tail _ (hf1.tr k_fr.rset) (rset_wk _ _ hw1 (by omega) (by omega) (by omega)) (by
                obtain ⟨n9, g9, hw9⟩ := h91
                exact ⟨n9, g9, rset_wk _ _ hw9 (by omega) (by omega) (by omega)⟩) hr2 hc _ ⟨rfl, rfl, rfl, rfl, trivial⟩
            · obtain ⟨hh2, h40⟩ := hh2
              subst h40
              exact kx h2 (by rw [List.length_append, List.length_singleton]; omega) ⟨h1, hh2, hf1, ⟨⟨_, _, hw1⟩, h91⟩, f, hr1⟩
          refine z_iload d_Rw_doRule_81 rfl ?_
          refine z_if_lt (tgt := 119) d_Rw_doRule_83 rfl (fun c3 => ?_) (fun c3 => ?_)
          · refine z_fg [(0, .ref q), (1, .ref u), (2, .int (nI i0)), (3, .int (nI i)), (4, .int (nI v))] ⟨rfl, rfl, rfl, rfl, rfl, trivial⟩ (app (fun hh => ?_))
            rw [pk_sub hh.1] at c3
            exact absurd c3 (nI_pos (by omega))
          · have hge : 100 + dd ≤ v := by
              apply Nat.le_of_not_lt
              intro hlt
              exact c3 (pk_sneg (by omega) hlt)
            rw [pk_sub hge]
            refine z_iload d_Rw_doRule_86 rfl ?_
            refine z_aload_n d_Rw_doRule_88 rfl rfl ?_
            refine z_getf (L_Rw_56K HG) (by decide) (L_Rw_56 HG) d_Rw_doRule_89 hu1 (by rfl) ?_
            refine z_icmp_ge (tgt := 119) d_Rw_doRule_92 rfl (fun c4 => ?_) (fun c4 => ?_)
            · rw [nI_leI (by omega) (by omega)] at c4
              exact z_fg [(0, .ref q), (1, .ref u), (2, .int (nI i0)), (3, .int (nI i)), (4, .int (nI v))] ⟨rfl, rfl, rfl, rfl, rfl, trivial⟩ (app (by omega))
            · rw [nI_leI (by omega) (by omega)] at c4
              rw [if_pos ⟨hge, by omega⟩] at hy1
              obtain ⟨hg1, hg2⟩ := hgs (v - (100 + dd)) (by omega)
              refine z_aload_n d_Rw_doRule_95 rfl rfl ?_
              refine z_aload_n d_Rw_doRule_96 rfl rfl ?_
              refine z_getf (L_Rw_24K HG) (by decide) (L_Rw_24 HG) d_Rw_doRule_97 hq1 (by rfl) ?_
              refine z_aload_n d_Rw_doRule_100 rfl rfl ?_
              refine z_getf (L_Rw_31K HG) (by decide) (L_Rw_31 HG) d_Rw_doRule_101 hq1 (by rfl) ?_
              refine z_iload d_Rw_doRule_104 rfl ?_
              refine z_iald d_Rw_doRule_106 (ty0 HG) h61 (pk_in (v - (100 + dd)) 4 (by omega)) ?_
              rw [nI_clamp (by omega), hg1]
              refine z_iload d_Rw_doRule_107 rfl ?_
              refine z_aload_n d_Rw_doRule_109 rfl rfl ?_
              refine z_getf (L_Rw_28K HG) (by decide) (L_Rw_28 HG) d_Rw_doRule_110 hq1 (by rfl) ?_
              rw [show v - 100 - dd = v - (100 + dd) by omega] at hy1
              subst hy1
              refine z_callV4e (dY := d + 1) d_Rw_doRule_113 rfl (by omega) (Y_Rw_110 HG) hq1 (cl_Rw HG) (Nat.le_of_ble_eq_true rfl) (c2_lift HG (hf1.rm hrm) (by omega) hx rb ra e hg2 hq1 ⟨⟨_, _, hw1⟩, h91⟩ (hf1.row ra e hs) hr1 hm) (fun hc h2 hh2 => ?_) (fun hc h2 hh2 => ?_)
              · obtain ⟨n', g', hh2⟩ := hh2
                subst hh2
                refine z_goto (tgt := 128) d_Rw_doRule_116 rfl ?_
                exact tail _ (hf1.tr ((k_fr.wset (Or.inr rfl)).tr k_fr.rset)) (rset_wk _ _ (wset_wk hw1 (by omega) (by omega) (by omega)) (by omega) (by omega) (by omega)) ⟨n', g', rset_wk _ _ (wset_at ..) (by omega) (by omega) (by omega)⟩ (rset_at ..) hc _ ⟨rfl, rfl, rfl, rfl, trivial⟩
              · exact kx h2 (by rw [List.length_append]; omega) (k_xc.tr hf1 hh2)
theorem c2_doRule (HG : z_ok G) {i nb : Nat} {fb : Nat → Int32} {h : z_H} (hrm : z_rm G h) (hx : rl fx x) (hlr : rl fr lr) (hb : b = q + 2 ∨ b = q + 4) (ra : k_rr q a) (e : k_ne a b) (qu : q + 10 < u) (hnv : nv ≤ 4) (hgs : ∀ j, j < nv → ms j = nI (gs j) ∧ gs j ≤ x.length) (hi : i ≤ x.length)
    (hq : h.2.2 q = some (k_rw q rc a b)) (h6 : h.2.2 (q + 6) = some (k_ints G 4 ms)) (hu : h.2.2 u = some (k_ru u nv)) (hsc : k_sc G q h) (ha : rowAt G h a x.length fx) (ht : rowAt G h (u + 3) lr.length fr) (hr : rowAt G h b nb fb) :
    z_C G m_Rw_doRule (d + 2) [.ref q, .ref u, .int (nI i)] h (z_eq2 ((p_rule nv gs lr x i).length ≤ 40) none (fun h' => ∃ h1, h' = z_set h1 q (k_rw q rc b a) ∧ k_fr q b h h1 ∧ k_sc G q h1 ∧ rowAt G h1 b (p_rule nv gs lr x i).length (k_app fb 0 (p_rule nv gs lr x i))) (k_xc G q b h)) := by
  have hx40 := hx.len
  have hl40 := hlr.len
  have rb : k_rr q b := by unfold k_rr; omega
  have et : k_ne (u + 3) b := by unfold k_ne; omega
  have rt : k_rr q (u + 3) := by unfold k_rr; omega
  have ra' := ra
  unfold k_rr at ra'
  have he1 : i + p_end 1 (x.drop i) ≤ x.length := p_end_drop hi
  unfold p_rule
  generalize hE : i + p_end 1 (x.drop i) = nE at he1 ⊢
  refine z_C.of (Nat.le_of_ble_eq_true rfl) ?_
  refine z_aload_n d_Rw_doRule_0 rfl rfl ?_
  refine z_getf (L_Rw_28K HG) (by decide) (L_Rw_28 HG) d_Rw_doRule_1 hq (by rfl) ?_
  refine z_callV0v (dY := d) d_Rw_doRule_4 rfl (by omega) (Y_Rw_87 HG) hr.1 (cl_Row HG) (Nat.le_of_ble_eq_true rfl) (c_Row_clear HG hr) ?_
  have hf1 : k_fr q b h (rset G h b 0 fb) := k_fr.rset
  have hr1 := rset_at G h b 0 fb
  have hs1 : k_sc G q (rset G h b 0 fb) := hsc.rset rb
  generalize rset G h b 0 fb = h1 at hf1 hr1 hs1 ⊢
  have hq1 := hf1.rw rb hq
  have hx1 := hf1.row ra e ha
  refine z_aload_n d_Rw_doRule_7 rfl rfl ?_
  refine z_getf (L_Rw_28K HG) (by decide) (L_Rw_28 HG) d_Rw_doRule_8 hq1 (by rfl) ?_
  refine z_aload_n d_Rw_doRule_11 rfl rfl ?_
  refine z_getf (L_Rw_24K HG) (by decide) (L_Rw_24 HG) d_Rw_doRule_12 hq1 (by rfl) ?_
  refine z_iconst (v := nI 0) d_Rw_doRule_15 (by decide) ?_
  refine z_iload_n d_Rw_doRule_16 rfl rfl ?_
  refine z_callV3e (dY := d + 1) d_Rw_doRule_17 rfl (by omega) (Y_Rw_90 HG) hr1.1 (cl_Row HG) (Nat.le_of_ble_eq_true rfl) (c2_appendPart HG (hf1.rm hrm) hr1 (by omega) hx1 hx (a := 0) (b := i) (by omega) (by omega) e) (fun hc h2 hh2 => ?_) (fun hc h2 hh2 => absurd hc (by omega))
  rw [l_d0, Nat.zero_add, Nat.sub_zero] at hh2
  have hf2 : k_fr q b h h2 := by
    subst hh2
    exact hf1.tr k_fr.rset
  have hr2 : rowAt G h2 b i (k_app fb 0 (x.take i)) := by
    subst hh2
    exact rset_at ..
  have hs2 : k_sc G q h2 := by
    subst hh2
    exact hs1.rset rb
  clear hh2
  have hq2 := hf2.rw rb hq
  obtain ⟨⟨n7, g7, hw⟩, n9, g9, hw9⟩ := id hs2
  refine z_aload_n d_Rw_doRule_20 rfl rfl ?_
  refine z_getf (L_Rw_38K HG) (by decide) (L_Rw_38 HG) d_Rw_doRule_21 hq2 (by rfl) ?_
  refine z_callV0v (dY := d) d_Rw_doRule_24 rfl (by omega) (Y_Rw_101 HG) hw.1 (cl_Wk HG) (Nat.le_of_ble_eq_true rfl) (c_Wk_begin HG hw) ?_
  have hf3 : k_fr q b h (wset G h2 (q + 7) 1 (upd g7 0 (nI 0))) := hf2.tr (k_fr.wset (Or.inl rfl))
  have hw3 := wset_at G h2 (q + 7) 1 (upd g7 0 (nI 0))
  have hw93 := wset_wk (w := q + 7) (n := 1) (g := upd g7 0 (nI 0)) hw9 (by omega) (by omega) (by omega)
  have hr3 := wset_row (w := q + 7) 1 (upd g7 0 (nI 0)) hr2 (by omega) (by omega) (by omega)
  generalize wset G h2 (q + 7) 1 (upd g7 0 (nI 0)) = h3 at hf3 hw3 hw93 hr3 ⊢
  refine z_iconst (v := nI 0) d_Rw_doRule_27 (by decide) ?_
  refine z_istore_n d_Rw_doRule_28 rfl (by decide) ?_
  refine z_fg (dr_li q u i 0) ⟨rfl, rfl, rfl, rfl, trivial⟩ ?_
  have hl : (x.take i).length = i := by rw [List.length_take]; omega
  refine l_res HG hx hlr hb ra e qu hnv hgs lr.length 0 i [0] (k_app fb 0 (x.take i)) (upd g7 0 (nI 0)) h3 (hf3.rm hrm) (by omega) (by simp; omega) (by simp) (hf3.rw rb hq) ((hf3.2.2 (q + 6) (by omega) (by omega) (by omega)).trans h6) ((hf3.2.2 u (by omega) (by omega) (by omega)).trans hu) hw3 ⟨pk_us, trivial⟩ ⟨n9, g9, hw93⟩ (hf3.row ra e ha) (hf3.row rt et ht) hr3 (by omega) (fun h4 hc hf4 hs4 hr4 => ?_) (fun h4 hc hxc => ?_)
  · rw [List.drop_zero] at hc hr4
    have hf4 := hf3.tr hf4
    rw [k_app_pre hl.symm] at hr4
    generalize p_res nv (fun j => x.drop (gs j)) [0] lr = y at hc hr4 ⊢
    have hq4 := hf4.rw rb hq
    have hx4 := hf4.row ra e ha
    refine z_aload_n d_Rw_doRule_134 rfl rfl ?_
    refine z_getf (L_Rw_28K HG) (by decide) (L_Rw_28 HG) d_Rw_doRule_135 hq4 (by rfl) ?_
    refine z_aload_n d_Rw_doRule_138 rfl rfl ?_
    refine z_getf (L_Rw_24K HG) (by decide) (L_Rw_24 HG) d_Rw_doRule_139 hq4 (by rfl) ?_
    refine z_aload_n d_Rw_doRule_142 rfl rfl ?_
    refine z_getf (L_Rw_24K HG) (by decide) (L_Rw_24 HG) d_Rw_doRule_143 hq4 (by rfl) ?_
    refine z_iload_n d_Rw_doRule_146 rfl rfl ?_
    refine z_callV1r (dY := d + 1) d_Rw_doRule_147 rfl (by omega) (Y_Rw_84 HG) hx4.1 (cl_Row HG) (Nat.le_of_ble_eq_true rfl) (c_Row_endOf HG hx4 hx hi) ?_
    rw [hE]
    refine z_aload_n d_Rw_doRule_150 rfl rfl ?_
    refine z_getf (L_Rw_24K HG) (by decide) (L_Rw_24 HG) d_Rw_doRule_151 hq4 (by rfl) ?_
    refine z_getf (L_Rw_66K HG) (by decide) (L_Rw_66 HG) d_Rw_doRule_154 hx4.1 (by rfl) ?_
    have hl2 : (x.take i ++ y ++ x.drop nE).length = i + y.length + (x.length - nE) := by
      rw [List.length_append, List.length_append, List.length_drop, hl]
    refine z_callV3e (dY := d + 1) d_Rw_doRule_157 rfl (by omega) (Y_Rw_90 HG) hr4.1 (cl_Row HG) (Nat.le_of_ble_eq_true rfl) (c2_appendPart HG (hf4.rm hrm) hr4 hc hx4 hx (a := nE) (b := x.length) he1 (Nat.le_refl _) e) (fun hc5 h5 hh5 => ?_) (fun hc5 h5 hh5 => ?_)
    · rw [l_dl, k_app_pre (by rw [List.length_append, hl])] at hh5
      have hf5 : k_fr q b h h5 := by
        subst hh5
        exact hf4.tr k_fr.rset
      have hr5 : rowAt G h5 b (i + y.length + (x.length - nE)) (k_app fb 0 (x.take i ++ y ++ x.drop nE)) := by
        subst hh5
        exact rset_at ..
      have hs5 : k_sc G q h5 := by
        subst hh5
        exact hs4.rset rb
      refine z_aload_n d_Rw_doRule_160 rfl rfl ?_
      refine z_callV0v (dY := d) d_Rw_doRule_161 rfl (by omega) (Y_Rw_98 HG) (hf5.rw rb hq) (cl_Rw HG) (Nat.le_of_ble_eq_true rfl) (c_Rw_takeNext HG (hf5.rw rb hq)) ?_
      refine z_return d_Rw_doRule_164 rfl ?_
      rw [hl2]
      exact z_eq2.ok hc5 ⟨h5, rfl, hf5, hs5, hr5⟩
    · obtain ⟨f', hh5⟩ := hh5
      rw [hl2]
      exact z_eq2.no hc5 ⟨_, hh5, hf4.tr k_fr.rset, hs4.rset rb, f', rset_at ..⟩
  · rw [List.drop_zero] at hc
    refine z_eq2.no ?_ (k_xc.tr hf3 hxc)
    rw [List.length_append, List.length_append, List.length_take]
    omega
end DR
