/-! Rewriter.appendBodyWith -/
section BW
variable {G : z_G} {d q rc na nb s t r : Nat} {fs ft : Nat → Int32} {ls lb : List Nat}
abbrev bw_lo (q s a t r i : Nat) : List (Nat × Value) := [(0, .ref q), (1, .ref s), (2, .int (nI a)), (3, .ref t), (5, .ref r), (6, .int (nI i))]
theorem l_put_end (HG : z_ok G) {a i n : Nat} {g : Nat → Int32} {h : z_H} {Q : z_R → z_H → Prop} (hi : i < 41) (hn : n ≤ 41)
    (hq : h.2.2 q = some (k_rw q rc na nb)) (hw : wkAt G h (q + 7) n g) (ht : rowAt G h t lb.length ft) (hlb : rl ft lb) (he : lb.length ≤ i ∨ n = 0) (hQ : Q (.inl none) h) :
    z_V G m_Rw_appendBodyWith (d + 2) 11 (bw_lo q s a t r i) [] h Q := by
  have hl40 := hlb.len
  refine z_iload d_Rw_appendBodyWith_11 rfl ?_
  refine z_aload_n d_Rw_appendBodyWith_13 rfl rfl ?_
  refine z_getf (L_Rw_66K HG) (by decide) (L_Rw_66 HG) d_Rw_appendBodyWith_14 ht.1 (by rfl) ?_
  refine z_icmp_ge (tgt := 102) d_Rw_appendBodyWith_17 rfl (fun c1 => ?_) (fun c1 => ?_)
  · exact z_return d_Rw_appendBodyWith_102 rfl hQ
  · rw [nI_leI (by omega) (by omega)] at c1
    refine z_aload_n d_Rw_appendBodyWith_20 rfl rfl ?_
    refine z_getf (L_Rw_38K HG) (by decide) (L_Rw_38 HG) d_Rw_appendBodyWith_21 hq (by rfl) ?_
    refine z_callV0r (dY := d) d_Rw_appendBodyWith_24 rfl (by omega) (Y_Rw_104 HG) hw.1 (cl_Wk HG) (Nat.le_of_ble_eq_true rfl) (c_Wk_goesOn HG hw hn) ?_
    rw [if_pos (by omega)]
    refine z_if_eq (tgt := 102) d_Rw_appendBodyWith_27 rfl (fun c2 => ?_) (fun c2 => ?_)
    · exact z_return d_Rw_appendBodyWith_102 rfl hQ
    · exact absurd (by rw [nI_0]) c2
theorem l_put (HG : z_ok G) {a : Nat} (hls : rl fs ls) (hlb : rl ft lb) (rr : k_rr q r) (rs : k_rr q s) (rt : k_rr q t) (es : k_ne s r) (et : k_ne t r) (ha : a ≤ ls.length) : ∀ (c i m : Nat) (S : List Nat) (f g : Nat → Int32) (h : z_H), z_rm G h → i + c = lb.length → S.length + c ≤ 41 → (∀ x ∈ S, x ≤ i) →
    h.2.2 q = some (k_rw q rc na nb) → wkAt G h (q + 7) S.length g → wk g S → (∃ n9 g9, wkAt G h (q + 9) n9 g9) → rowAt G h s ls.length fs → rowAt G h t lb.length ft → rowAt G h r m f → m ≤ 40 →
    z_V G m_Rw_appendBodyWith (d + 2) 11 (bw_lo q s a t r i) [] h (z_eq2 (m + (p_put (ls.drop a) S (lb.drop i)).length ≤ 40) none (fun h' => k_fr q r h h' ∧ k_sc G q h' ∧ rowAt G h' r (m + (p_put (ls.drop a) S (lb.drop i)).length) (k_app f m (p_put (ls.drop a) S (lb.drop i)))) (k_xc G q r h)) := by
  have hl40 := hlb.len
  have rr' := rr
  have rs' := rs
  have rt' := rt
  unfold k_rr at rr' rs' rt'
  intro c
  induction c with
  | zero =>
    intro i m S f g h hrm hi hS hx hq hw hg h9 hs ht hr hm
    refine l_put_end HG (by omega) (by omega) hq hw ht hlb (Or.inl (by omega)) ?_
    rw [List.drop_eq_nil_of_le (as := lb) (by omega), p_put_nil, k_app_nil]
    exact z_eq2.ok hm ⟨k_fr.rf, ⟨⟨_, _, hw⟩, h9⟩, hr⟩
  | succ c ih =>
    intro i m S f g h hrm hi hS hx hq hw hg h9 hs ht hr hm
    cases S with
    | nil =>
      refine l_put_end HG (by omega) (by simp) hq hw ht hlb (Or.inr rfl) ?_
      rw [p_put_stop, k_app_nil]
      exact z_eq2.ok hm ⟨k_fr.rf, ⟨⟨_, _, hw⟩, h9⟩, hr⟩
    | cons dd S =>
      have hdd : dd ≤ i := hx dd List.mem_cons_self
      have hSx : ∀ y ∈ S, y ≤ i := fun y hy => hx y (List.mem_cons_of_mem _ hy)
      have hlen : (dd :: S).length = S.length + 1 := rfl
      have hv := hlb.lt (i := i) (by omega)
      rw [l_dc (l := lb) (i := i) (by omega)]
      have ev : lb.getD i 0 = lb.getD i 0 := rfl
      generalize hvv : lb.getD i 0 = v at hv ⊢
      have hal : (p_aw v dd S).length + c ≤ 41 := by
        rw [p_aw_len]
        split <;> omega
      have ep : p_put (ls.drop a) (dd :: S) (v :: lb.drop (i + 1)) = (if v = 100 + dd then p_lift dd [0] (ls.drop a) else if 100 + dd < v then [v - 1] else [v]) ++ p_put (ls.drop a) (p_aw v dd S) (lb.drop (i + 1)) := rfl
      rw [ep]
      -- what comes behind the piece l1
      have tail : ∀ (h2 : z_H) (l1 : List Nat), k_fr q r h h2 → wkAt G h2 (q + 7) (p_aw v dd S).length (wk_up g v dd S.length) → (∃ n9 g9, wkAt G h2 (q + 9) n9 g9) → rowAt G h2 r (m + l1.length) (k_app f m l1) → m + l1.length ≤ 40 →
          ∀ lo, z_in (bw_lo q s a t r i) lo → z_V G m_Rw_appendBodyWith (d + 2) 96 lo [] h2 (z_eq2 (m + (l1 ++ p_put (ls.drop a) (p_aw v dd S) (lb.drop (i + 1))).length ≤ 40) none (fun h' => k_fr q r h h' ∧ k_sc G q h' ∧ rowAt G h' r (m + (l1 ++ p_put (ls.drop a) (p_aw v dd S) (lb.drop (i + 1))).length) (k_app f m (l1 ++ p_put (ls.drop a) (p_aw v dd S) (lb.drop (i + 1))))) (k_xc G q r h)) := by
        intro h2 l1 hf hw2 h92 hr2 hm2 lo hlo
        refine z_fg _ hlo ?_
        refine z_iinc (v := nI (i + 1)) d_Rw_appendBodyWith_96 rfl (i_inc i) (by decide) ?_
        refine z_goto (tgt := 11) d_Rw_appendBodyWith_99 rfl ?_
        refine z_fg (bw_lo q s a t r (i + 1)) ⟨rfl, rfl, rfl, rfl, rfl, rfl, trivial⟩ ?_
        refine (ih (i + 1) (m + l1.length) (p_aw v dd S) (k_app f m l1) (wk_up g v dd S.length) h2 (hf.rm hrm) (by omega) hal (p_aw_bound hdd hSx) (hf.rw rr hq) hw2 (wk_up_ok _ _ hg.2) h92 (hf.row rs es hs) (hf.row rt et ht) hr2 hm2).mono (fun r' h' hq' => ?_)
        rw [List.length_append, ← k_app_app, ← Nat.add_assoc]
        rcases hq' with ⟨c1, c2, c3, c4, c5⟩ | ⟨c1, c2, c3⟩
        · exact Or.inl ⟨c1, c2, hf.tr c3, c4, c5⟩
        · exact Or.inr ⟨c1, c2, k_xc.tr hf c3⟩
      refine z_iload d_Rw_appendBodyWith_11 rfl ?_
      refine z_aload_n d_Rw_appendBodyWith_13 rfl rfl ?_
      refine z_getf (L_Rw_66K HG) (by decide) (L_Rw_66 HG) d_Rw_appendBodyWith_14 ht.1 (by rfl) ?_
      refine z_icmp_ge (tgt := 102) d_Rw_appendBodyWith_17 rfl (fun c1 => ?_) (fun c1 => ?_)
      · rw [nI_leI (by omega) (by omega)] at c1
        omega
      · refine z_aload_n d_Rw_appendBodyWith_20 rfl rfl ?_
        refine z_getf (L_Rw_38K HG) (by decide) (L_Rw_38 HG) d_Rw_appendBodyWith_21 hq (by rfl) ?_
        refine z_callV0r (dY := d) d_Rw_appendBodyWith_24 rfl (by omega) (Y_Rw_104 HG) hw.1 (cl_Wk HG) (Nat.le_of_ble_eq_true rfl) (c_Wk_goesOn HG hw (by simp; omega)) ?_
        rw [if_neg (by simp)]
        refine z_if_eq (tgt := 102) d_Rw_appendBodyWith_27 rfl (fun c2 => ?_) (fun c2 => ?_)
        · exact absurd c2 (by decide)
        · refine z_aload_n d_Rw_appendBodyWith_30 rfl rfl ?_
          refine z_iload d_Rw_appendBodyWith_31 rfl ?_
          refine z_callV1r (dY := d) d_Rw_appendBodyWith_33 rfl (by omega) (Y_Rw_69 HG) ht.1 (cl_Row HG) (Nat.le_of_ble_eq_true rfl) (c_Row_at HG ht hl40 (nI i)) ?_
          rw [k_at_in ft (by omega) hl40, hlb.eq (by omega), hvv]
          refine z_istore d_Rw_appendBodyWith_36 (by decide) ?_
          refine z_aload_n d_Rw_appendBodyWith_38 rfl rfl ?_
          refine z_getf (L_Rw_38K HG) (by decide) (L_Rw_38 HG) d_Rw_appendBodyWith_39 hq (by rfl) ?_
          refine z_iload d_Rw_appendBodyWith_42 rfl ?_
          refine z_callV1r (dY := d) d_Rw_appendBodyWith_44 rfl (by omega) (Y_Rw_107 HG) hw.1 (cl_Wk HG) (Nat.le_of_ble_eq_true rfl) (c_Wk_depthOf HG hv hw hg (by omega)) ?_
          refine z_istore d_Rw_appendBodyWith_47 (by decide) ?_
          have hf1 : k_fr q r h (wset G h (q + 7) (p_aw v dd S).length (wk_up g v dd S.length)) := k_fr.wset (Or.inl rfl)
          have hw1 := wset_at G h (q + 7) (p_aw v dd S).length (wk_up g v dd S.length)
          have h91 : ∃ n9 g9, wkAt G (wset G h (q + 7) (p_aw v dd S).length (wk_up g v dd S.length)) (q + 9) n9 g9 := by
            obtain ⟨n9, g9, hw9⟩ := h9
            exact ⟨n9, g9, wset_wk hw9 (by omega) (by omega) (by omega)⟩
          have hr1 := wset_row (w := q + 7) (p_aw v dd S).length (wk_up g v dd S.length) hr (by omega) (by omega) (by omega)
          generalize hh1 : wset G h (q + 7) (p_aw v dd S).length (wk_up g v dd S.length) = h1 at hf1 hw1 h91 hr1 ⊢
          refine z_iload d_Rw_appendBodyWith_49 rfl ?_
          refine z_bipush (v := nI 100) d_Rw_appendBodyWith_51 (by decide +kernel) ?_
          refine z_iload d_Rw_appendBodyWith_53 rfl ?_
          refine z_iadd d_Rw_appendBodyWith_55 ?_
          rw [nI_add]
          refine z_icmp_ne (tgt := 72) d_Rw_appendBodyWith_56 rfl (fun c3 => ?_) (fun c3 => ?_)
          · rw [nI_eq (by omega) (by omega)] at c3
            rw [if_neg c3]
            have app : ∀ x : Nat, ∀ lo, z_in (bw_lo q s a t r i) lo → z_V G m_Rw_appendBodyWith (d + 2) 93 lo [.int (nI x), .ref r] h1 (z_eq2 (m + ([x] ++ p_put (ls.drop a) (p_aw v dd S) (lb.drop (i + 1))).length ≤ 40) none (fun h' => k_fr q r h h' ∧ k_sc G q h' ∧ rowAt G h' r (m + ([x] ++ p_put (ls.drop a) (p_aw v dd S) (lb.drop (i + 1))).length) (k_app f m ([x] ++ p_put (ls.drop a) (p_aw v dd S) (lb.drop (i + 1))))) (k_xc G q r h)) := by
              intro x lo hlo
              refine z_callV1e (dY := d) d_Rw_appendBodyWith_93 rfl (by omega) (Y_Rw_114 HG) hr1.1 (cl_Row HG) (Nat.le_of_ble_eq_true rfl) (c2_append HG (hf1.rm hrm) hr1 hm (nI x)) (fun hc h2 hh2 => ?_) (fun hc h2 hh2 => ?_)
              · subst hh2
                have hr2 := rset_at G h1 r (m + 1) (upd f m (nI x))
                rw [k_app_one] at hr2 ⊢
                exact tail _ [x] (hf1.tr k_fr.rset) (rset_wk _ _ hw1 (by omega) (by omega) (by omega)) (by
                  obtain ⟨n9, g9, hw9⟩ := h91
                  exact ⟨n9, g9, rset_wk _ _ hw9 (by omega) (by omega) (by omega)⟩) hr2 hc lo hlo
              · obtain ⟨hh2, h40⟩ := hh2
                subst h40
                exact z_eq2.no (by rw [List.length_append, List.length_singleton]; omega) ⟨h1, hh2, hf1, ⟨⟨_, _, hw1⟩, h91⟩, f, hr1⟩
            refine z_aload d_Rw_appendBodyWith_72 rfl ?_
            refine z_iload d_Rw_appendBodyWith_74 rfl ?_
            refine z_bipush (v := nI 100) d_Rw_appendBodyWith_76 (by decide +kernel) ?_
            refine z_iload d_Rw_appendBodyWith_78 rfl ?_
            refine z_iadd d_Rw_appendBodyWith_80 ?_
            rw [nI_add]
            refine z_icmp_le (tgt := 91) d_Rw_appendBodyWith_81 rfl (fun c4 => ?_) (fun c4 => ?_)
            · rw [nI_leI (by omega) (by omega)] at c4
              rw [if_neg (by omega)]
              refine z_iload d_Rw_appendBodyWith_91 rfl ?_
              exact app v _ ⟨rfl, rfl, rfl, rfl, rfl, rfl, trivial⟩
            · rw [nI_leI (by omega) (by omega)] at c4
              rw [if_pos (by omega)]
              refine z_iload d_Rw_appendBodyWith_84 rfl ?_
              refine z_iconst (v := nI 1) d_Rw_appendBodyWith_86 (by decide) ?_
              refine z_isub d_Rw_appendBodyWith_87 ?_
              rw [pk_sub (by omega)]
              refine z_goto (tgt := 93) d_Rw_appendBodyWith_88 rfl ?_
              exact app (v - 1) _ ⟨rfl, rfl, rfl, rfl, rfl, rfl, trivial⟩
          · rw [nI_eq (by omega) (by omega)] at c3
            rw [if_pos c3]
            refine z_aload_n d_Rw_appendBodyWith_59 rfl rfl ?_
            refine z_aload_n d_Rw_appendBodyWith_60 rfl rfl ?_
            refine z_iload_n d_Rw_appendBodyWith_61 rfl rfl ?_
            refine z_iload d_Rw_appendBodyWith_62 rfl ?_
            refine z_aload d_Rw_appendBodyWith_64 rfl ?_
            have hq1 := hf1.rw rr hq
            refine z_callV4e (dY := d + 1) d_Rw_appendBodyWith_66 rfl (by omega) (Y_Rw_110 HG) hq1 (cl_Rw HG) (Nat.le_of_ble_eq_true rfl) (c2_lift HG (hf1.rm hrm) (by omega) hls rr rs es ha hq1 ⟨⟨_, _, hw1⟩, h91⟩ (hf1.row rs es hs) hr1 hm) (fun hc h2 hh2 => ?_) (fun hc h2 hh2 => ?_)
            · obtain ⟨n', g', hh2⟩ := hh2
              subst hh2
              refine z_goto (tgt := 96) d_Rw_appendBodyWith_69 rfl ?_
              exact tail _ _ (hf1.tr ((k_fr.wset (Or.inr rfl)).tr k_fr.rset)) (rset_wk _ _ (wset_wk hw1 (by omega) (by omega) (by omega)) (by omega) (by omega) (by omega)) ⟨n', g', rset_wk _ _ (wset_at ..) (by omega) (by omega) (by omega)⟩ (rset_at ..) hc _ ⟨rfl, rfl, rfl, rfl, rfl, rfl, trivial⟩
            · exact z_eq2.no (by rw [List.length_append]; omega) (k_xc.tr hf1 hh2)
theorem c2_put (HG : z_ok G) {a b n : Nat} {f : Nat → Int32} {h : z_H} (hrm : z_rm G h) (hls : rl fs ls) (hlb : rl ft lb) (rr : k_rr q r) (rs : k_rr q s) (rt : k_rr q t) (es : k_ne s r) (et : k_ne t r) (ha : a ≤ ls.length) (hb : b ≤ lb.length)
    (hq : h.2.2 q = some (k_rw q rc na nb)) (hsc : k_sc G q h) (hs : rowAt G h s ls.length fs) (ht : rowAt G h t lb.length ft) (hr : rowAt G h r n f) (hn : n ≤ 40) :
    z_C G m_Rw_appendBodyWith (d + 2) [.ref q, .ref s, .int (nI a), .ref t, .int (nI b), .ref r] h (z_eq2 (n + (p_put (ls.drop a) [0] (lb.drop b)).length ≤ 40) none (fun h' => k_fr q r h h' ∧ k_sc G q h' ∧ rowAt G h' r (n + (p_put (ls.drop a) [0] (lb.drop b)).length) (k_app f n (p_put (ls.drop a) [0] (lb.drop b)))) (k_xc G q r h)) := by
  have hl40 := hlb.len
  have rr' := rr
  have rs' := rs
  have rt' := rt
  unfold k_rr at rr' rs' rt'
  obtain ⟨⟨n7, g7, hw⟩, n9, g9, hw9⟩ := id hsc
  refine z_C.of (Nat.le_of_ble_eq_true rfl) ?_
  refine z_aload_n d_Rw_appendBodyWith_0 rfl rfl ?_
  refine z_getf (L_Rw_38K HG) (by decide) (L_Rw_38 HG) d_Rw_appendBodyWith_1 hq (by rfl) ?_
  refine z_callV0v (dY := d) d_Rw_appendBodyWith_4 rfl (by omega) (Y_Rw_101 HG) hw.1 (cl_Wk HG) (Nat.le_of_ble_eq_true rfl) (c_Wk_begin HG hw) ?_
  refine z_iload d_Rw_appendBodyWith_7 rfl ?_
  refine z_istore d_Rw_appendBodyWith_9 (by decide) ?_
  refine z_fg (bw_lo q s a t r b) ⟨rfl, rfl, rfl, rfl, rfl, rfl, trivial⟩ ?_
  have hf : k_fr q r h (wset G h (q + 7) 1 (upd g7 0 (nI 0))) := k_fr.wset (Or.inl rfl)
  refine (l_put HG hls hlb rr rs rt es et ha (lb.length - b) b n [0] f (upd g7 0 (nI 0)) (wset G h (q + 7) 1 (upd g7 0 (nI 0))) (hf.rm hrm) (by omega) (by simp; omega) (by simp) (hf.rw rr hq) (wset_at ..) ⟨pk_us, trivial⟩ ⟨n9, g9, wset_wk hw9 (by omega) (by omega) (by omega)⟩ (hf.row rs es hs) (hf.row rt et ht) (wset_row _ _ hr (by omega) (by omega) (by omega)) hn).mono (fun r' h' hq' => ?_)
  rcases hq' with ⟨c1, c2, c3, c4, c5⟩ | ⟨c1, c2, c3⟩
  · exact Or.inl ⟨c1, c2, hf.tr c3, c4, c5⟩
  · exact Or.inr ⟨c1, c2, k_xc.tr hf c3⟩
end BW
