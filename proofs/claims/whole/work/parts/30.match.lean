/-! Rewriter.matches, firstMatch -/
theorem z_set_set (h : z_H) (a : Nat) (v w : va_E) : z_set (z_set h a v) a w = z_set h a w := by
  unfold z_set
  refine congrArg (fun z => (h.1, h.2.1, z)) ?_
  funext y
  simp only [va_up]
  split <;> rfl
theorem z_set_self {h : z_H} {a : Nat} {v : va_E} (H : h.2.2 a = some v) : z_set h a v = h := by
  unfold z_set
  obtain ⟨x, y, u⟩ := h
  refine congrArg (fun z => (x, y, z)) ?_
  funext q
  simp only [va_up]
  split
  · rename_i e
    rw [e]
    exact H.symm
  · rfl
theorem z_set_at (h : z_H) (a : Nat) (v : va_E) : (z_set h a v).2.2 a = some v := va_up_self _ _ _
theorem z_set_ne (h : z_H) {a c : Nat} (v : va_E) (e : c ≠ a) : (z_set h a v).2.2 c = h.2.2 c := va_up_ne _ _ e
theorem z_set_row {G : z_G} {h : z_H} {a r n : Nat} {f : Nat → Int32} (v : va_E) (H : rowAt G h r n f) (e1 : r ≠ a) (e2 : r + 1 ≠ a) : rowAt G (z_set h a v) r n f :=
  ⟨(z_set_ne h v e1).trans H.1, (z_set_ne h v e2).trans H.2⟩
theorem nI_m1 {v : Nat} (hv : v < 2 ^ 31) : ¬ (-1 : Int32) = nI v := by
  intro h
  have h1 := congrArg Int32.toInt h
  rw [nI_toInt hv] at h1
  have h2 : (-1 : Int32).toInt = -1 := by decide +kernel
  rw [h2] at h1
  omega
theorem upd_nI (g : Nat → Nat) (k i : Nat) : upd (fun j => nI (g j)) k (nI i) = fun j => nI (va_up g k i j) := by
  funext j
  unfold upd va_up
  split <;> rfl
theorem l_g? {l : List Nat} {i v : Nat} (h : i < l.length) : l[i]? = some v ↔ l.getD i 0 = v := by
  rw [List.getD_eq_getElem?_getD, List.getElem?_eq_getElem h]
  simp
/-- where the variables' terms begin -/
def k_ms (G : z_G) (g : Nat → Nat) : va_E := k_ints G 4 (fun j => nI (g j))
def ruAt (G : z_G) (h : z_H) (u nv : Nat) (ll lr : List Nat) : Prop := h.2.2 u = some (k_ru u nv) ∧ (∃ f, rowAt G h (u + 1) ll.length f ∧ rl f ll) ∧ ∃ f, rowAt G h (u + 3) lr.length f ∧ rl f lr
section MT
variable {G : z_G} {d q rc a b u nv : Nat} {fx fl : Nat → Int32} {x ll : List Nat}
abbrev mt_lo (q u i k : Nat) : List (Nat × Value) := [(0, .ref q), (1, .ref u), (3, .int (nI i)), (4, .int (nI k))]
theorem l_match (HG : z_ok G) (hx : rl fx x) (hll : rl fl ll) (ra : k_rr q a) (qu : q + 10 < u) (hnv : nv ≤ 4) : ∀ (c k i : Nat) (g : Nat → Nat) (h : z_H), k + c = ll.length → i ≤ x.length →
    h.2.2 q = some (k_rw q rc a b) → h.2.2 (q + 6) = some (k_ms G g) → h.2.2 u = some (k_ru u nv) → rowAt G h a x.length fx → rowAt G h (u + 1) ll.length fl →
    z_V G m_Rw_matches (d + 2) 5 (mt_lo q u i k) [] h (z_rq (some (.int (if (p_match nv x (ll.drop k) i g).1 = true then nI 1 else nI 0))) (z_set h (q + 6) (k_ms G (p_match nv x (ll.drop k) i g).2))) := by
  have hl40 := hll.len
  have hx40 := hx.len
  have ra' := ra
  unfold k_rr at ra'
  intro c
  induction c with
  | zero =>
    intro k i g h hk hi hq h6 hu ha ht
    rw [List.drop_eq_nil_of_le (by omega)]
    refine z_iload d_Rw_matches_5 rfl ?_
    refine z_aload_n d_Rw_matches_7 rfl rfl ?_
    refine z_getf (L_Rw_46K HG) (by decide) (L_Rw_46 HG) d_Rw_matches_8 hu (by rfl) ?_
    refine z_getf (L_Rw_66K HG) (by decide) (L_Rw_66 HG) d_Rw_matches_11 ht.1 (by rfl) ?_
    refine z_icmp_ge (tgt := 96) d_Rw_matches_14 rfl (fun c1 => ?_) (fun c1 => ?_)
    · refine z_iconst (v := nI 1) d_Rw_matches_96 (by decide) ?_
      exact z_ireturn d_Rw_matches_97 rfl rfl ⟨rfl, (z_set_self h6).symm⟩
    · rw [nI_leI (by omega) (by omega)] at c1
      omega
  | succ c ih =>
    intro k i g h hk hi hq h6 hu ha ht
    have hv := hll.lt (i := k) (by omega)
    rw [l_dc (l := ll) (i := k) (by omega)]
    generalize hvv : ll.getD k 0 = v at hv ⊢
    refine z_iload d_Rw_matches_5 rfl ?_
    refine z_aload_n d_Rw_matches_7 rfl rfl ?_
    refine z_getf (L_Rw_46K HG) (by decide) (L_Rw_46 HG) d_Rw_matches_8 hu (by rfl) ?_
    refine z_getf (L_Rw_66K HG) (by decide) (L_Rw_66 HG) d_Rw_matches_11 ht.1 (by rfl) ?_
    refine z_icmp_ge (tgt := 96) d_Rw_matches_14 rfl (fun c1 => ?_) (fun c1 => ?_)
    · rw [nI_leI (by omega) (by omega)] at c1
      omega
    · refine z_aload_n d_Rw_matches_17 rfl rfl ?_
      refine z_getf (L_Rw_46K HG) (by decide) (L_Rw_46 HG) d_Rw_matches_18 hu (by rfl) ?_
      refine z_iload d_Rw_matches_21 rfl ?_
      refine z_callV1r (dY := d) d_Rw_matches_23 rfl (by omega) (Y_Rw_69 HG) ht.1 (cl_Row HG) (Nat.le_of_ble_eq_true rfl) (c_Row_at HG ht hl40 (nI k)) ?_
      rw [k_at_in fl (by omega) hl40, hll.eq (by omega), hvv]
      refine z_istore d_Rw_matches_26 (by decide) ?_
      refine z_iload d_Rw_matches_28 rfl ?_
      refine z_bipush (v := nI 100) d_Rw_matches_30 (by decide +kernel) ?_
      refine z_isub d_Rw_matches_32 ?_
      refine z_istore d_Rw_matches_33 (by decide) ?_
      have sec : ¬ (100 ≤ v ∧ v < 100 + nv) → z_V G m_Rw_matches (d + 2) 69 [(0, .ref q), (1, .ref u), (3, .int (nI i)), (4, .int (nI k)), (5, .int (nI v))] [] h (z_rq (some (.int (if (p_match nv x (v :: ll.drop (k + 1)) i g).1 = true then nI 1 else nI 0))) (z_set h (q + 6) (k_ms G (p_match nv x (v :: ll.drop (k + 1)) i g).2))) := by
        intro hno
        have ep : p_match nv x (v :: ll.drop (k + 1)) i g = if x[i]? = some v then p_match nv x (ll.drop (k + 1)) (i + 1) g else (false, g) := by
          show (if 100 ≤ v ∧ v < 100 + nv then _ else _) = _
          rw [if_neg hno]
        rw [ep]
        refine z_aload_n d_Rw_matches_69 rfl rfl ?_
        refine z_getf (L_Rw_24K HG) (by decide) (L_Rw_24 HG) d_Rw_matches_70 hq (by rfl) ?_
        refine z_iload_n d_Rw_matches_73 rfl rfl ?_
        refine z_callV1r (dY := d) d_Rw_matches_74 rfl (by omega) (Y_Rw_69 HG) ha.1 (cl_Row HG) (Nat.le_of_ble_eq_true rfl) (c_Row_at HG ha hx40 (nI i)) ?_
        refine z_iload d_Rw_matches_77 rfl ?_
        by_cases hix : i < x.length
        · have hxv := hx.lt hix
          rw [k_at_in fx hix hx40, hx.eq hix]
          refine z_icmp_ne (tgt := 88) d_Rw_matches_79 rfl (fun c2 => ?_) (fun c2 => ?_)
          · rw [nI_eq (by omega) (by omega)] at c2
            have hx2 : ¬ x[i]? = some v := fun hh => c2 ((l_g? hix).mp hh)
            rw [if_neg hx2]
            refine z_iconst (v := nI 0) d_Rw_matches_88 (by decide) ?_
            exact z_ireturn d_Rw_matches_89 rfl rfl ⟨rfl, (z_set_self h6).symm⟩
          · rw [nI_eq (by omega) (by omega)] at c2
            have hx2 : x[i]? = some v := (l_g? hix).mpr c2
            rw [if_pos hx2]
            refine z_iinc (v := nI (i + 1)) d_Rw_matches_82 rfl (i_inc i) (by decide) ?_
            refine z_goto (tgt := 90) d_Rw_matches_85 rfl ?_
            refine z_iinc (v := nI (k + 1)) d_Rw_matches_90 rfl (i_inc k) (by decide) ?_
            refine z_goto (tgt := 5) d_Rw_matches_93 rfl ?_
            refine z_fg (mt_lo q u (i + 1) (k + 1)) ⟨rfl, rfl, rfl, rfl, trivial⟩ ?_
            exact ih (k + 1) (i + 1) g h (by omega) (by omega) hq h6 hu ha ht
        · rw [k_at_out fx (by omega) (by omega)]
          refine z_icmp_ne (tgt := 88) d_Rw_matches_79 rfl (fun c2 => ?_) (fun c2 => ?_)
          · have hx2 : ¬ x[i]? = some v := by
              rw [List.getElem?_eq_none (by omega)]
              simp
            rw [if_neg hx2]
            refine z_iconst (v := nI 0) d_Rw_matches_88 (by decide) ?_
            exact z_ireturn d_Rw_matches_89 rfl rfl ⟨rfl, (z_set_self h6).symm⟩
          · exact absurd c2 (nI_m1 (by omega))
      refine z_iload d_Rw_matches_35 rfl ?_
      refine z_if_lt (tgt := 69) d_Rw_matches_37 rfl (fun c3 => ?_) (fun c3 => ?_)
      · refine z_fg [(0, .ref q), (1, .ref u), (3, .int (nI i)), (4, .int (nI k)), (5, .int (nI v))] ⟨rfl, rfl, rfl, rfl, rfl, trivial⟩ (sec (fun hh => ?_))
        rw [pk_sub hh.1] at c3
        exact absurd c3 (nI_pos (by omega))
      · have hge : 100 ≤ v := by
          apply Nat.le_of_not_lt
          intro hlt
          exact c3 (pk_sneg (by omega) hlt)
        rw [pk_sub hge]
        refine z_iload d_Rw_matches_40 rfl ?_
        refine z_aload_n d_Rw_matches_42 rfl rfl ?_
        refine z_getf (L_Rw_56K HG) (by decide) (L_Rw_56 HG) d_Rw_matches_43 hu (by rfl) ?_
        refine z_icmp_ge (tgt := 69) d_Rw_matches_46 rfl (fun c4 => ?_) (fun c4 => ?_)
        · rw [nI_leI (by omega) (by omega)] at c4
          exact z_fg [(0, .ref q), (1, .ref u), (3, .int (nI i)), (4, .int (nI k)), (5, .int (nI v))] ⟨rfl, rfl, rfl, rfl, rfl, trivial⟩ (sec (by omega))
        · rw [nI_leI (by omega) (by omega)] at c4
          have ep : p_match nv x (v :: ll.drop (k + 1)) i g = p_match nv x (ll.drop (k + 1)) (i + p_end 1 (x.drop i)) (va_up g (v - 100) i) := by
            show (if 100 ≤ v ∧ v < 100 + nv then _ else _) = _
            rw [if_pos ⟨hge, by omega⟩]
          rw [ep]
          refine z_aload_n d_Rw_matches_49 rfl rfl ?_
          refine z_getf (L_Rw_31K HG) (by decide) (L_Rw_31 HG) d_Rw_matches_50 hq (by rfl) ?_
          refine z_iload d_Rw_matches_53 rfl ?_
          refine z_iload_n d_Rw_matches_55 rfl rfl ?_
          refine z_iast d_Rw_matches_56 (ty0 HG) h6 (pk_in (v - 100) 4 (by omega)) ?_
          rw [nI_clamp (by omega), upd_nI]
          have hq1 := (z_set_ne h (a := q + 6) (k_ms G (va_up g (v - 100) i)) (show q ≠ q + 6 by omega)).trans hq
          have hu1 := (z_set_ne h (a := q + 6) (k_ms G (va_up g (v - 100) i)) (show u ≠ q + 6 by omega)).trans hu
          have ha1 := z_set_row (a := q + 6) (k_ms G (va_up g (v - 100) i)) ha (by omega) (by omega)
          have ht1 := z_set_row (a := q + 6) (k_ms G (va_up g (v - 100) i)) ht (by omega) (by omega)
          show z_V G m_Rw_matches (d + 2) 57 _ _ (z_set h (q + 6) (k_ms G (va_up g (v - 100) i))) _
          refine z_aload_n d_Rw_matches_57 rfl rfl ?_
          refine z_getf (L_Rw_24K HG) (by decide) (L_Rw_24 HG) d_Rw_matches_58 hq1 (by rfl) ?_
          refine z_iload_n d_Rw_matches_61 rfl rfl ?_
          refine z_callV1r (dY := d + 1) d_Rw_matches_62 rfl (by omega) (Y_Rw_84 HG) ha1.1 (cl_Row HG) (Nat.le_of_ble_eq_true rfl) (c_Row_endOf HG ha1 hx hi) ?_
          refine z_istore_n d_Rw_matches_65 rfl (by decide) ?_
          refine z_goto (tgt := 90) d_Rw_matches_66 rfl ?_
          refine z_iinc (v := nI (k + 1)) d_Rw_matches_90 rfl (i_inc k) (by decide) ?_
          refine z_goto (tgt := 5) d_Rw_matches_93 rfl ?_
          refine z_fg (mt_lo q u (i + p_end 1 (x.drop i)) (k + 1)) ⟨rfl, rfl, rfl, rfl, trivial⟩ ?_
          have := ih (k + 1) (i + p_end 1 (x.drop i)) (va_up g (v - 100) i) (z_set h (q + 6) (k_ms G (va_up g (v - 100) i))) (by omega) (p_end_drop hi) hq1 (z_set_at ..) hu1 ha1 ht1
          rw [z_set_set] at this
          exact this
theorem c_Rw_matches (HG : z_ok G) {i : Nat} {g : Nat → Nat} {h : z_H} (hx : rl fx x) (hll : rl fl ll) (ra : k_rr q a) (qu : q + 10 < u) (hnv : nv ≤ 4) (hi : i ≤ x.length)
    (hq : h.2.2 q = some (k_rw q rc a b)) (h6 : h.2.2 (q + 6) = some (k_ms G g)) (hu : h.2.2 u = some (k_ru u nv)) (ha : rowAt G h a x.length fx) (ht : rowAt G h (u + 1) ll.length fl) :
    z_C G m_Rw_matches (d + 2) [.ref q, .ref u, .int (nI i)] h (z_rq (some (.int (if (p_match nv x ll i g).1 = true then nI 1 else nI 0))) (z_set h (q + 6) (k_ms G (p_match nv x ll i g).2))) := by
  refine z_C.of (Nat.le_of_ble_eq_true rfl) ?_
  refine z_iload_n d_Rw_matches_0 rfl rfl ?_
  refine z_istore_n d_Rw_matches_1 rfl (by decide) ?_
  refine z_iconst (v := nI 0) d_Rw_matches_2 (by decide) ?_
  refine z_istore d_Rw_matches_3 (by decide) ?_
  refine z_fg (mt_lo q u i 0) ⟨rfl, rfl, rfl, rfl, trivial⟩ ?_
  exact l_match HG hx hll ra qu hnv ll.length 0 i g h (by omega) hi hq h6 hu ha ht
/-- the first rule of the list that matches at place i -/
def p_first (x : List Nat) (i : Nat) : List (List Nat × List Nat × Nat) → Option (List Nat × List Nat × Nat)
  | [] => none
  | R :: Rs => if (p_match R.2.2 x R.1 i (fun _ => 0)).1 = true then some R else p_first x i Rs
theorem p_match_b {n : Nat} {x : List Nat} : ∀ (l : List Nat) (i : Nat) (g g' : Nat → Nat), (p_match n x l i g).1 = (p_match n x l i g').1
  | [], i, g, g' => rfl
  | v :: l, i, g, g' => by
    unfold p_match
    split
    · exact p_match_b l _ _ _
    · split
      · exact p_match_b l _ _ _
      · rfl
/-- the k-th rule's object -/
abbrev k_rq (q k : Nat) : Nat := q + 11 + 5 * k
def k_rls (G : z_G) (fr : Nat → Option Nat) : va_E := .inl (G.ca 5, 8, .inr (.inr (.inr (.inr fr))))
def k_rok (q : Nat) (fr : Nat → Option Nat) : Prop := ∀ k, k < 8 → fr k = some (k_rq q k)
/-- the rules -/
def rusAt (G : z_G) (h : z_H) (q : Nat) (Rs : List (List Nat × List Nat × Nat)) : Prop := Rs.length ≤ 8 ∧ ∀ k R, Rs[k]? = some R → R.2.2 ≤ 4 ∧ ruAt G h (k_rq q k) R.2.2 R.1 R.2.1
theorem ruAt.set {G : z_G} {h : z_H} {u nv c : Nat} {ll lr : List Nat} (v : va_E) (H : ruAt G h u nv ll lr) (e : c < u ∨ u + 4 < c) : ruAt G (z_set h c v) u nv ll lr := by
  obtain ⟨h1, ⟨f, h2, h3⟩, f', h4, h5⟩ := H
  exact ⟨(z_set_ne h v (by omega)).trans h1, ⟨f, z_set_row v h2 (by omega) (by omega), h3⟩, f', z_set_row v h4 (by omega) (by omega), h5⟩
theorem rusAt.set {G : z_G} {h : z_H} {q c : Nat} {Rs : List (List Nat × List Nat × Nat)} (v : va_E) (H : rusAt G h q Rs) (e : c < q + 11) : rusAt G (z_set h c v) q Rs :=
  ⟨H.1, fun k R hk => ⟨(H.2 k R hk).1, (H.2 k R hk).2.set v (by unfold k_rq; omega)⟩⟩
section FM
variable {G : z_G} {d q a b : Nat} {fx : Nat → Int32} {x : List Nat} {Rs : List (List Nat × List Nat × Nat)} {fr : Nat → Option Nat}
theorem l_first (HG : z_ok G) (hx : rl fx x) (ra : k_rr q a) (hfr : k_rok q fr) {i : Nat} (hi : i ≤ x.length) : ∀ (c k : Nat) (g : Nat → Nat) (h : z_H), k + c = Rs.length →
    h.2.2 q = some (k_rw q Rs.length a b) → h.2.2 (q + 1) = some (k_rls G fr) → h.2.2 (q + 6) = some (k_ms G g) → rowAt G h a x.length fx → rusAt G h q Rs →
    z_V G m_Rw_firstMatch (d + 3) 2 [(0, .ref q), (1, .int (nI i)), (2, .int (nI k))] [] h (fun r h' => (p_first x i (Rs.drop k) = none ∧ r = .inl (some (.int (-1))) ∧ ∃ g', h' = z_set h (q + 6) (k_ms G g')) ∨ ∃ (k' : Nat) (R : List Nat × List Nat × Nat) (g0 : Nat → Nat), Rs[k']? = some R ∧ p_first x i (Rs.drop k) = some R ∧ (p_match R.2.2 x R.1 i g0).1 = true ∧ r = .inl (some (.int (nI k'))) ∧ h' = z_set h (q + 6) (k_ms G (p_match R.2.2 x R.1 i g0).2)) := by
  have ra' := ra
  unfold k_rr at ra'
  intro c
  induction c with
  | zero =>
    intro k g h hk hq h1 h6 ha hR
    have h8 := hR.1
    rw [List.drop_eq_nil_of_le (by omega)]
    refine z_iload_n d_Rw_firstMatch_2 rfl rfl ?_
    refine z_aload_n d_Rw_firstMatch_3 rfl rfl ?_
    refine z_getf (L_Rw_17K HG) (by decide) (L_Rw_17 HG) d_Rw_firstMatch_4 hq (by rfl) ?_
    refine z_icmp_ge (tgt := 32) d_Rw_firstMatch_7 rfl (fun c1 => ?_) (fun c1 => ?_)
    · refine z_iconst (v := -1) d_Rw_firstMatch_32 (by decide) ?_
      exact z_ireturn d_Rw_firstMatch_33 rfl rfl (Or.inl ⟨rfl, rfl, g, (z_set_self h6).symm⟩)
    · rw [nI_leI (by omega) (by omega)] at c1
      omega
  | succ c ih =>
    intro k g h hk hq h1 h6 ha hR
    have h8 := hR.1
    have hkl : k < Rs.length := by omega
    have hg := List.getElem?_eq_getElem hkl
    rw [List.drop_eq_getElem_cons hkl]
    generalize Rs[k] = R at hg ⊢
    obtain ⟨hnv, hu, ⟨fl, hl1, hl2⟩, -⟩ := hR.2 k R hg
    refine z_iload_n d_Rw_firstMatch_2 rfl rfl ?_
    refine z_aload_n d_Rw_firstMatch_3 rfl rfl ?_
    refine z_getf (L_Rw_17K HG) (by decide) (L_Rw_17 HG) d_Rw_firstMatch_4 hq (by rfl) ?_
    refine z_icmp_ge (tgt := 32) d_Rw_firstMatch_7 rfl (fun c1 => ?_) (fun c1 => ?_)
    · rw [nI_leI (by omega) (by omega)] at c1
      omega
    · refine z_aload_n d_Rw_firstMatch_10 rfl rfl ?_
      refine z_aload_n d_Rw_firstMatch_11 rfl rfl ?_
      refine z_getf (L_Rw_11K HG) (by decide) (L_Rw_11 HG) d_Rw_firstMatch_12 hq (by rfl) ?_
      refine z_iload_n d_Rw_firstMatch_15 rfl rfl ?_
      refine z_aald d_Rw_firstMatch_16 (ty5 HG) h1 (pk_in k 8 (by omega)) (by rw [nI_clamp (by omega)]; exact hfr k (by omega)) ?_
      refine z_iload_n d_Rw_firstMatch_17 rfl rfl ?_
      refine z_callV2r (dY := d + 2) d_Rw_firstMatch_18 rfl (by omega) (Y_Rw_117 HG) hq (cl_Rw HG) (Nat.le_of_ble_eq_true rfl) (c_Rw_matches HG hx hl2 ra (by unfold k_rq; omega) hnv hi hq h6 hu ha hl1) ?_
      have ep : p_first x i (R :: Rs.drop (k + 1)) = if (p_match R.2.2 x R.1 i (fun _ => 0)).1 = true then some R else p_first x i (Rs.drop (k + 1)) := rfl
      rw [ep, p_match_b R.1 i (fun _ => 0) g]
      refine z_if_eq (tgt := 26) d_Rw_firstMatch_21 rfl (fun c2 => ?_) (fun c2 => ?_)
      · have hm : ¬ (p_match R.2.2 x R.1 i g).1 = true := by
          intro hm
          rw [if_pos hm] at c2
          exact absurd c2 (by decide)
        rw [if_neg hm]
        refine z_iinc (v := nI (k + 1)) d_Rw_firstMatch_26 rfl (i_inc k) (by decide) ?_
        refine z_goto (tgt := 2) d_Rw_firstMatch_29 rfl ?_
        refine z_fg [(0, .ref q), (1, .int (nI i)), (2, .int (nI (k + 1)))] ⟨rfl, rfl, rfl, trivial⟩ ?_
        refine (ih (k + 1) (p_match R.2.2 x R.1 i g).2 (z_set h (q + 6) (k_ms G (p_match R.2.2 x R.1 i g).2)) (by omega) ((z_set_ne _ _ (by omega)).trans hq) ((z_set_ne _ _ (by omega)).trans h1) (z_set_at ..) (z_set_row _ ha (by omega) (by omega)) (hR.set _ (by omega))).mono (fun r h' hh => ?_)
        simp only [z_set_set] at hh
        exact hh
      · have hm : (p_match R.2.2 x R.1 i g).1 = true := by
          apply Classical.byContradiction
          intro hm
          rw [if_neg hm] at c2
          exact c2 (by decide)
        rw [if_pos hm]
        refine z_iload_n d_Rw_firstMatch_24 rfl rfl ?_
        exact z_ireturn d_Rw_firstMatch_25 rfl rfl (Or.inr ⟨k, R, g, hg, rfl, hm, rfl, rfl⟩)
theorem c_Rw_firstMatch (HG : z_ok G) {i : Nat} {g : Nat → Nat} {h : z_H} (hx : rl fx x) (ra : k_rr q a) (hfr : k_rok q fr) (hi : i ≤ x.length)
    (hq : h.2.2 q = some (k_rw q Rs.length a b)) (h1 : h.2.2 (q + 1) = some (k_rls G fr)) (h6 : h.2.2 (q + 6) = some (k_ms G g)) (ha : rowAt G h a x.length fx) (hR : rusAt G h q Rs) :
    z_C G m_Rw_firstMatch (d + 3) [.ref q, .int (nI i)] h (fun r h' => (p_first x i Rs = none ∧ r = .inl (some (.int (-1))) ∧ ∃ g', h' = z_set h (q + 6) (k_ms G g')) ∨ ∃ (k' : Nat) (R : List Nat × List Nat × Nat) (g0 : Nat → Nat), Rs[k']? = some R ∧ p_first x i Rs = some R ∧ (p_match R.2.2 x R.1 i g0).1 = true ∧ r = .inl (some (.int (nI k'))) ∧ h' = z_set h (q + 6) (k_ms G (p_match R.2.2 x R.1 i g0).2)) := by
  refine z_C.of (Nat.le_of_ble_eq_true rfl) ?_
  refine z_iconst (v := nI 0) d_Rw_firstMatch_0 (by decide) ?_
  refine z_istore_n d_Rw_firstMatch_1 rfl (by decide) ?_
  refine z_fg [(0, .ref q), (1, .int (nI i)), (2, .int (nI 0))] ⟨rfl, rfl, rfl, trivial⟩ ?_
  exact l_first HG hx ra hfr hi Rs.length 0 g h (by omega) hq h1 h6 ha hR
end FM
end MT
