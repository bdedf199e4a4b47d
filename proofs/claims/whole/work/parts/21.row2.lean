/-! Row's methods that go through rows -/
theorem l_dt {l : List Nat} {i k : Nat} (h : i < l.length) : (l.drop i).take (k + 1) = l.getD i 0 :: (l.drop (i + 1)).take k := by
  rw [List.drop_eq_getElem_cons h, List.take_succ_cons, List.getD_eq_getElem?_getD, List.getElem?_eq_getElem h]
  rfl
theorem l_dc {l : List Nat} {i : Nat} (h : i < l.length) : l.drop i = l.getD i 0 :: l.drop (i + 1) := by
  rw [List.drop_eq_getElem_cons h, List.getD_eq_getElem?_getD, List.getElem?_eq_getElem h]
  rfl
theorem i_inc (i : Nat) : nI i + Int32.ofInt 1 = nI (i + 1) := by rw [lit1, nI_1]
theorem rl.len {f : Nat → Int32} {l : List Nat} (h : rl f l) : l.length ≤ 40 := h.1
theorem rl.eq {f : Nat → Int32} {l : List Nat} (h : rl f l) {i : Nat} (hi : i < l.length) : f i = nI (l.getD i 0) := (h.2 i hi).1
theorem rl.lt {f : Nat → Int32} {l : List Nat} (h : rl f l) {i : Nat} (hi : i < l.length) : l.getD i 0 < 1000 := (h.2 i hi).2
section RY
variable {G : z_G} {h : z_H} {d r s n ns : Nat} {f fs : Nat → Int32} {l ls : List Nat}
theorem k_app_cons (g : Nat → Int32) (m v : Nat) (t : List Nat) : k_app (upd g m (nI v)) (m + 1) t = k_app g m (v :: t) := by
  rw [k_app_one]
  exact k_app_app g m [v] t
theorem l_Row_appendPart (HG : z_ok G) {b : Nat} (hls : rl fs ls) (hb : b ≤ ls.length) (e1 : s ≠ r) (e2 : s ≠ r + 1) (e3 : s + 1 ≠ r) : ∀ (k i m : Nat) (g : Nat → Int32) (h : z_H), rowAt G h r m g → rowAt G h s ls.length fs → i + k = b → m + k ≤ 40 →
    z_V G m_Row_appendPart (d + 1) 3 [(0, .ref r), (1, .ref s), (3, .int (nI b)), (4, .int (nI i))] [] h (z_rq none (rset G h r (m + k) (k_app g m ((ls.drop i).take k)))) := by
  have hl40 := hls.len
  intro k
  induction k with
  | zero =>
    intro i m g h hr hs hi hm
    refine z_iload d_Row_appendPart_3 rfl ?_
    refine z_iload_n d_Row_appendPart_5 rfl rfl ?_
    refine z_icmp_ge (tgt := 25) d_Row_appendPart_6 rfl (fun c1 => ?_) (fun c1 => ?_)
    · exact z_return d_Row_appendPart_25 rfl ⟨rfl, by rw [List.take_zero, k_app_nil]; exact (rset_self hr).symm⟩
    · rw [nI_leI (by omega) (by omega)] at c1
      omega
  | succ k ih =>
    intro i m g h hr hs hi hm
    refine z_iload d_Row_appendPart_3 rfl ?_
    refine z_iload_n d_Row_appendPart_5 rfl rfl ?_
    refine z_icmp_ge (tgt := 25) d_Row_appendPart_6 rfl (fun c1 => ?_) (fun c1 => ?_)
    · rw [nI_leI (by omega) (by omega)] at c1
      omega
    · refine z_aload_n d_Row_appendPart_9 rfl rfl ?_
      refine z_aload_n d_Row_appendPart_10 rfl rfl ?_
      refine z_iload d_Row_appendPart_11 rfl ?_
      refine z_callV1r (dY := d) d_Row_appendPart_13 rfl (by omega) (Y_Row_22 HG) hs.1 (cl_Row HG) (Nat.le_of_ble_eq_true rfl) (c_Row_at HG hs hl40 (nI i)) ?_
      rw [k_at_in fs (by omega) hl40, hls.eq (by omega)]
      refine z_callV1v (dY := d) d_Row_appendPart_16 rfl (by omega) (Y_Row_26 HG) hr.1 (cl_Row HG) (Nat.le_of_ble_eq_true rfl) (c_Row_append HG hr (by omega) _) ?_
      refine z_iinc (v := nI (i + 1)) d_Row_appendPart_19 rfl (i_inc i) (by decide) ?_
      refine z_goto (tgt := 3) d_Row_appendPart_22 rfl ?_
      refine z_fg [(0, .ref r), (1, .ref s), (3, .int (nI b)), (4, .int (nI (i + 1)))] ⟨rfl, rfl, rfl, rfl, trivial⟩ ?_
      refine (ih (i + 1) (m + 1) (upd g m (nI (ls.getD i 0))) _ (rset_at ..) (rset_row _ _ hs e1 e2 e3) (by omega) (by omega)).mono (fun q h' hq => ?_)
      rw [rset_rset, k_app_cons, ← l_dt (by omega), show m + 1 + k = m + (k + 1) by omega] at hq
      exact hq
theorem c_Row_appendPart (HG : z_ok G) {a b : Nat} (hr : rowAt G h r n f) (hs : rowAt G h s ls.length fs) (hls : rl fs ls) (ha : a ≤ b) (hb : b ≤ ls.length) (e1 : s ≠ r) (e2 : s ≠ r + 1) (e3 : s + 1 ≠ r) (hm : n + (b - a) ≤ 40) :
    z_C G m_Row_appendPart (d + 1) [.ref r, .ref s, .int (nI a), .int (nI b)] h (z_rq none (rset G h r (n + (b - a)) (k_app f n ((ls.drop a).take (b - a))))) := by
  refine z_C.of (Nat.le_of_ble_eq_true rfl) ?_
  refine z_iload_n d_Row_appendPart_0 rfl rfl ?_
  refine z_istore d_Row_appendPart_1 (by decide) ?_
  refine z_fg [(0, .ref r), (1, .ref s), (3, .int (nI b)), (4, .int (nI a))] ⟨rfl, rfl, rfl, rfl, trivial⟩ ?_
  exact l_Row_appendPart HG hls hb e1 e2 e3 (b - a) a n f h hr hs (by omega) hm
theorem l_Row_appendPartX (HG : z_ok G) {b : Nat} (hls : rl fs ls) (hb : b ≤ ls.length) (e1 : s ≠ r) (e2 : s ≠ r + 1) (e3 : s + 1 ≠ r) : ∀ (k i m : Nat) (g : Nat → Int32) (h : z_H), z_rm G h → rowAt G h r m g → rowAt G h s ls.length fs → i + k = b → m ≤ 40 → 40 < m + k →
    z_V G m_Row_appendPart (d + 1) 3 [(0, .ref r), (1, .ref s), (3, .int (nI b)), (4, .int (nI i))] [] h (z_xq "java/lang/ArithmeticException" (fun h' => ∃ f', h' = z_exc (rset G h r 40 f'))) := by
  have hl40 := hls.len
  intro k
  induction k with
  | zero =>
    intro i m g h hrm hr hs hi hm hm2
    omega
  | succ k ih =>
    intro i m g h hrm hr hs hi hm hm2
    refine z_iload d_Row_appendPart_3 rfl ?_
    refine z_iload_n d_Row_appendPart_5 rfl rfl ?_
    refine z_icmp_ge (tgt := 25) d_Row_appendPart_6 rfl (fun c1 => ?_) (fun c1 => ?_)
    · rw [nI_leI (by omega) (by omega)] at c1
      omega
    · refine z_aload_n d_Row_appendPart_9 rfl rfl ?_
      refine z_aload_n d_Row_appendPart_10 rfl rfl ?_
      refine z_iload d_Row_appendPart_11 rfl ?_
      refine z_callV1r (dY := d) d_Row_appendPart_13 rfl (by omega) (Y_Row_22 HG) hs.1 (cl_Row HG) (Nat.le_of_ble_eq_true rfl) (c_Row_at HG hs hl40 (nI i)) ?_
      by_cases hm3 : m = 40
      · subst hm3
        exact z_callV1x (dY := d) d_Row_appendPart_16 rfl (by omega) (Y_Row_26 HG) hr.1 (cl_Row HG) (Nat.le_of_ble_eq_true rfl) (c_Row_appendX HG hr hrm _) (fun h' hh => ⟨rfl, g, by rw [hh, rset_self hr]⟩)
      · refine z_callV1v (dY := d) d_Row_appendPart_16 rfl (by omega) (Y_Row_26 HG) hr.1 (cl_Row HG) (Nat.le_of_ble_eq_true rfl) (c_Row_append HG hr (by omega) _) ?_
        refine z_iinc (v := nI (i + 1)) d_Row_appendPart_19 rfl (i_inc i) (by decide) ?_
        refine z_goto (tgt := 3) d_Row_appendPart_22 rfl ?_
        refine z_fg [(0, .ref r), (1, .ref s), (3, .int (nI b)), (4, .int (nI (i + 1)))] ⟨rfl, rfl, rfl, rfl, trivial⟩ ?_
        refine (ih (i + 1) (m + 1) _ _ (hrm.rset ..) (rset_at ..) (rset_row _ _ hs e1 e2 e3) (by omega) (by omega) (by omega)).mono (fun q h' hq => ?_)
        obtain ⟨hq1, f', hq2⟩ := hq
        exact ⟨hq1, f', by rw [hq2, rset_rset]⟩
theorem c_Row_appendPartX (HG : z_ok G) {a b : Nat} (hrm : z_rm G h) (hr : rowAt G h r n f) (hs : rowAt G h s ls.length fs) (hls : rl fs ls) (ha : a ≤ b) (hb : b ≤ ls.length) (e1 : s ≠ r) (e2 : s ≠ r + 1) (e3 : s + 1 ≠ r) (hn : n ≤ 40) (hm : 40 < n + (b - a)) :
    z_C G m_Row_appendPart (d + 1) [.ref r, .ref s, .int (nI a), .int (nI b)] h (z_xq "java/lang/ArithmeticException" (fun h' => ∃ f', h' = z_exc (rset G h r 40 f'))) := by
  refine z_C.of (Nat.le_of_ble_eq_true rfl) ?_
  refine z_iload_n d_Row_appendPart_0 rfl rfl ?_
  refine z_istore d_Row_appendPart_1 (by decide) ?_
  refine z_fg [(0, .ref r), (1, .ref s), (3, .int (nI b)), (4, .int (nI a))] ⟨rfl, rfl, rfl, rfl, trivial⟩ ?_
  exact l_Row_appendPartX HG hls hb e1 e2 e3 (b - a) a n f h hrm hr hs (by omega) hn hm
theorem c_Row_hasParts (HG : z_ok G) {v : Nat} (hv : v < 1000) : z_C G m_Row_hasParts d [.int (nI v)] h (z_rq (some (.int (if p_two v = true then nI 1 else nI 0))) h) := by
  refine z_C.of (Nat.le_of_ble_eq_true rfl) ?_
  refine z_iload_n d_Row_hasParts_0 rfl rfl ?_
  refine z_iconst (v := nI 2) d_Row_hasParts_1 (by decide) ?_
  refine z_icmp_eq (tgt := 15) d_Row_hasParts_2 rfl (fun c1 => ?_) (fun c1 => ?_)
  · rw [nI_eq (by omega) (by omega)] at c1
    refine z_iconst (v := nI 1) d_Row_hasParts_15 (by decide) ?_
    refine z_goto (tgt := 20) d_Row_hasParts_16 rfl ?_
    exact z_ireturn d_Row_hasParts_20 rfl rfl ⟨by rw [if_pos (by simp [p_two, c1])], rfl⟩
  · rw [nI_eq (by omega) (by omega)] at c1
    refine z_iload_n d_Row_hasParts_5 rfl rfl ?_
    refine z_iconst (v := nI 3) d_Row_hasParts_6 (by decide) ?_
    refine z_icmp_eq (tgt := 15) d_Row_hasParts_7 rfl (fun c2 => ?_) (fun c2 => ?_)
    · rw [nI_eq (by omega) (by omega)] at c2
      refine z_iconst (v := nI 1) d_Row_hasParts_15 (by decide) ?_
      refine z_goto (tgt := 20) d_Row_hasParts_16 rfl ?_
      exact z_ireturn d_Row_hasParts_20 rfl rfl ⟨by rw [if_pos (by simp [p_two, c2])], rfl⟩
    · rw [nI_eq (by omega) (by omega)] at c2
      refine z_iload_n d_Row_hasParts_10 rfl rfl ?_
      refine z_iconst (v := nI 4) d_Row_hasParts_11 (by decide) ?_
      refine z_icmp_ne (tgt := 19) d_Row_hasParts_12 rfl (fun c3 => ?_) (fun c3 => ?_)
      · rw [nI_eq (by omega) (by omega)] at c3
        refine z_iconst (v := nI 0) d_Row_hasParts_19 (by decide) ?_
        exact z_ireturn d_Row_hasParts_20 rfl rfl ⟨by rw [if_neg (by simp [p_two, c1, c2, c3])], rfl⟩
      · rw [nI_eq (by omega) (by omega)] at c3
        refine z_iconst (v := nI 1) d_Row_hasParts_15 (by decide) ?_
        refine z_goto (tgt := 20) d_Row_hasParts_16 rfl ?_
        exact z_ireturn d_Row_hasParts_20 rfl rfl ⟨by rw [if_pos (by simp [p_two, c3])], rfl⟩
theorem l_Row_endOf (HG : z_ok G) (hr : rowAt G h r l.length f) (hl : rl f l) : ∀ (m i k : Nat), i + m = l.length → k ≤ i + 1 →
    z_V G m_Row_endOf (d + 1) 4 [(0, .ref r), (2, .int (nI k)), (3, .int (nI i))] [] h (z_rq (some (.int (nI (i + p_end k (l.drop i))))) h) := by
  have hl40 := hl.len
  intro m
  induction m with
  | zero =>
    intro i k hi hk
    refine z_iload_n d_Row_endOf_4 rfl rfl ?_
    refine z_aload_n d_Row_endOf_5 rfl rfl ?_
    refine z_getf (L_Row_15K HG) (by decide) (L_Row_15 HG) d_Row_endOf_6 hr.1 (by rfl) ?_
    refine z_icmp_ge (tgt := 42) d_Row_endOf_9 rfl (fun c1 => ?_) (fun c1 => ?_)
    · refine z_iload_n d_Row_endOf_42 rfl rfl ?_
      exact z_ireturn d_Row_endOf_43 rfl rfl ⟨by rw [List.drop_eq_nil_of_le (by omega), p_end_nil, Nat.add_zero], rfl⟩
    · rw [nI_leI (by omega) (by omega)] at c1
      omega
  | succ m ih =>
    intro i k hi hk
    refine z_iload_n d_Row_endOf_4 rfl rfl ?_
    refine z_aload_n d_Row_endOf_5 rfl rfl ?_
    refine z_getf (L_Row_15K HG) (by decide) (L_Row_15 HG) d_Row_endOf_6 hr.1 (by rfl) ?_
    refine z_icmp_ge (tgt := 42) d_Row_endOf_9 rfl (fun c1 => ?_) (fun c1 => ?_)
    · rw [nI_leI (by omega) (by omega)] at c1
      omega
    · refine z_iload_n d_Row_endOf_12 rfl rfl ?_
      refine z_if_le (tgt := 42) d_Row_endOf_13 rfl (fun c2 => ?_) (fun c2 => ?_)
      · have hk0 : k = 0 := by
          rw [← nI_0, nI_leI (by omega) (by omega)] at c2
          omega
        subst hk0
        refine z_iload_n d_Row_endOf_42 rfl rfl ?_
        exact z_ireturn d_Row_endOf_43 rfl rfl ⟨by rw [p_end_zero, Nat.add_zero], rfl⟩
      · obtain ⟨k, rfl⟩ : ∃ q, k = q + 1 := by
          cases k with
          | zero => exact absurd (by rw [nI_0]; exact Int32.le_refl _) c2
          | succ q => exact ⟨q, rfl⟩
        refine z_iload_n d_Row_endOf_16 rfl rfl ?_
        refine z_aload_n d_Row_endOf_17 rfl rfl ?_
        refine z_getf (L_Row_9K HG) (by decide) (L_Row_9 HG) d_Row_endOf_18 hr.1 (by rfl) ?_
        refine z_iload_n d_Row_endOf_21 rfl rfl ?_
        refine z_iald d_Row_endOf_22 (ty0 HG) hr.2 (vp_in_nI (by omega) (by decide)) ?_
        rw [nI_clamp (by omega), hl.eq (by omega)]
        refine z_callS1r (dY := d) d_Row_endOf_23 rfl (by omega) (Y_Row_46 HG) (Nat.le_of_ble_eq_true rfl) (c_Row_hasParts HG (hl.lt (by omega))) ?_
        have hp : p_end (k + 1) (l.drop i) = p_end (if p_two (l.getD i 0) = true then k + 2 else k) (l.drop (i + 1)) + 1 := by
          rw [l_dc (by omega)]
          rfl
        rw [hp]
        by_cases ht : p_two (l.getD i 0) = true
        · rw [if_pos ht, if_pos ht]
          refine z_if_eq (tgt := 33) d_Row_endOf_26 rfl (fun c3 => ?_) (fun c3 => ?_)
          · exact absurd c3 (by decide)
          · refine z_iconst (v := nI 1) d_Row_endOf_29 (by decide) ?_
            refine z_goto (tgt := 34) d_Row_endOf_30 rfl ?_
            refine z_iadd d_Row_endOf_34 ?_
            rw [nI_add]
            refine z_istore_n d_Row_endOf_35 rfl (by decide) ?_
            refine z_iinc (v := nI (i + 1)) d_Row_endOf_36 rfl (i_inc i) (by decide) ?_
            refine z_goto (tgt := 4) d_Row_endOf_39 rfl ?_
            refine z_fg [(0, .ref r), (2, .int (nI (k + 2))), (3, .int (nI (i + 1)))] ⟨rfl, rfl, rfl, trivial⟩ ?_
            refine (ih (i + 1) (k + 2) (by omega) (by omega)).mono (fun q h' hq => ?_)
            rw [show i + 1 + p_end (k + 2) (l.drop (i + 1)) = i + (p_end (k + 2) (l.drop (i + 1)) + 1) by omega] at hq
            exact hq
        · rw [if_neg ht, if_neg ht]
          refine z_if_eq (tgt := 33) d_Row_endOf_26 rfl (fun c3 => ?_) (fun c3 => ?_)
          · refine z_iconst (v := -1) d_Row_endOf_33 (by decide) ?_
            refine z_iadd d_Row_endOf_34 ?_
            rw [pk_m1]
            refine z_istore_n d_Row_endOf_35 rfl (by decide) ?_
            refine z_iinc (v := nI (i + 1)) d_Row_endOf_36 rfl (i_inc i) (by decide) ?_
            refine z_goto (tgt := 4) d_Row_endOf_39 rfl ?_
            refine z_fg [(0, .ref r), (2, .int (nI k)), (3, .int (nI (i + 1)))] ⟨rfl, rfl, rfl, trivial⟩ ?_
            refine (ih (i + 1) k (by omega) (by omega)).mono (fun q h' hq => ?_)
            rw [show i + 1 + p_end k (l.drop (i + 1)) = i + (p_end k (l.drop (i + 1)) + 1) by omega] at hq
            exact hq
          · exact absurd (by rw [nI_0]) c3
theorem c_Row_endOf (HG : z_ok G) (hr : rowAt G h r l.length f) (hl : rl f l) {a : Nat} (ha : a ≤ l.length) : z_C G m_Row_endOf (d + 1) [.ref r, .int (nI a)] h (z_rq (some (.int (nI (a + p_end 1 (l.drop a))))) h) := by
  refine z_C.of (Nat.le_of_ble_eq_true rfl) ?_
  refine z_iconst (v := nI 1) d_Row_endOf_0 (by decide) ?_
  refine z_istore_n d_Row_endOf_1 rfl (by decide) ?_
  refine z_iload_n d_Row_endOf_2 rfl rfl ?_
  refine z_istore_n d_Row_endOf_3 rfl (by decide) ?_
  refine z_fg [(0, .ref r), (2, .int (nI 1)), (3, .int (nI a))] ⟨rfl, rfl, rfl, trivial⟩ ?_
  exact l_Row_endOf HG hr hl (l.length - a) a 1 (by omega) (by omega)
end RY
