/-! Row's methods: heads, counts, comparisons, copies, the constructor -/
def p_head : List Nat → Nat
  | [] => 0
  | v :: l => if v = 2 then p_head l + 1 else 0
theorem p_head_le : ∀ l : List Nat, p_head l ≤ l.length
  | [] => Nat.le_refl _
  | v :: l => by
    unfold p_head
    split
    · exact Nat.succ_le_succ (p_head_le l)
    · exact Nat.zero_le _
theorem k_app_rl {f g : Nat → Int32} {l : List Nat} (h : rl f l) : va_cpy f g 0 0 l.length = k_app g 0 l := by
  funext j
  unfold va_cpy k_app
  by_cases hj : j < l.length
  · rw [if_pos (by omega), if_pos (by omega), Nat.sub_zero, Nat.zero_add]
    exact h.eq hj
  · rw [if_neg (by omega), if_neg (by omega)]
section RZ
variable {G : z_G} {h : z_H} {d r s s2 n : Nat} {f fs fs2 : Nat → Int32} {l ls ls2 : List Nat}
theorem l_Row_headOf (HG : z_ok G) (hr : rowAt G h r l.length f) (hl : rl f l) : ∀ (m i : Nat), i + m = l.length →
    z_V G m_Row_headOf d 2 [(0, .ref r), (2, .int (nI i))] [] h (z_rq (some (.int (nI (i + p_head (l.drop i))))) h) := by
  have hl40 := hl.len
  intro m
  induction m with
  | zero =>
    intro i hi
    refine z_iload_n d_Row_headOf_2 rfl rfl ?_
    refine z_aload_n d_Row_headOf_3 rfl rfl ?_
    refine z_getf (L_Row_15K HG) (by decide) (L_Row_15 HG) d_Row_headOf_4 hr.1 (by rfl) ?_
    refine z_icmp_ge (tgt := 26) d_Row_headOf_7 rfl (fun c1 => ?_) (fun c1 => ?_)
    · refine z_iload_n d_Row_headOf_26 rfl rfl ?_
      exact z_ireturn d_Row_headOf_27 rfl rfl ⟨by rw [List.drop_eq_nil_of_le (by omega)]; rfl, rfl⟩
    · rw [nI_leI (by omega) (by omega)] at c1
      omega
  | succ m ih =>
    intro i hi
    refine z_iload_n d_Row_headOf_2 rfl rfl ?_
    refine z_aload_n d_Row_headOf_3 rfl rfl ?_
    refine z_getf (L_Row_15K HG) (by decide) (L_Row_15 HG) d_Row_headOf_4 hr.1 (by rfl) ?_
    refine z_icmp_ge (tgt := 26) d_Row_headOf_7 rfl (fun c1 => ?_) (fun c1 => ?_)
    · rw [nI_leI (by omega) (by omega)] at c1
      omega
    · refine z_aload_n d_Row_headOf_10 rfl rfl ?_
      refine z_getf (L_Row_9K HG) (by decide) (L_Row_9 HG) d_Row_headOf_11 hr.1 (by rfl) ?_
      refine z_iload_n d_Row_headOf_14 rfl rfl ?_
      refine z_iald d_Row_headOf_15 (ty0 HG) hr.2 (vp_in_nI (by omega) (by decide)) ?_
      rw [nI_clamp (by omega), hl.eq (by omega)]
      have hlt := hl.lt (i := i) (by omega)
      refine z_iconst (v := nI 2) d_Row_headOf_16 (by decide) ?_
      rw [l_dc (l := l) (i := i) (by omega)]
      refine z_icmp_ne (tgt := 26) d_Row_headOf_17 rfl (fun c2 => ?_) (fun c2 => ?_)
      · rw [nI_eq (by omega) (by omega)] at c2
        refine z_iload_n d_Row_headOf_26 rfl rfl ?_
        exact z_ireturn d_Row_headOf_27 rfl rfl ⟨by rw [p_head, if_neg c2]; rfl, rfl⟩
      · rw [nI_eq (by omega) (by omega)] at c2
        refine z_iinc (v := nI (i + 1)) d_Row_headOf_20 rfl (i_inc i) (by decide) ?_
        refine z_goto (tgt := 2) d_Row_headOf_23 rfl ?_
        refine z_fg [(0, .ref r), (2, .int (nI (i + 1)))] ⟨rfl, rfl, trivial⟩ ?_
        refine (ih (i + 1) (by omega)).mono (fun q h' hq => ?_)
        rw [p_head, if_pos c2, show i + (p_head (l.drop (i + 1)) + 1) = i + 1 + p_head (l.drop (i + 1)) by omega]
        exact hq
theorem c_Row_headOf (HG : z_ok G) (hr : rowAt G h r l.length f) (hl : rl f l) : z_C G m_Row_headOf d [.ref r, .int (nI 0)] h (z_rq (some (.int (nI (p_head l)))) h) := by
  refine z_C.of (Nat.le_of_ble_eq_true rfl) ?_
  refine z_iload_n d_Row_headOf_0 rfl rfl ?_
  refine z_istore_n d_Row_headOf_1 rfl (by decide) ?_
  refine z_fg [(0, .ref r), (2, .int (nI 0))] ⟨rfl, rfl, trivial⟩ ?_
  refine (l_Row_headOf HG hr hl l.length 0 (by omega)).mono (fun q h' hq => ?_)
  rw [Nat.zero_add, List.drop_zero] at hq
  exact hq
theorem l_Row_countOf (HG : z_ok G) (hr : rowAt G h r l.length f) (hl : rl f l) {v : Nat} (hv : v < 1000) : ∀ (m i k : Nat), i + m = l.length → k ≤ i →
    z_V G m_Row_countOf d 4 [(0, .ref r), (1, .int (nI v)), (2, .int (nI k)), (3, .int (nI i))] [] h (z_rq (some (.int (nI (k + (l.drop i).count v)))) h) := by
  have hl40 := hl.len
  intro m
  induction m with
  | zero =>
    intro i k hi hk
    refine z_iload_n d_Row_countOf_4 rfl rfl ?_
    refine z_aload_n d_Row_countOf_5 rfl rfl ?_
    refine z_getf (L_Row_15K HG) (by decide) (L_Row_15 HG) d_Row_countOf_6 hr.1 (by rfl) ?_
    refine z_icmp_ge (tgt := 31) d_Row_countOf_9 rfl (fun c1 => ?_) (fun c1 => ?_)
    · refine z_iload_n d_Row_countOf_31 rfl rfl ?_
      exact z_ireturn d_Row_countOf_32 rfl rfl ⟨by rw [List.drop_eq_nil_of_le (by omega)]; rfl, rfl⟩
    · rw [nI_leI (by omega) (by omega)] at c1
      omega
  | succ m ih =>
    intro i k hi hk
    refine z_iload_n d_Row_countOf_4 rfl rfl ?_
    refine z_aload_n d_Row_countOf_5 rfl rfl ?_
    refine z_getf (L_Row_15K HG) (by decide) (L_Row_15 HG) d_Row_countOf_6 hr.1 (by rfl) ?_
    refine z_icmp_ge (tgt := 31) d_Row_countOf_9 rfl (fun c1 => ?_) (fun c1 => ?_)
    · rw [nI_leI (by omega) (by omega)] at c1
      omega
    · refine z_aload_n d_Row_countOf_12 rfl rfl ?_
      refine z_getf (L_Row_9K HG) (by decide) (L_Row_9 HG) d_Row_countOf_13 hr.1 (by rfl) ?_
      refine z_iload_n d_Row_countOf_16 rfl rfl ?_
      refine z_iald d_Row_countOf_17 (ty0 HG) hr.2 (vp_in_nI (by omega) (by decide)) ?_
      rw [nI_clamp (by omega), hl.eq (by omega)]
      have hlt := hl.lt (i := i) (by omega)
      refine z_iload_n d_Row_countOf_18 rfl rfl ?_
      rw [l_dc (l := l) (i := i) (by omega)]
      refine z_icmp_ne (tgt := 25) d_Row_countOf_19 rfl (fun c2 => ?_) (fun c2 => ?_)
      · rw [nI_eq (by omega) (by omega)] at c2
        refine z_iinc (v := nI (i + 1)) d_Row_countOf_25 rfl (i_inc i) (by decide) ?_
        refine z_goto (tgt := 4) d_Row_countOf_28 rfl ?_
        refine z_fg [(0, .ref r), (1, .int (nI v)), (2, .int (nI k)), (3, .int (nI (i + 1)))] ⟨rfl, rfl, rfl, rfl, trivial⟩ ?_
        refine (ih (i + 1) k (by omega) (by omega)).mono (fun q h' hq => ?_)
        rw [List.count_cons_of_ne c2]
        exact hq
      · rw [nI_eq (by omega) (by omega)] at c2
        refine z_iinc (v := nI (k + 1)) d_Row_countOf_22 rfl (i_inc k) (by decide) ?_
        refine z_iinc (v := nI (i + 1)) d_Row_countOf_25 rfl (i_inc i) (by decide) ?_
        refine z_goto (tgt := 4) d_Row_countOf_28 rfl ?_
        refine z_fg [(0, .ref r), (1, .int (nI v)), (2, .int (nI (k + 1))), (3, .int (nI (i + 1)))] ⟨rfl, rfl, rfl, rfl, trivial⟩ ?_
        refine (ih (i + 1) (k + 1) (by omega) (by omega)).mono (fun q h' hq => ?_)
        rw [c2, List.count_cons_self, show k + (List.count v (l.drop (i + 1)) + 1) = k + 1 + List.count v (l.drop (i + 1)) by omega]
        exact hq
theorem c_Row_countOf (HG : z_ok G) (hr : rowAt G h r l.length f) (hl : rl f l) {v : Nat} (hv : v < 1000) : z_C G m_Row_countOf d [.ref r, .int (nI v)] h (z_rq (some (.int (nI (l.count v)))) h) := by
  refine z_C.of (Nat.le_of_ble_eq_true rfl) ?_
  refine z_iconst (v := nI 0) d_Row_countOf_0 (by decide) ?_
  refine z_istore_n d_Row_countOf_1 rfl (by decide) ?_
  refine z_iconst (v := nI 0) d_Row_countOf_2 (by decide) ?_
  refine z_istore_n d_Row_countOf_3 rfl (by decide) ?_
  refine z_fg [(0, .ref r), (1, .int (nI v)), (2, .int (nI 0)), (3, .int (nI 0))] ⟨rfl, rfl, rfl, rfl, trivial⟩ ?_
  refine (l_Row_countOf HG hr hl hv l.length 0 0 (by omega) (by omega)).mono (fun q h' hq => ?_)
  rw [Nat.zero_add, List.drop_zero] at hq
  exact hq
theorem l_Row_isPart (HG : z_ok G) {a : Nat} (hr : rowAt G h r l.length f) (hl : rl f l) (hs : rowAt G h s ls.length fs) (hls : rl fs ls) (hal : a + l.length ≤ ls.length) : ∀ (m i : Nat), i + m = l.length →
    z_V G m_Row_isPart (d + 1) 15 [(0, .ref r), (1, .ref s), (2, .int (nI a)), (4, .int (nI i))] [] h (z_rq (some (.int (if l.drop i = (ls.drop (a + i)).take (l.length - i) then nI 1 else nI 0))) h) := by
  have hl40 := hl.len
  have hls40 := hls.len
  intro m
  induction m with
  | zero =>
    intro i hi
    refine z_iload d_Row_isPart_15 rfl ?_
    refine z_aload_n d_Row_isPart_17 rfl rfl ?_
    refine z_getf (L_Row_15K HG) (by decide) (L_Row_15 HG) d_Row_isPart_18 hr.1 (by rfl) ?_
    refine z_icmp_ge (tgt := 50) d_Row_isPart_21 rfl (fun c1 => ?_) (fun c1 => ?_)
    · refine z_iconst (v := nI 1) d_Row_isPart_50 (by decide) ?_
      exact z_ireturn d_Row_isPart_51 rfl rfl ⟨by rw [if_pos]; rw [List.drop_eq_nil_of_le (by omega), show l.length - i = 0 by omega, List.take_zero], rfl⟩
    · rw [nI_leI (by omega) (by omega)] at c1
      omega
  | succ m ih =>
    intro i hi
    refine z_iload d_Row_isPart_15 rfl ?_
    refine z_aload_n d_Row_isPart_17 rfl rfl ?_
    refine z_getf (L_Row_15K HG) (by decide) (L_Row_15 HG) d_Row_isPart_18 hr.1 (by rfl) ?_
    refine z_icmp_ge (tgt := 50) d_Row_isPart_21 rfl (fun c1 => ?_) (fun c1 => ?_)
    · rw [nI_leI (by omega) (by omega)] at c1
      omega
    · refine z_aload_n d_Row_isPart_24 rfl rfl ?_
      refine z_getf (L_Row_9K HG) (by decide) (L_Row_9 HG) d_Row_isPart_25 hr.1 (by rfl) ?_
      refine z_iload d_Row_isPart_28 rfl ?_
      refine z_iald d_Row_isPart_30 (ty0 HG) hr.2 (vp_in_nI (by omega) (by decide)) ?_
      rw [nI_clamp (by omega), hl.eq (by omega)]
      refine z_aload_n d_Row_isPart_31 rfl rfl ?_
      refine z_iload_n d_Row_isPart_32 rfl rfl ?_
      refine z_iload d_Row_isPart_33 rfl ?_
      refine z_iadd d_Row_isPart_35 ?_
      rw [nI_add]
      refine z_callV1r (dY := d) d_Row_isPart_36 rfl (by omega) (Y_Row_22 HG) hs.1 (cl_Row HG) (Nat.le_of_ble_eq_true rfl) (c_Row_at HG hs hls40 (nI (a + i))) ?_
      rw [k_at_in fs (by omega) hls40, hls.eq (by omega)]
      have h1 := hl.lt (i := i) (by omega)
      have h2 := hls.lt (i := a + i) (by omega)
      rw [l_dc (l := l) (i := i) (by omega), show l.length - i = (l.length - (i + 1)) + 1 by omega, l_dt (l := ls) (i := a + i) (by omega)]
      refine z_icmp_eq (tgt := 44) d_Row_isPart_39 rfl (fun c2 => ?_) (fun c2 => ?_)
      · rw [nI_eq (by omega) (by omega)] at c2
        refine z_iinc (v := nI (i + 1)) d_Row_isPart_44 rfl (i_inc i) (by decide) ?_
        refine z_goto (tgt := 15) d_Row_isPart_47 rfl ?_
        refine z_fg [(0, .ref r), (1, .ref s), (2, .int (nI a)), (4, .int (nI (i + 1)))] ⟨rfl, rfl, rfl, rfl, trivial⟩ ?_
        refine (ih (i + 1) (by omega)).mono (fun q h' hq => ?_)
        rw [c2]
        rw [show a + (i + 1) = a + i + 1 by omega] at hq
        simp only [List.cons.injEq, true_and]
        exact hq
      · rw [nI_eq (by omega) (by omega)] at c2
        refine z_iconst (v := nI 0) d_Row_isPart_42 (by decide) ?_
        exact z_ireturn d_Row_isPart_43 rfl rfl ⟨by rw [if_neg (fun q => c2 (List.cons.inj q).1)], rfl⟩
theorem c_Row_isPart (HG : z_ok G) {a b : Nat} (hr : rowAt G h r l.length f) (hl : rl f l) (hs : rowAt G h s ls.length fs) (hls : rl fs ls) (hab : a ≤ b) (hb : b ≤ ls.length) :
    z_C G m_Row_isPart (d + 1) [.ref r, .ref s, .int (nI a), .int (nI b)] h (z_rq (some (.int (if l = (ls.drop a).take (b - a) then nI 1 else nI 0))) h) := by
  have hl40 := hl.len
  have hls40 := hls.len
  refine z_C.of (Nat.le_of_ble_eq_true rfl) ?_
  refine z_aload_n d_Row_isPart_0 rfl rfl ?_
  refine z_getf (L_Row_15K HG) (by decide) (L_Row_15 HG) d_Row_isPart_1 hr.1 (by rfl) ?_
  refine z_iload_n d_Row_isPart_4 rfl rfl ?_
  refine z_iload_n d_Row_isPart_5 rfl rfl ?_
  refine z_isub d_Row_isPart_6 ?_
  rw [pk_sub hab]
  refine z_icmp_eq (tgt := 12) d_Row_isPart_7 rfl (fun c1 => ?_) (fun c1 => ?_)
  · rw [nI_eq (by omega) (by omega)] at c1
    refine z_iconst (v := nI 0) d_Row_isPart_12 (by decide) ?_
    refine z_istore d_Row_isPart_13 (by decide) ?_
    refine z_fg [(0, .ref r), (1, .ref s), (2, .int (nI a)), (4, .int (nI 0))] ⟨rfl, rfl, rfl, rfl, trivial⟩ ?_
    refine (l_Row_isPart HG hr hl hs hls (by omega) l.length 0 (by omega)).mono (fun q h' hq => ?_)
    rw [List.drop_zero, Nat.add_zero, Nat.sub_zero, c1] at hq
    exact hq
  · rw [nI_eq (by omega) (by omega)] at c1
    refine z_iconst (v := nI 0) d_Row_isPart_10 (by decide) ?_
    refine z_ireturn d_Row_isPart_11 rfl rfl ⟨by rw [if_neg]; intro q; apply c1; rw [q, List.length_take, List.length_drop]; omega, rfl⟩
theorem c_Row_equalsRow (HG : z_ok G) (hr : rowAt G h r l.length f) (hl : rl f l) (hs : rowAt G h s ls.length fs) (hls : rl fs ls) :
    z_C G m_Row_equalsRow (d + 2) [.ref r, .ref s] h (z_rq (some (.int (if l = ls then nI 1 else nI 0))) h) := by
  refine z_C.of (Nat.le_of_ble_eq_true rfl) ?_
  refine z_aload_n d_Row_equalsRow_0 rfl rfl ?_
  refine z_aload_n d_Row_equalsRow_1 rfl rfl ?_
  refine z_iconst (v := nI 0) d_Row_equalsRow_2 (by decide) ?_
  refine z_aload_n d_Row_equalsRow_3 rfl rfl ?_
  refine z_getf (L_Row_15K HG) (by decide) (L_Row_15 HG) d_Row_equalsRow_4 hs.1 (by rfl) ?_
  refine z_callV3r (dY := d + 1) d_Row_equalsRow_7 rfl (by omega) (Y_Row_50 HG) hr.1 (cl_Row HG) (Nat.le_of_ble_eq_true rfl) (c_Row_isPart HG hr hl hs hls (Nat.zero_le _) (Nat.le_refl _)) ?_
  refine z_ireturn d_Row_equalsRow_10 rfl ?_ ⟨by rw [List.drop_zero, Nat.sub_zero, List.take_length], rfl⟩
  split <;> rfl
theorem c_Row_copy (HG : z_ok G) (hr : rowAt G h r n f) (hs : rowAt G h s ls.length fs) (hls : rl fs ls) (e1 : s ≠ r) (e2 : s ≠ r + 1) (e3 : s + 1 ≠ r) :
    z_C G m_Row_copy d [.ref r, .ref s] h (z_rq none (rset G h r ls.length (k_app f 0 ls))) := by
  have hls40 := hls.len
  refine z_C.of (Nat.le_of_ble_eq_true rfl) ?_
  refine z_aload_n d_Row_copy_0 rfl rfl ?_
  refine z_getf (L_Row_9K HG) (by decide) (L_Row_9 HG) d_Row_copy_1 hs.1 (by rfl) ?_
  refine z_iconst (v := nI 0) d_Row_copy_4 (by decide) ?_
  refine z_aload_n d_Row_copy_5 rfl rfl ?_
  refine z_getf (L_Row_9K HG) (by decide) (L_Row_9 HG) d_Row_copy_6 hr.1 (by rfl) ?_
  refine z_iconst (v := nI 0) d_Row_copy_9 (by decide) ?_
  refine z_aload_n d_Row_copy_10 rfl rfl ?_
  refine z_getf (L_Row_15K HG) (by decide) (L_Row_15 HG) d_Row_copy_11 hs.1 (by rfl) ?_
  refine z_copy d_Row_copy_14 (ty0 HG) (w_ac1 HG) (w_ac2 HG) (w_ac3 HG) (w_ac4 HG) hs.2 hr.2 (nI_pos (by decide)) (nI_pos (by decide)) (nI_pos (by omega)) (by rw [nI_clamp (by decide), nI_clamp (by omega)]; omega) (by rw [nI_clamp (by decide), nI_clamp (by omega)]; omega) (by decide) ?_
  rw [nI_clamp (by decide), nI_clamp (by omega), k_app_rl hls]
  have hs1 : (z_set h (r + 1) (.inl (G.ca 0, 40, .inl (k_app f 0 ls)))).2.2 s = some (k_row s ls.length) := (va_up_ne _ _ e2).trans hs.1
  have hr1 : (z_set h (r + 1) (.inl (G.ca 0, 40, .inl (k_app f 0 ls)))).2.2 r = some (k_row r n) := (va_up_ne _ _ (by omega)).trans hr.1
  refine z_aload_n d_Row_copy_17 rfl rfl ?_
  refine z_aload_n d_Row_copy_18 rfl rfl ?_
  refine z_getf (L_Row_15K HG) (by decide) (L_Row_15 HG) d_Row_copy_19 hs1 (by rfl) ?_
  refine z_putf (L_Row_15K HG) (by decide) (L_Row_15 HG) rfl d_Row_copy_22 hr1 rfl rfl (Nat.le_of_ble_eq_true rfl) ?_
  exact z_return d_Row_copy_25 rfl ⟨rfl, rfl⟩
theorem c_Row_join (HG : z_ok G) {v : Nat} (hr : rowAt G h r n f) (hs : rowAt G h s ls.length fs) (hls : rl fs ls) (hs2 : rowAt G h s2 ls2.length fs2) (hls2 : rl fs2 ls2) (e1 : s ≠ r) (e2 : s ≠ r + 1) (e3 : s + 1 ≠ r) (g1 : s2 ≠ r) (g2 : s2 ≠ r + 1) (g3 : s2 + 1 ≠ r) (hm : 1 + ls.length + ls2.length ≤ 40) :
    z_C G m_Row_join (d + 2) [.ref r, .int (nI v), .ref s, .ref s2] h (z_rq none (rset G h r (1 + ls.length + ls2.length) (k_app f 0 (v :: (ls ++ ls2))))) := by
  refine z_C.of (Nat.le_of_ble_eq_true rfl) ?_
  refine z_aload_n d_Row_join_0 rfl rfl ?_
  refine z_iload_n d_Row_join_1 rfl rfl ?_
  refine z_callV1v (dY := d + 1) d_Row_join_2 rfl (by omega) (Y_Row_39 HG) hr.1 (cl_Row HG) (Nat.le_of_ble_eq_true rfl) (c_Row_become HG hr (nI v)) ?_
  have hr1 := rset_at G h r 1 (upd f 0 (nI v))
  have hs1 := rset_row 1 (upd f 0 (nI v)) hs e1 e2 e3
  have hs21 := rset_row 1 (upd f 0 (nI v)) hs2 g1 g2 g3
  refine z_aload_n d_Row_join_5 rfl rfl ?_
  refine z_aload_n d_Row_join_6 rfl rfl ?_
  refine z_iconst (v := nI 0) d_Row_join_7 (by decide) ?_
  refine z_aload_n d_Row_join_8 rfl rfl ?_
  refine z_getf (L_Row_15K HG) (by decide) (L_Row_15 HG) d_Row_join_9 hs1.1 (by rfl) ?_
  refine z_callV3v (dY := d + 1) d_Row_join_12 rfl (by omega) (Y_Row_42 HG) hr1.1 (cl_Row HG) (Nat.le_of_ble_eq_true rfl) (c_Row_appendPart HG hr1 hs1 hls (Nat.zero_le _) (Nat.le_refl _) e1 e2 e3 (by omega)) ?_
  rw [rset_rset, List.drop_zero, Nat.sub_zero, List.take_length]
  have hr2 := rset_at G h r (1 + ls.length) (k_app (upd f 0 (nI v)) 1 ls)
  have hs22 := rset_row (1 + ls.length) (k_app (upd f 0 (nI v)) 1 ls) hs2 g1 g2 g3
  refine z_aload_n d_Row_join_15 rfl rfl ?_
  refine z_aload_n d_Row_join_16 rfl rfl ?_
  refine z_iconst (v := nI 0) d_Row_join_17 (by decide) ?_
  refine z_aload_n d_Row_join_18 rfl rfl ?_
  refine z_getf (L_Row_15K HG) (by decide) (L_Row_15 HG) d_Row_join_19 hs22.1 (by rfl) ?_
  refine z_callV3v (dY := d + 1) d_Row_join_22 rfl (by omega) (Y_Row_42 HG) hr2.1 (cl_Row HG) (Nat.le_of_ble_eq_true rfl) (c_Row_appendPart HG hr2 hs22 hls2 (Nat.zero_le _) (Nat.le_refl _) g1 g2 g3 (by omega)) ?_
  rw [rset_rset, List.drop_zero, Nat.sub_zero, List.take_length]
  refine z_return d_Row_join_25 rfl ⟨rfl, ?_⟩
  rw [← k_app_cons f 0 v (ls ++ ls2), ← k_app_app]
theorem c_Row_joinX (HG : z_ok G) {v : Nat} (hrm : z_rm G h) (hr : rowAt G h r n f) (hs : rowAt G h s ls.length fs) (hls : rl fs ls) (hs2 : rowAt G h s2 ls2.length fs2) (hls2 : rl fs2 ls2) (e1 : s ≠ r) (e2 : s ≠ r + 1) (e3 : s + 1 ≠ r) (g1 : s2 ≠ r) (g2 : s2 ≠ r + 1) (g3 : s2 + 1 ≠ r) (hm : 40 < 1 + ls.length + ls2.length) :
    z_C G m_Row_join (d + 2) [.ref r, .int (nI v), .ref s, .ref s2] h (z_xq "java/lang/ArithmeticException" (fun h' => ∃ f', h' = z_exc (rset G h r 40 f'))) := by
  have hl40 := hls.len
  refine z_C.of (Nat.le_of_ble_eq_true rfl) ?_
  refine z_aload_n d_Row_join_0 rfl rfl ?_
  refine z_iload_n d_Row_join_1 rfl rfl ?_
  refine z_callV1v (dY := d + 1) d_Row_join_2 rfl (by omega) (Y_Row_39 HG) hr.1 (cl_Row HG) (Nat.le_of_ble_eq_true rfl) (c_Row_become HG hr (nI v)) ?_
  have hr1 := rset_at G h r 1 (upd f 0 (nI v))
  have hs1 := rset_row 1 (upd f 0 (nI v)) hs e1 e2 e3
  have hs21 := rset_row 1 (upd f 0 (nI v)) hs2 g1 g2 g3
  refine z_aload_n d_Row_join_5 rfl rfl ?_
  refine z_aload_n d_Row_join_6 rfl rfl ?_
  refine z_iconst (v := nI 0) d_Row_join_7 (by decide) ?_
  refine z_aload_n d_Row_join_8 rfl rfl ?_
  refine z_getf (L_Row_15K HG) (by decide) (L_Row_15 HG) d_Row_join_9 hs1.1 (by rfl) ?_
  by_cases hf : 1 + ls.length ≤ 40
  · refine z_callV3v (dY := d + 1) d_Row_join_12 rfl (by omega) (Y_Row_42 HG) hr1.1 (cl_Row HG) (Nat.le_of_ble_eq_true rfl) (c_Row_appendPart HG hr1 hs1 hls (Nat.zero_le _) (Nat.le_refl _) e1 e2 e3 (by omega)) ?_
    rw [rset_rset, List.drop_zero, Nat.sub_zero, List.take_length]
    have hr2 := rset_at G h r (1 + ls.length) (k_app (upd f 0 (nI v)) 1 ls)
    have hs22 := rset_row (1 + ls.length) (k_app (upd f 0 (nI v)) 1 ls) hs2 g1 g2 g3
    refine z_aload_n d_Row_join_15 rfl rfl ?_
    refine z_aload_n d_Row_join_16 rfl rfl ?_
    refine z_iconst (v := nI 0) d_Row_join_17 (by decide) ?_
    refine z_aload_n d_Row_join_18 rfl rfl ?_
    refine z_getf (L_Row_15K HG) (by decide) (L_Row_15 HG) d_Row_join_19 hs22.1 (by rfl) ?_
    exact z_callV3x (dY := d + 1) d_Row_join_22 rfl (by omega) (Y_Row_42 HG) hr2.1 (cl_Row HG) (Nat.le_of_ble_eq_true rfl) (c_Row_appendPartX HG (hrm.rset ..) hr2 hs22 hls2 (Nat.zero_le _) (Nat.le_refl _) g1 g2 g3 hf (by omega)) (fun h' hh => by
      obtain ⟨f', hh⟩ := hh
      exact ⟨rfl, f', by rw [hh, rset_rset]⟩)
  · exact z_callV3x (dY := d + 1) d_Row_join_12 rfl (by omega) (Y_Row_42 HG) hr1.1 (cl_Row HG) (Nat.le_of_ble_eq_true rfl) (c_Row_appendPartX HG (hrm.rset ..) hr1 hs1 hls (Nat.zero_le _) (Nat.le_refl _) e1 e2 e3 (by omega) (by omega)) (fun h' hh => by
      obtain ⟨f', hh⟩ := hh
      exact ⟨rfl, f', by rw [hh, rset_rset]⟩)
end RZ
