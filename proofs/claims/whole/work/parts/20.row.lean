/-! Row's methods -/
theorem i_in {i : Int32} {n N : Nat} (c1 : ¬ i < 0) (c2 : ¬ nI n ≤ i) (hn : n ≤ N) (hN : N < 2 ^ 31) : vp_in i N := by
  rcases pk_ix i (n := n) (by omega) with h | h | ⟨j, hj, rfl⟩
  · exact absurd h c1
  · exact absurd h c2
  · exact vp_in_nI (by omega) hN
def k_at (n : Nat) (f : Nat → Int32) (i : Int32) : Int32 := if i < 0 then -1 else if nI n ≤ i then -1 else f i.toNatClampNeg
theorem k_at_in {n j : Nat} (f : Nat → Int32) (hj : j < n) (hn : n ≤ 40) : k_at n f (nI j) = f j := by
  unfold k_at
  rw [if_neg (nI_pos (by omega)), if_neg (nI_ge hj (by omega)), nI_clamp (by omega)]
theorem k_at_out {n j : Nat} (f : Nat → Int32) (hj : n ≤ j) (hn : j < 2 ^ 31) : k_at n f (nI j) = -1 := by
  unfold k_at
  rw [if_neg (nI_pos hn), if_pos (nI_le hj hn)]
section RW
variable {G : z_G} {h : z_H} {d r n : Nat} {f : Nat → Int32}
theorem c_Row_at (HG : z_ok G) (hr : rowAt G h r n f) (hn : n ≤ 40) (i : Int32) : z_C G m_Row_at d [.ref r, .int i] h (z_rq (some (.int (k_at n f i))) h) := by
  refine z_C.of (Nat.le_of_ble_eq_true rfl) ?_
  refine z_iload_n d_Row_at_0 rfl rfl ?_
  refine z_if_lt (tgt := 21) d_Row_at_1 rfl (fun c1 => ?_) (fun c1 => ?_)
  · refine z_iconst (v := -1) d_Row_at_21 (by decide) ?_
    exact z_ireturn d_Row_at_22 rfl rfl ⟨by rw [k_at, if_pos c1], rfl⟩
  · refine z_iload_n d_Row_at_4 rfl rfl ?_
    refine z_aload_n d_Row_at_5 rfl rfl ?_
    refine z_getf (L_Row_15K HG) (by decide) (L_Row_15 HG) d_Row_at_6 hr.1 (by rfl) ?_
    refine z_icmp_ge (tgt := 21) d_Row_at_9 rfl (fun c2 => ?_) (fun c2 => ?_)
    · refine z_iconst (v := -1) d_Row_at_21 (by decide) ?_
      exact z_ireturn d_Row_at_22 rfl rfl ⟨by rw [k_at, if_neg c1, if_pos c2], rfl⟩
    · refine z_aload_n d_Row_at_12 rfl rfl ?_
      refine z_getf (L_Row_9K HG) (by decide) (L_Row_9 HG) d_Row_at_13 hr.1 (by rfl) ?_
      refine z_iload_n d_Row_at_16 rfl rfl ?_
      refine z_iald d_Row_at_17 (ty0 HG) hr.2 (i_in c1 c2 hn (by decide)) ?_
      refine z_goto (tgt := 22) d_Row_at_18 rfl ?_
      exact z_ireturn d_Row_at_22 rfl rfl ⟨by rw [k_at, if_neg c1, if_neg c2], rfl⟩
theorem c_Row_is (HG : z_ok G) (hr : rowAt G h r n f) (hn : n ≤ 40) (v : Int32) : z_C G m_Row_is d [.ref r, .int v] h (z_rq (some (.int (if n = 1 ∧ f 0 = v then nI 1 else nI 0))) h) := by
  refine z_C.of (Nat.le_of_ble_eq_true rfl) ?_
  refine z_aload_n d_Row_is_0 rfl rfl ?_
  refine z_getf (L_Row_15K HG) (by decide) (L_Row_15 HG) d_Row_is_1 hr.1 (by rfl) ?_
  refine z_iconst (v := nI 1) d_Row_is_4 (by decide) ?_
  refine z_icmp_ne (tgt := 22) d_Row_is_5 rfl (fun c1 => ?_) (fun c1 => ?_)
  · rw [nI_eq (by omega) (by omega)] at c1
    refine z_iconst (v := nI 0) d_Row_is_22 (by decide) ?_
    exact z_ireturn d_Row_is_23 rfl rfl ⟨by rw [if_neg (fun q => c1 q.1)], rfl⟩
  · rw [nI_eq (by omega) (by omega)] at c1
    refine z_aload_n d_Row_is_8 rfl rfl ?_
    refine z_getf (L_Row_9K HG) (by decide) (L_Row_9 HG) d_Row_is_9 hr.1 (by rfl) ?_
    refine z_iconst (v := nI 0) d_Row_is_12 (by decide) ?_
    refine z_iald d_Row_is_13 (ty0 HG) hr.2 (vp_in_nI (by decide) (by decide)) ?_
    rw [nI_clamp (by decide)]
    refine z_iload_n d_Row_is_14 rfl rfl ?_
    refine z_icmp_ne (tgt := 22) d_Row_is_15 rfl (fun c2 => ?_) (fun c2 => ?_)
    · refine z_iconst (v := nI 0) d_Row_is_22 (by decide) ?_
      exact z_ireturn d_Row_is_23 rfl rfl ⟨by rw [if_neg (fun q => c2 q.2)], rfl⟩
    · refine z_iconst (v := nI 1) d_Row_is_18 (by decide) ?_
      refine z_goto (tgt := 23) d_Row_is_19 rfl ?_
      exact z_ireturn d_Row_is_23 rfl rfl ⟨by rw [if_pos ⟨c1, c2⟩], rfl⟩
theorem c_Row_clear (HG : z_ok G) (hr : rowAt G h r n f) : z_C G m_Row_clear d [.ref r] h (z_rq none (rset G h r 0 f)) := by
  refine z_C.of (Nat.le_of_ble_eq_true rfl) ?_
  refine z_aload_n d_Row_clear_0 rfl rfl ?_
  refine z_iconst (v := nI 0) d_Row_clear_1 (by decide) ?_
  refine z_putf (L_Row_15K HG) (by decide) (L_Row_15 HG) rfl d_Row_clear_2 hr.1 rfl rfl (Nat.le_of_ble_eq_true rfl) ?_
  exact z_return d_Row_clear_5 rfl ⟨rfl, rset_len 0 hr⟩
theorem c_Row_append (HG : z_ok G) (hr : rowAt G h r n f) (hn : n < 40) (v : Int32) : z_C G m_Row_append d [.ref r, .int v] h (z_rq none (rset G h r (n + 1) (upd f n v))) := by
  refine z_C.of (Nat.le_of_ble_eq_true rfl) ?_
  refine z_aload_n d_Row_append_0 rfl rfl ?_
  refine z_getf (L_Row_15K HG) (by decide) (L_Row_15 HG) d_Row_append_1 hr.1 (by rfl) ?_
  refine z_bipush (v := nI 40) d_Row_append_4 (by decide +kernel) ?_
  refine z_icmp_ne (tgt := 17) d_Row_append_6 rfl (fun c1 => ?_) (fun c1 => ?_)
  · refine z_aload_n d_Row_append_17 rfl rfl ?_
    refine z_getf (L_Row_9K HG) (by decide) (L_Row_9 HG) d_Row_append_18 hr.1 (by rfl) ?_
    refine z_aload_n d_Row_append_21 rfl rfl ?_
    refine z_getf (L_Row_15K HG) (by decide) (L_Row_15 HG) d_Row_append_22 hr.1 (by rfl) ?_
    refine z_iload_n d_Row_append_25 rfl rfl ?_
    refine z_iast d_Row_append_26 (ty0 HG) hr.2 (vp_in_nI hn (by decide)) ?_
    rw [nI_clamp (by omega)]
    have hr' : (z_set h (r + 1) (.inl (G.ca 0, 40, .inl (upd f n v)))).2.2 r = some (k_row r n) := (va_up_ne _ _ (by omega)).trans hr.1
    refine z_aload_n d_Row_append_27 rfl rfl ?_
    refine z_dup d_Row_append_28 rfl ?_
    refine z_getf (L_Row_15K HG) (by decide) (L_Row_15 HG) d_Row_append_29 hr' (by rfl) ?_
    refine z_iconst (v := nI 1) d_Row_append_32 (by decide) ?_
    refine z_iadd d_Row_append_33 ?_
    refine z_putf (L_Row_15K HG) (by decide) (L_Row_15 HG) rfl d_Row_append_34 hr' rfl rfl (Nat.le_of_ble_eq_true rfl) ?_
    rw [nI_add]
    exact z_return d_Row_append_37 rfl ⟨rfl, rfl⟩
  · rw [nI_eq (by omega) (by omega)] at c1
    omega
theorem c_Row_appendX (HG : z_ok G) (hr : rowAt G h r 40 f) (hrm : z_rm G h) (v : Int32) : z_C G m_Row_append d [.ref r, .int v] h (z_xq "java/lang/ArithmeticException" (fun h' => h' = z_exc h)) := by
  refine z_C.of (Nat.le_of_ble_eq_true rfl) ?_
  refine z_aload_n d_Row_append_0 rfl rfl ?_
  refine z_getf (L_Row_15K HG) (by decide) (L_Row_15 HG) d_Row_append_1 hr.1 (by rfl) ?_
  refine z_bipush (v := nI 40) d_Row_append_4 (by decide +kernel) ?_
  refine z_icmp_ne (tgt := 17) d_Row_append_6 rfl (fun c1 => ?_) (fun c1 => ?_)
  · exact absurd rfl c1
  · exact z_throw d_Row_append_9 d_Row_append_12 d_Row_append_13 d_Row_append_16 rfl (by decide +kernel) (t_Row_19 HG) hrm.1 hrm.2 (by decide) ⟨rfl, rfl⟩
theorem c_Row_become (HG : z_ok G) (hr : rowAt G h r n f) (v : Int32) : z_C G m_Row_become (d + 1) [.ref r, .int v] h (z_rq none (rset G h r 1 (upd f 0 v))) := by
  refine z_C.of (Nat.le_of_ble_eq_true rfl) ?_
  refine z_aload_n d_Row_become_0 rfl rfl ?_
  refine z_callV0v (dY := d) d_Row_become_1 rfl (by omega) (Y_Row_30 HG) hr.1 (cl_Row HG) (by decide) (c_Row_clear HG hr) ?_
  refine z_aload_n d_Row_become_4 rfl rfl ?_
  refine z_iload_n d_Row_become_5 rfl rfl ?_
  have hr' := rset_at G h r 0 f
  refine z_callV1v (dY := d) d_Row_become_6 rfl (by omega) (Y_Row_26 HG) hr'.1 (cl_Row HG) (by decide) (c_Row_append HG hr' (by decide) v) ?_
  exact z_return d_Row_become_9 rfl ⟨rfl, rset_rset ..⟩
end RW
