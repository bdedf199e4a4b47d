/-! the law's helpers -/
section LH
variable {G : z_G} {h : z_H} {d o : Nat} {K : pK}
theorem KAt.keep {h' : z_H} (H : KAt G h o K) (k : ∀ y, o ≤ y ∧ y ≤ o + 117 → h'.2.2 y = h.2.2 y) : KAt G h' o K := by
  obtain ⟨a, b, c, d, e, f, ⟨x, g⟩, i⟩ := H
  exact ⟨a.keep (fun y hy => k y (by omega)), (k o (by omega)).trans b, c.keep (fun y hy => k y (by omega)), d.keep (fun y hy => k y (by omega)), e.keep (k _ (by omega)) (fun y hy => k y (by omega)), f.keep (fun y hy => k y (by omega)), ⟨x, g.keep (fun y hy => k y (by omega))⟩, i.kept (fun y hy => k y (by omega))⟩
theorem nc_AE_IAE (HG : z_ok G) : Cond.not (.castable "java/lang/ArithmeticException" "java/lang/IllegalArgumentException") ∈ G.Ts := HG.mem (k_inn 13 (by decide +kernel) rfl)
theorem nc_AE_ISE (HG : z_ok G) : Cond.not (.castable "java/lang/ArithmeticException" "java/lang/IllegalStateException") ∈ G.Ts := HG.mem (k_inn 9 (by decide +kernel) rfl)
theorem nc_AE_UOE (HG : z_ok G) : Cond.not (.castable "java/lang/ArithmeticException" "java/lang/UnsupportedOperationException") ∈ G.Ts := HG.mem (k_inn 0 (by decide +kernel) rfl)
theorem nc_IAE_ISE (HG : z_ok G) : Cond.not (.castable "java/lang/IllegalArgumentException" "java/lang/IllegalStateException") ∈ G.Ts := HG.mem (k_inn 11 (by decide +kernel) rfl)
theorem nc_IAE_UOE (HG : z_ok G) : Cond.not (.castable "java/lang/IllegalArgumentException" "java/lang/UnsupportedOperationException") ∈ G.Ts := HG.mem (k_inn 3 (by decide +kernel) rfl)
theorem nc_UOE_IOB (HG : z_ok G) : Cond.not (.castable "java/lang/UnsupportedOperationException" "java/lang/IndexOutOfBoundsException") ∈ G.Ts := HG.mem (k_inn 4 (by decide +kernel) rfl)
theorem nc_UOE_ISE (HG : z_ok G) : Cond.not (.castable "java/lang/UnsupportedOperationException" "java/lang/IllegalStateException") ∈ G.Ts := HG.mem (k_inn 8 (by decide +kernel) rfl)
def lw_q (G : z_G) (o : Nat) (K : pK) (h : z_H) (l : List String) (res : String ⊕ (Option Value × pK)) : z_R → z_H → Prop := fun r h' => r = .inl (some (.int (nI (kcode l res)))) ∧ KAt G h' o (knext K res) ∧ (∀ y, y < o ∨ o + 117 < y → h'.2.2 y = h.2.2 y) ∧ h'.1 ≤ h.1 + 1 ∧ h'.2.1 ≤ h.2.1 + 6
def k_lg (G : z_G) (f : Nat → Int64) : va_E := .inl (G.ca 1, 1, .inr (.inl f))
def lw_o (G : z_G) (o : Nat) (K : pK) (h : z_H) (l : List String) (cv : Int32 → Int64) (res : String ⊕ (Option Value × pK)) : z_R → z_H → Prop := fun r h' => r = .inl (some (.int (nI (kcode l res)))) ∧ KAt G h' o (knext K res) ∧ (∀ y, y < o ∨ o + 117 < y → y ≠ o + 129 → h'.2.2 y = h.2.2 y) ∧ (h'.1 ≤ h.1 + 1 ∧ h'.2.1 ≤ h.2.1 + 6) ∧ ∃ f, h'.2.2 (o + 129) = some (k_lg G f) ∧ ∀ v x, res = .inr v → v.1 = some (.int x) → f 0 = cv x
def cv_b (x : Int32) : Int64 := if x = 0 then Int64.ofNat 0 else Int64.ofNat 1
theorem c_Lw_sort (HG : z_ok G) (hrm : z_rm G h) (H : KAt G h o K) : z_C G m_Lw_sort (d + 3) [.ref o] h (lw_q G o K h [z_UOE] (k_sort K)) := by
  refine z_C.of (Nat.le_of_ble_eq_true rfl) ?_
  refine z_aload_n d_Lw_sort_0 rfl rfl ?_
  refine z_callVH (as := []) (dY := d + 2) d_Lw_sort_1 (by omega) (Y_Lw_7 HG) rfl H.2.1 (cl_TK HG) (Nat.le_of_ble_eq_true rfl) (c_TK_sort (d := d) HG hrm H) (fun v h' hq => ?_) (fun X h' hq => ?_)
  · cases hk : k_sort K with
    | inl X =>
      rw [hk] at hq
      obtain ⟨q1, -⟩ := hq
      cases q1
    | inr w =>
      rw [hk] at hq
      obtain ⟨q1, q2, q3⟩ := hq
      cases q1
      have hv := kv_sort w hk
      rw [hv]
      refine z_goto (tgt := 10) d_Lw_sort_4 rfl ?_
      refine z_iconst (v := nI 0) d_Lw_sort_10 (by decide) ?_
      exact z_ireturn d_Lw_sort_11 rfl rfl ⟨rfl, q2, q3.2.2, by rw [q3.1]; omega, by rw [q3.2.1]; omega⟩
  · cases hk : k_sort K with
    | inr w =>
      rw [hk] at hq
      obtain ⟨q1, -⟩ := hq
      cases q1
    | inl X' =>
      rw [hk] at hq
      obtain ⟨q1, h1, rfl, q2, q3⟩ := hq
      cases q1
      have kz : KAt G (z_exc h1) o K := q2.keep (fun y hy => rfl)
      have s1 : (z_exc h1).1 ≤ h.1 + 1 := by
        show h1.1 + 1 ≤ _
        rw [q3.1]
        exact Nat.le_refl _
      have s2 : (z_exc h1).2.1 ≤ h.2.1 + 6 := by
        show h1.2.1 + 6 ≤ _
        rw [q3.2.1]
        exact Nat.le_refl _
      have hX := kx_sort hk
      subst hX
      refine ⟨[], (0, 4, 7, 12), _, rfl, ?_, ⟨⟨by decide, by decide⟩, by decide, w_c_Lw_12 HG⟩, fun a => ?_⟩
      · intro y hy
        cases hy
      · show z_V G m_Lw_sort (d + 3) 7 _ [.ref a] _ _
        refine z_astore_n d_Lw_sort_7 rfl (by decide) ?_
        refine z_iconst (v := nI 1) d_Lw_sort_8 (by decide) ?_
        exact z_ireturn d_Lw_sort_9 rfl rfl ⟨by rw [show kcode [z_UOE] (.inl z_UOE) = 1 by decide +kernel], kz, q3.2.2, s1, s2⟩
theorem c_Lw_constant (HG : z_ok G) (hrm : z_rm G h) (H : KAt G h o K) (Pk : pok K) (i : Int32) : z_C G m_Lw_constant (d + 3) [.ref o, .int i] h (lw_q G o K h [z_IOB, z_UOE] (k_const K i)) := by
  refine z_C.of (Nat.le_of_ble_eq_true rfl) ?_
  refine z_aload_n d_Lw_constant_0 rfl rfl ?_
  refine z_iload_n d_Lw_constant_1 rfl rfl ?_
  refine z_callVH (as := [.int i]) (dY := d + 2) d_Lw_constant_2 (by omega) (Y_Lw_14 HG) rfl H.2.1 (cl_TK HG) (Nat.le_of_ble_eq_true rfl) (c_TK_constant (d := d) HG hrm H Pk i) (fun v h' hq => ?_) (fun X h' hq => ?_)
  · cases hk : k_const K i with
    | inl X =>
      rw [hk] at hq
      obtain ⟨q1, -⟩ := hq
      cases q1
    | inr w =>
      rw [hk] at hq
      obtain ⟨q1, q2, q3⟩ := hq
      cases q1
      have hv := kv_const w hk
      rw [hv]
      refine z_goto (tgt := 14) d_Lw_constant_5 rfl ?_
      refine z_iconst (v := nI 0) d_Lw_constant_14 (by decide) ?_
      exact z_ireturn d_Lw_constant_15 rfl rfl ⟨rfl, q2, q3.2.2, by rw [q3.1]; omega, by rw [q3.2.1]; omega⟩
  · cases hk : k_const K i with
    | inr w =>
      rw [hk] at hq
      obtain ⟨q1, -⟩ := hq
      cases q1
    | inl X' =>
      rw [hk] at hq
      obtain ⟨q1, h1, rfl, q2, q3⟩ := hq
      cases q1
      have kz : KAt G (z_exc h1) o K := q2.keep (fun y hy => rfl)
      have s1 : (z_exc h1).1 ≤ h.1 + 1 := by
        show h1.1 + 1 ≤ _
        rw [q3.1]
        exact Nat.le_refl _
      have s2 : (z_exc h1).2.1 ≤ h.2.1 + 6 := by
        show h1.2.1 + 6 ≤ _
        rw [q3.2.1]
        exact Nat.le_refl _
      rcases kx_const hk with rfl | rfl
      · refine ⟨[], (0, 5, 8, 18), _, rfl, ?_, ⟨⟨by decide, by decide⟩, by decide, w_c_Lw_18 HG⟩, fun a => ?_⟩
        · intro y hy
          cases hy
        · show z_V G m_Lw_constant (d + 3) 8 _ [.ref a] _ _
          refine z_astore_n d_Lw_constant_8 rfl (by decide) ?_
          refine z_iconst (v := nI 1) d_Lw_constant_9 (by decide) ?_
          exact z_ireturn d_Lw_constant_10 rfl rfl ⟨by rw [show kcode [z_IOB, z_UOE] (.inl z_IOB) = 1 by decide +kernel], kz, q3.2.2, s1, s2⟩
      · refine ⟨[(0, 5, 8, 18)], (0, 5, 11, 12), _, rfl, ?_, ⟨⟨by decide, by decide⟩, by decide, w_c_Lw_12 HG⟩, fun a => ?_⟩
        · intro y hy
          simp only [List.mem_cons, List.not_mem_nil, or_false] at hy
          subst hy
          exact ⟨_, by decide, w_c_Lw_18 HG, nc_UOE_IOB HG⟩
        · show z_V G m_Lw_constant (d + 3) 11 _ [.ref a] _ _
          refine z_astore_n d_Lw_constant_11 rfl (by decide) ?_
          refine z_iconst (v := nI 2) d_Lw_constant_12 (by decide) ?_
          exact z_ireturn d_Lw_constant_13 rfl rfl ⟨by rw [show kcode [z_IOB, z_UOE] (.inl z_UOE) = 2 by decide +kernel], kz, q3.2.2, s1, s2⟩
theorem c_Lw_variable (HG : z_ok G) (hrm : z_rm G h) (H : KAt G h o K) (Pk : pok K) (i : Int32) : z_C G m_Lw_variable (d + 3) [.ref o, .int i] h (lw_q G o K h [z_IOB, z_UOE] (k_var K i)) := by
  refine z_C.of (Nat.le_of_ble_eq_true rfl) ?_
  refine z_aload_n d_Lw_variable_0 rfl rfl ?_
  refine z_iload_n d_Lw_variable_1 rfl rfl ?_
  refine z_callVH (as := [.int i]) (dY := d + 2) d_Lw_variable_2 (by omega) (Y_Lw_20 HG) rfl H.2.1 (cl_TK HG) (Nat.le_of_ble_eq_true rfl) (c_TK_variable (d := d) HG hrm H Pk i) (fun v h' hq => ?_) (fun X h' hq => ?_)
  · cases hk : k_var K i with
    | inl X =>
      rw [hk] at hq
      obtain ⟨q1, -⟩ := hq
      cases q1
    | inr w =>
      rw [hk] at hq
      obtain ⟨q1, q2, q3⟩ := hq
      cases q1
      have hv := kv_var w hk
      rw [hv]
      refine z_goto (tgt := 14) d_Lw_variable_5 rfl ?_
      refine z_iconst (v := nI 0) d_Lw_variable_14 (by decide) ?_
      exact z_ireturn d_Lw_variable_15 rfl rfl ⟨rfl, q2, q3.2.2, by rw [q3.1]; omega, by rw [q3.2.1]; omega⟩
  · cases hk : k_var K i with
    | inr w =>
      rw [hk] at hq
      obtain ⟨q1, -⟩ := hq
      cases q1
    | inl X' =>
      rw [hk] at hq
      obtain ⟨q1, h1, rfl, q2, q3⟩ := hq
      cases q1
      have kz : KAt G (z_exc h1) o K := q2.keep (fun y hy => rfl)
      have s1 : (z_exc h1).1 ≤ h.1 + 1 := by
        show h1.1 + 1 ≤ _
        rw [q3.1]
        exact Nat.le_refl _
      have s2 : (z_exc h1).2.1 ≤ h.2.1 + 6 := by
        show h1.2.1 + 6 ≤ _
        rw [q3.2.1]
        exact Nat.le_refl _
      rcases kx_var hk with rfl | rfl
      · refine ⟨[], (0, 5, 8, 18), _, rfl, ?_, ⟨⟨by decide, by decide⟩, by decide, w_c_Lw_18 HG⟩, fun a => ?_⟩
        · intro y hy
          cases hy
        · show z_V G m_Lw_variable (d + 3) 8 _ [.ref a] _ _
          refine z_astore_n d_Lw_variable_8 rfl (by decide) ?_
          refine z_iconst (v := nI 1) d_Lw_variable_9 (by decide) ?_
          exact z_ireturn d_Lw_variable_10 rfl rfl ⟨by rw [show kcode [z_IOB, z_UOE] (.inl z_IOB) = 1 by decide +kernel], kz, q3.2.2, s1, s2⟩
      · refine ⟨[(0, 5, 8, 18)], (0, 5, 11, 12), _, rfl, ?_, ⟨⟨by decide, by decide⟩, by decide, w_c_Lw_12 HG⟩, fun a => ?_⟩
        · intro y hy
          simp only [List.mem_cons, List.not_mem_nil, or_false] at hy
          subst hy
          exact ⟨_, by decide, w_c_Lw_18 HG, nc_UOE_IOB HG⟩
        · show z_V G m_Lw_variable (d + 3) 11 _ [.ref a] _ _
          refine z_astore_n d_Lw_variable_11 rfl (by decide) ?_
          refine z_iconst (v := nI 2) d_Lw_variable_12 (by decide) ?_
          exact z_ireturn d_Lw_variable_13 rfl rfl ⟨by rw [show kcode [z_IOB, z_UOE] (.inl z_UOE) = 2 by decide +kernel], kz, q3.2.2, s1, s2⟩
theorem c_Lw_apply (HG : z_ok G) (hrm : z_rm G h) (H : KAt G h o K) (Pk : pok K) : z_C G m_Lw_apply (d + 7) [.ref o] h (lw_q G o K h [z_ISE, z_IAE, z_AE] (k_apply K)) := by
  refine z_C.of (Nat.le_of_ble_eq_true rfl) ?_
  refine z_aload_n d_Lw_apply_0 rfl rfl ?_
  refine z_callVH (as := []) (dY := d + 6) d_Lw_apply_1 (by omega) (Y_Lw_23 HG) rfl H.2.1 (cl_TK HG) (Nat.le_of_ble_eq_true rfl) (c_TK_apply (d := d) HG hrm H Pk) (fun v h' hq => ?_) (fun X h' hq => ?_)
  · cases hk : k_apply K with
    | inl X =>
      rw [hk] at hq
      obtain ⟨q1, -⟩ := hq
      cases q1
    | inr w =>
      rw [hk] at hq
      obtain ⟨q1, q2, q3⟩ := hq
      cases q1
      have hv := kv_apply w hk
      rw [hv]
      refine z_goto (tgt := 16) d_Lw_apply_4 rfl ?_
      refine z_iconst (v := nI 0) d_Lw_apply_16 (by decide) ?_
      exact z_ireturn d_Lw_apply_17 rfl rfl ⟨rfl, q2, q3.2.2, by rw [q3.1]; omega, by rw [q3.2.1]; omega⟩
  · cases hk : k_apply K with
    | inr w =>
      rw [hk] at hq
      obtain ⟨q1, -⟩ := hq
      cases q1
    | inl X' =>
      rw [hk] at hq
      obtain ⟨q1, h1, rfl, q2, q3⟩ := hq
      cases q1
      have kz : KAt G (z_exc h1) o K := q2.keep (fun y hy => rfl)
      have s1 : (z_exc h1).1 ≤ h.1 + 1 := by
        show h1.1 + 1 ≤ _
        rw [q3.1]
        exact Nat.le_refl _
      have s2 : (z_exc h1).2.1 ≤ h.2.1 + 6 := by
        show h1.2.1 + 6 ≤ _
        rw [q3.2.1]
        exact Nat.le_refl _
      rcases kx_apply hk with rfl | rfl | rfl
      · refine ⟨[], (0, 4, 7, 26), _, rfl, ?_, ⟨⟨by decide, by decide⟩, by decide, w_c_Lw_26 HG⟩, fun a => ?_⟩
        · intro y hy
          cases hy
        · show z_V G m_Lw_apply (d + 7) 7 _ [.ref a] _ _
          refine z_astore_n d_Lw_apply_7 rfl (by decide) ?_
          refine z_iconst (v := nI 1) d_Lw_apply_8 (by decide) ?_
          exact z_ireturn d_Lw_apply_9 rfl rfl ⟨by rw [show kcode [z_ISE, z_IAE, z_AE] (.inl z_ISE) = 1 by decide +kernel], kz, q3.2.2, s1, s2⟩
      · refine ⟨[(0, 4, 7, 26)], (0, 4, 10, 28), _, rfl, ?_, ⟨⟨by decide, by decide⟩, by decide, w_c_Lw_28 HG⟩, fun a => ?_⟩
        · intro y hy
          simp only [List.mem_cons, List.not_mem_nil, or_false] at hy
          subst hy
          exact ⟨_, by decide, w_c_Lw_26 HG, nc_IAE_ISE HG⟩
        · show z_V G m_Lw_apply (d + 7) 10 _ [.ref a] _ _
          refine z_astore_n d_Lw_apply_10 rfl (by decide) ?_
          refine z_iconst (v := nI 2) d_Lw_apply_11 (by decide) ?_
          exact z_ireturn d_Lw_apply_12 rfl rfl ⟨by rw [show kcode [z_ISE, z_IAE, z_AE] (.inl z_IAE) = 2 by decide +kernel], kz, q3.2.2, s1, s2⟩
      · refine ⟨[(0, 4, 7, 26), (0, 4, 10, 28)], (0, 4, 13, 30), _, rfl, ?_, ⟨⟨by decide, by decide⟩, by decide, w_c_Lw_30 HG⟩, fun a => ?_⟩
        · intro y hy
          simp only [List.mem_cons, List.not_mem_nil, or_false] at hy
          rcases hy with rfl | rfl
          · exact ⟨_, by decide, w_c_Lw_26 HG, nc_AE_ISE HG⟩
          · exact ⟨_, by decide, w_c_Lw_28 HG, nc_AE_IAE HG⟩
        · show z_V G m_Lw_apply (d + 7) 13 _ [.ref a] _ _
          refine z_astore_n d_Lw_apply_13 rfl (by decide) ?_
          refine z_iconst (v := nI 3) d_Lw_apply_14 (by decide) ?_
          exact z_ireturn d_Lw_apply_15 rfl rfl ⟨by rw [show kcode [z_ISE, z_IAE, z_AE] (.inl z_AE) = 3 by decide +kernel], kz, q3.2.2, s1, s2⟩
theorem c_Lw_assume (HG : z_ok G) (hrm : z_rm G h) (H : KAt G h o K) (Pk : pok K) : z_C G m_Lw_assume (d + 4) [.ref o] h (lw_q G o K h [z_ISE, z_UOE, z_IAE] (k_assume K)) := by
  refine z_C.of (Nat.le_of_ble_eq_true rfl) ?_
  refine z_aload_n d_Lw_assume_0 rfl rfl ?_
  refine z_callVH (as := []) (dY := d + 3) d_Lw_assume_1 (by omega) (Y_Lw_32 HG) rfl H.2.1 (cl_TK HG) (Nat.le_of_ble_eq_true rfl) (c_TK_assume (d := d) HG hrm H Pk) (fun v h' hq => ?_) (fun X h' hq => ?_)
  · cases hk : k_assume K with
    | inl X =>
      rw [hk] at hq
      obtain ⟨q1, -⟩ := hq
      cases q1
    | inr w =>
      rw [hk] at hq
      obtain ⟨q1, q2, q3⟩ := hq
      cases q1
      have hv := kv_assume w hk
      rw [hv]
      refine z_goto (tgt := 16) d_Lw_assume_4 rfl ?_
      refine z_iconst (v := nI 0) d_Lw_assume_16 (by decide) ?_
      exact z_ireturn d_Lw_assume_17 rfl rfl ⟨rfl, q2, q3.2.2, by rw [q3.1]; omega, by rw [q3.2.1]; omega⟩
  · cases hk : k_assume K with
    | inr w =>
      rw [hk] at hq
      obtain ⟨q1, -⟩ := hq
      cases q1
    | inl X' =>
      rw [hk] at hq
      obtain ⟨q1, h1, rfl, q2, q3⟩ := hq
      cases q1
      have kz : KAt G (z_exc h1) o K := q2.keep (fun y hy => rfl)
      have s1 : (z_exc h1).1 ≤ h.1 + 1 := by
        show h1.1 + 1 ≤ _
        rw [q3.1]
        exact Nat.le_refl _
      have s2 : (z_exc h1).2.1 ≤ h.2.1 + 6 := by
        show h1.2.1 + 6 ≤ _
        rw [q3.2.1]
        exact Nat.le_refl _
      rcases kx_assume hk with rfl | rfl | rfl
      · refine ⟨[], (0, 4, 7, 26), _, rfl, ?_, ⟨⟨by decide, by decide⟩, by decide, w_c_Lw_26 HG⟩, fun a => ?_⟩
        · intro y hy
          cases hy
        · show z_V G m_Lw_assume (d + 4) 7 _ [.ref a] _ _
          refine z_astore_n d_Lw_assume_7 rfl (by decide) ?_
          refine z_iconst (v := nI 1) d_Lw_assume_8 (by decide) ?_
          exact z_ireturn d_Lw_assume_9 rfl rfl ⟨by rw [show kcode [z_ISE, z_UOE, z_IAE] (.inl z_ISE) = 1 by decide +kernel], kz, q3.2.2, s1, s2⟩
      · refine ⟨[(0, 4, 7, 26)], (0, 4, 10, 12), _, rfl, ?_, ⟨⟨by decide, by decide⟩, by decide, w_c_Lw_12 HG⟩, fun a => ?_⟩
        · intro y hy
          simp only [List.mem_cons, List.not_mem_nil, or_false] at hy
          subst hy
          exact ⟨_, by decide, w_c_Lw_26 HG, nc_UOE_ISE HG⟩
        · show z_V G m_Lw_assume (d + 4) 10 _ [.ref a] _ _
          refine z_astore_n d_Lw_assume_10 rfl (by decide) ?_
          refine z_iconst (v := nI 2) d_Lw_assume_11 (by decide) ?_
          exact z_ireturn d_Lw_assume_12 rfl rfl ⟨by rw [show kcode [z_ISE, z_UOE, z_IAE] (.inl z_UOE) = 2 by decide +kernel], kz, q3.2.2, s1, s2⟩
      · refine ⟨[(0, 4, 7, 26), (0, 4, 10, 12)], (0, 4, 13, 28), _, rfl, ?_, ⟨⟨by decide, by decide⟩, by decide, w_c_Lw_28 HG⟩, fun a => ?_⟩
        · intro y hy
          simp only [List.mem_cons, List.not_mem_nil, or_false] at hy
          rcases hy with rfl | rfl
          · exact ⟨_, by decide, w_c_Lw_26 HG, nc_IAE_ISE HG⟩
          · exact ⟨_, by decide, w_c_Lw_12 HG, nc_IAE_UOE HG⟩
        · show z_V G m_Lw_assume (d + 4) 13 _ [.ref a] _ _
          refine z_astore_n d_Lw_assume_13 rfl (by decide) ?_
          refine z_iconst (v := nI 3) d_Lw_assume_14 (by decide) ?_
          exact z_ireturn d_Lw_assume_15 rfl rfl ⟨by rw [show kcode [z_ISE, z_UOE, z_IAE] (.inl z_IAE) = 3 by decide +kernel], kz, q3.2.2, s1, s2⟩
theorem c_Lw_lambda (HG : z_ok G) (hrm : z_rm G h) (H : KAt G h o K) (Pk : pok K) : z_C G m_Lw_lambda (d + 5) [.ref o] h (lw_q G o K h [z_ISE, z_IAE, z_AE] (k_lambda K)) := by
  refine z_C.of (Nat.le_of_ble_eq_true rfl) ?_
  refine z_aload_n d_Lw_lambda_0 rfl rfl ?_
  refine z_callVH (as := []) (dY := d + 4) d_Lw_lambda_1 (by omega) (Y_Lw_35 HG) rfl H.2.1 (cl_TK HG) (Nat.le_of_ble_eq_true rfl) (c_TK_lambda (d := d) HG hrm H Pk) (fun v h' hq => ?_) (fun X h' hq => ?_)
  · cases hk : k_lambda K with
    | inl X =>
      rw [hk] at hq
      obtain ⟨q1, -⟩ := hq
      cases q1
    | inr w =>
      rw [hk] at hq
      obtain ⟨q1, q2, q3⟩ := hq
      cases q1
      have hv := kv_lambda w hk
      rw [hv]
      refine z_goto (tgt := 16) d_Lw_lambda_4 rfl ?_
      refine z_iconst (v := nI 0) d_Lw_lambda_16 (by decide) ?_
      exact z_ireturn d_Lw_lambda_17 rfl rfl ⟨rfl, q2, q3.2.2, by rw [q3.1]; omega, by rw [q3.2.1]; omega⟩
  · cases hk : k_lambda K with
    | inr w =>
      rw [hk] at hq
      obtain ⟨q1, -⟩ := hq
      cases q1
    | inl X' =>
      rw [hk] at hq
      obtain ⟨q1, h1, rfl, q2, q3⟩ := hq
      cases q1
      have kz : KAt G (z_exc h1) o K := q2.keep (fun y hy => rfl)
      have s1 : (z_exc h1).1 ≤ h.1 + 1 := by
        show h1.1 + 1 ≤ _
        rw [q3.1]
        exact Nat.le_refl _
      have s2 : (z_exc h1).2.1 ≤ h.2.1 + 6 := by
        show h1.2.1 + 6 ≤ _
        rw [q3.2.1]
        exact Nat.le_refl _
      rcases kx_lambda hk with rfl | rfl | rfl
      · refine ⟨[], (0, 4, 7, 26), _, rfl, ?_, ⟨⟨by decide, by decide⟩, by decide, w_c_Lw_26 HG⟩, fun a => ?_⟩
        · intro y hy
          cases hy
        · show z_V G m_Lw_lambda (d + 5) 7 _ [.ref a] _ _
          refine z_astore_n d_Lw_lambda_7 rfl (by decide) ?_
          refine z_iconst (v := nI 1) d_Lw_lambda_8 (by decide) ?_
          exact z_ireturn d_Lw_lambda_9 rfl rfl ⟨by rw [show kcode [z_ISE, z_IAE, z_AE] (.inl z_ISE) = 1 by decide +kernel], kz, q3.2.2, s1, s2⟩
      · refine ⟨[(0, 4, 7, 26)], (0, 4, 10, 28), _, rfl, ?_, ⟨⟨by decide, by decide⟩, by decide, w_c_Lw_28 HG⟩, fun a => ?_⟩
        · intro y hy
          simp only [List.mem_cons, List.not_mem_nil, or_false] at hy
          subst hy
          exact ⟨_, by decide, w_c_Lw_26 HG, nc_IAE_ISE HG⟩
        · show z_V G m_Lw_lambda (d + 5) 10 _ [.ref a] _ _
          refine z_astore_n d_Lw_lambda_10 rfl (by decide) ?_
          refine z_iconst (v := nI 2) d_Lw_lambda_11 (by decide) ?_
          exact z_ireturn d_Lw_lambda_12 rfl rfl ⟨by rw [show kcode [z_ISE, z_IAE, z_AE] (.inl z_IAE) = 2 by decide +kernel], kz, q3.2.2, s1, s2⟩
      · refine ⟨[(0, 4, 7, 26), (0, 4, 10, 28)], (0, 4, 13, 30), _, rfl, ?_, ⟨⟨by decide, by decide⟩, by decide, w_c_Lw_30 HG⟩, fun a => ?_⟩
        · intro y hy
          simp only [List.mem_cons, List.not_mem_nil, or_false] at hy
          rcases hy with rfl | rfl
          · exact ⟨_, by decide, w_c_Lw_26 HG, nc_AE_ISE HG⟩
          · exact ⟨_, by decide, w_c_Lw_28 HG, nc_AE_IAE HG⟩
        · show z_V G m_Lw_lambda (d + 5) 13 _ [.ref a] _ _
          refine z_astore_n d_Lw_lambda_13 rfl (by decide) ?_
          refine z_iconst (v := nI 3) d_Lw_lambda_14 (by decide) ?_
          exact z_ireturn d_Lw_lambda_15 rfl rfl ⟨by rw [show kcode [z_ISE, z_IAE, z_AE] (.inl z_AE) = 3 by decide +kernel], kz, q3.2.2, s1, s2⟩
theorem c_Lw_product (HG : z_ok G) (hrm : z_rm G h) (H : KAt G h o K) (Pk : pok K) : z_C G m_Lw_product (d + 5) [.ref o] h (lw_q G o K h [z_ISE, z_IAE, z_AE] (k_product K)) := by
  refine z_C.of (Nat.le_of_ble_eq_true rfl) ?_
  refine z_aload_n d_Lw_product_0 rfl rfl ?_
  refine z_callVH (as := []) (dY := d + 4) d_Lw_product_1 (by omega) (Y_Lw_38 HG) rfl H.2.1 (cl_TK HG) (Nat.le_of_ble_eq_true rfl) (c_TK_product (d := d) HG hrm H Pk) (fun v h' hq => ?_) (fun X h' hq => ?_)
  · cases hk : k_product K with
    | inl X =>
      rw [hk] at hq
      obtain ⟨q1, -⟩ := hq
      cases q1
    | inr w =>
      rw [hk] at hq
      obtain ⟨q1, q2, q3⟩ := hq
      cases q1
      have hv := kv_product w hk
      rw [hv]
      refine z_goto (tgt := 16) d_Lw_product_4 rfl ?_
      refine z_iconst (v := nI 0) d_Lw_product_16 (by decide) ?_
      exact z_ireturn d_Lw_product_17 rfl rfl ⟨rfl, q2, q3.2.2, by rw [q3.1]; omega, by rw [q3.2.1]; omega⟩
  · cases hk : k_product K with
    | inr w =>
      rw [hk] at hq
      obtain ⟨q1, -⟩ := hq
      cases q1
    | inl X' =>
      rw [hk] at hq
      obtain ⟨q1, h1, rfl, q2, q3⟩ := hq
      cases q1
      have kz : KAt G (z_exc h1) o K := q2.keep (fun y hy => rfl)
      have s1 : (z_exc h1).1 ≤ h.1 + 1 := by
        show h1.1 + 1 ≤ _
        rw [q3.1]
        exact Nat.le_refl _
      have s2 : (z_exc h1).2.1 ≤ h.2.1 + 6 := by
        show h1.2.1 + 6 ≤ _
        rw [q3.2.1]
        exact Nat.le_refl _
      rcases kx_product hk with rfl | rfl | rfl
      · refine ⟨[], (0, 4, 7, 26), _, rfl, ?_, ⟨⟨by decide, by decide⟩, by decide, w_c_Lw_26 HG⟩, fun a => ?_⟩
        · intro y hy
          cases hy
        · show z_V G m_Lw_product (d + 5) 7 _ [.ref a] _ _
          refine z_astore_n d_Lw_product_7 rfl (by decide) ?_
          refine z_iconst (v := nI 1) d_Lw_product_8 (by decide) ?_
          exact z_ireturn d_Lw_product_9 rfl rfl ⟨by rw [show kcode [z_ISE, z_IAE, z_AE] (.inl z_ISE) = 1 by decide +kernel], kz, q3.2.2, s1, s2⟩
      · refine ⟨[(0, 4, 7, 26)], (0, 4, 10, 28), _, rfl, ?_, ⟨⟨by decide, by decide⟩, by decide, w_c_Lw_28 HG⟩, fun a => ?_⟩
        · intro y hy
          simp only [List.mem_cons, List.not_mem_nil, or_false] at hy
          subst hy
          exact ⟨_, by decide, w_c_Lw_26 HG, nc_IAE_ISE HG⟩
        · show z_V G m_Lw_product (d + 5) 10 _ [.ref a] _ _
          refine z_astore_n d_Lw_product_10 rfl (by decide) ?_
          refine z_iconst (v := nI 2) d_Lw_product_11 (by decide) ?_
          exact z_ireturn d_Lw_product_12 rfl rfl ⟨by rw [show kcode [z_ISE, z_IAE, z_AE] (.inl z_IAE) = 2 by decide +kernel], kz, q3.2.2, s1, s2⟩
      · refine ⟨[(0, 4, 7, 26), (0, 4, 10, 28)], (0, 4, 13, 30), _, rfl, ?_, ⟨⟨by decide, by decide⟩, by decide, w_c_Lw_30 HG⟩, fun a => ?_⟩
        · intro y hy
          simp only [List.mem_cons, List.not_mem_nil, or_false] at hy
          rcases hy with rfl | rfl
          · exact ⟨_, by decide, w_c_Lw_26 HG, nc_AE_ISE HG⟩
          · exact ⟨_, by decide, w_c_Lw_28 HG, nc_AE_IAE HG⟩
        · show z_V G m_Lw_product (d + 5) 13 _ [.ref a] _ _
          refine z_astore_n d_Lw_product_13 rfl (by decide) ?_
          refine z_iconst (v := nI 3) d_Lw_product_14 (by decide) ?_
          exact z_ireturn d_Lw_product_15 rfl rfl ⟨by rw [show kcode [z_ISE, z_IAE, z_AE] (.inl z_AE) = 3 by decide +kernel], kz, q3.2.2, s1, s2⟩
theorem c_Lw_declare (HG : z_ok G) (hrm : z_rm G h) (H : KAt G h o K) (Pk : pok K) (b : Bool) {f0 : Nat → Int64} (hu : h.2.2 (o + 129) = some (k_lg G f0)) : z_C G m_Lw_declare (d + 4) [.ref o, .int (if b = true then nI 1 else nI 0), .ref (o + 129)] h (lw_o G o K h [z_ISE, z_UOE, z_IAE] Int32.toInt64 (k_declare K b)) := by
  refine z_C.of (Nat.le_of_ble_eq_true rfl) ?_
  refine z_aload_n d_Lw_declare_0 rfl rfl ?_
  refine z_iconst (v := nI 0) d_Lw_declare_1 (by decide) ?_
  refine z_aload_n d_Lw_declare_2 rfl rfl ?_
  refine z_iload_n d_Lw_declare_3 rfl rfl ?_
  refine z_callVH (as := [.int (if b = true then nI 1 else nI 0)]) (dY := d + 3) d_Lw_declare_4 (by omega) (Y_Lw_41 HG) rfl H.2.1 (cl_TK HG) (Nat.le_of_ble_eq_true rfl) (c_TK_declare (d := d) HG hrm H Pk b) (fun v h' hq => ?_) (fun X h' hq => ?_)
  · cases hk : k_declare K b with
    | inl X =>
      rw [hk] at hq
      obtain ⟨q1, -⟩ := hq
      cases q1
    | inr w =>
      rw [hk] at hq
      obtain ⟨q1, q2, q3⟩ := hq
      cases q1
      obtain ⟨x, hv⟩ := kv_declare w hk
      rw [hv]
      refine z_i2l d_Lw_declare_7 rfl ?_
      refine z_last d_Lw_declare_8 (ty1 HG) ((q3.2.2 (o + 129) (by omega)).trans hu) (pk_in 0 1 (by omega)) ?_
      rw [nI_clamp (by omega)]
      refine z_goto (tgt := 21) d_Lw_declare_9 rfl ?_
      refine z_iconst (v := nI 0) d_Lw_declare_21 (by decide) ?_
      refine z_ireturn d_Lw_declare_22 rfl rfl ⟨rfl, q2.keep (fun y hy => z_set_ne _ _ (by omega)), fun y y1 y2 => (z_set_ne _ _ y2).trans (q3.2.2 y y1), ⟨by show h'.1 ≤ _; rw [q3.1]; omega, by show h'.2.1 ≤ _; rw [q3.2.1]; omega⟩, _, z_set_at .., fun v' x' e1 e2 => ?_⟩
      cases e1
      rw [hv] at e2
      cases e2
      exact if_pos rfl
  · cases hk : k_declare K b with
    | inr w =>
      rw [hk] at hq
      obtain ⟨q1, -⟩ := hq
      cases q1
    | inl X' =>
      rw [hk] at hq
      obtain ⟨q1, h1, rfl, q2, q3⟩ := hq
      cases q1
      have kz : KAt G (z_exc h1) o K := q2.keep (fun y hy => rfl)
      have s1 : (z_exc h1).1 ≤ h.1 + 1 := by
        show h1.1 + 1 ≤ _
        rw [q3.1]
        exact Nat.le_refl _
      have s2 : (z_exc h1).2.1 ≤ h.2.1 + 6 := by
        show h1.2.1 + 6 ≤ _
        rw [q3.2.1]
        exact Nat.le_refl _
      rcases kx_declare hk with rfl | rfl | rfl
      · refine ⟨[], (0, 9, 12, 26), _, rfl, ?_, ⟨⟨by decide, by decide⟩, by decide, w_c_Lw_26 HG⟩, fun a => ?_⟩
        · intro y hy
          cases hy
        · show z_V G m_Lw_declare (d + 4) 12 _ [.ref a] _ _
          refine z_astore_n d_Lw_declare_12 rfl (by decide) ?_
          refine z_iconst (v := nI 1) d_Lw_declare_13 (by decide) ?_
          exact z_ireturn d_Lw_declare_14 rfl rfl ⟨by rw [show kcode [z_ISE, z_UOE, z_IAE] (.inl z_ISE) = 1 by decide +kernel], kz, fun y y1 y2 => q3.2.2 y y1, ⟨s1, s2⟩, f0, (q3.2.2 (o + 129) (by omega)).trans hu, fun v' x' e1 => by cases e1⟩
      · refine ⟨[(0, 9, 12, 26)], (0, 9, 15, 12), _, rfl, ?_, ⟨⟨by decide, by decide⟩, by decide, w_c_Lw_12 HG⟩, fun a => ?_⟩
        · intro y hy
          simp only [List.mem_cons, List.not_mem_nil, or_false] at hy
          subst hy
          exact ⟨_, by decide, w_c_Lw_26 HG, nc_UOE_ISE HG⟩
        · show z_V G m_Lw_declare (d + 4) 15 _ [.ref a] _ _
          refine z_astore_n d_Lw_declare_15 rfl (by decide) ?_
          refine z_iconst (v := nI 2) d_Lw_declare_16 (by decide) ?_
          exact z_ireturn d_Lw_declare_17 rfl rfl ⟨by rw [show kcode [z_ISE, z_UOE, z_IAE] (.inl z_UOE) = 2 by decide +kernel], kz, fun y y1 y2 => q3.2.2 y y1, ⟨s1, s2⟩, f0, (q3.2.2 (o + 129) (by omega)).trans hu, fun v' x' e1 => by cases e1⟩
      · refine ⟨[(0, 9, 12, 26), (0, 9, 15, 12)], (0, 9, 18, 28), _, rfl, ?_, ⟨⟨by decide, by decide⟩, by decide, w_c_Lw_28 HG⟩, fun a => ?_⟩
        · intro y hy
          simp only [List.mem_cons, List.not_mem_nil, or_false] at hy
          rcases hy with rfl | rfl
          · exact ⟨_, by decide, w_c_Lw_26 HG, nc_IAE_ISE HG⟩
          · exact ⟨_, by decide, w_c_Lw_12 HG, nc_IAE_UOE HG⟩
        · show z_V G m_Lw_declare (d + 4) 18 _ [.ref a] _ _
          refine z_astore_n d_Lw_declare_18 rfl (by decide) ?_
          refine z_iconst (v := nI 3) d_Lw_declare_19 (by decide) ?_
          exact z_ireturn d_Lw_declare_20 rfl rfl ⟨by rw [show kcode [z_ISE, z_UOE, z_IAE] (.inl z_IAE) = 3 by decide +kernel], kz, fun y y1 y2 => q3.2.2 y y1, ⟨s1, s2⟩, f0, (q3.2.2 (o + 129) (by omega)).trans hu, fun v' x' e1 => by cases e1⟩
theorem c_Lw_rule (HG : z_ok G) (hrm : z_rm G h) (H : KAt G h o K) (Pk : pok K) {f0 : Nat → Int64} (hu : h.2.2 (o + 129) = some (k_lg G f0)) : z_C G m_Lw_rule (d + 7) [.ref o, .ref (o + 129)] h (lw_o G o K h [z_ISE, z_UOE, z_IAE, z_AE] Int32.toInt64 (k_rule K)) := by
  refine z_C.of (Nat.le_of_ble_eq_true rfl) ?_
  refine z_aload_n d_Lw_rule_0 rfl rfl ?_
  refine z_iconst (v := nI 0) d_Lw_rule_1 (by decide) ?_
  refine z_aload_n d_Lw_rule_2 rfl rfl ?_
  refine z_callVH (as := []) (dY := d + 6) d_Lw_rule_3 (by omega) (Y_Lw_45 HG) rfl H.2.1 (cl_TK HG) (Nat.le_of_ble_eq_true rfl) (c_TK_rule (d := d) HG hrm H Pk) (fun v h' hq => ?_) (fun X h' hq => ?_)
  · cases hk : k_rule K with
    | inl X =>
      rw [hk] at hq
      obtain ⟨q1, -⟩ := hq
      cases q1
    | inr w =>
      rw [hk] at hq
      obtain ⟨q1, q2, q3⟩ := hq
      cases q1
      obtain ⟨x, hv⟩ := kv_rule w hk
      rw [hv]
      refine z_i2l d_Lw_rule_6 rfl ?_
      refine z_last d_Lw_rule_7 (ty1 HG) ((q3.2.2 (o + 129) (by omega)).trans hu) (pk_in 0 1 (by omega)) ?_
      rw [nI_clamp (by omega)]
      refine z_goto (tgt := 23) d_Lw_rule_8 rfl ?_
      refine z_iconst (v := nI 0) d_Lw_rule_23 (by decide) ?_
      refine z_ireturn d_Lw_rule_24 rfl rfl ⟨rfl, q2.keep (fun y hy => z_set_ne _ _ (by omega)), fun y y1 y2 => (z_set_ne _ _ y2).trans (q3.2.2 y y1), ⟨by show h'.1 ≤ _; rw [q3.1]; omega, by show h'.2.1 ≤ _; rw [q3.2.1]; omega⟩, _, z_set_at .., fun v' x' e1 e2 => ?_⟩
      cases e1
      rw [hv] at e2
      cases e2
      exact if_pos rfl
  · cases hk : k_rule K with
    | inr w =>
      rw [hk] at hq
      obtain ⟨q1, -⟩ := hq
      cases q1
    | inl X' =>
      rw [hk] at hq
      obtain ⟨q1, h1, rfl, q2, q3⟩ := hq
      cases q1
      have kz : KAt G (z_exc h1) o K := q2.keep (fun y hy => rfl)
      have s1 : (z_exc h1).1 ≤ h.1 + 1 := by
        show h1.1 + 1 ≤ _
        rw [q3.1]
        exact Nat.le_refl _
      have s2 : (z_exc h1).2.1 ≤ h.2.1 + 6 := by
        show h1.2.1 + 6 ≤ _
        rw [q3.2.1]
        exact Nat.le_refl _
      rcases kx_rule hk with rfl | rfl | rfl | rfl
      · refine ⟨[], (0, 8, 11, 26), _, rfl, ?_, ⟨⟨by decide, by decide⟩, by decide, w_c_Lw_26 HG⟩, fun a => ?_⟩
        · intro y hy
          cases hy
        · show z_V G m_Lw_rule (d + 7) 11 _ [.ref a] _ _
          refine z_astore_n d_Lw_rule_11 rfl (by decide) ?_
          refine z_iconst (v := nI 1) d_Lw_rule_12 (by decide) ?_
          exact z_ireturn d_Lw_rule_13 rfl rfl ⟨by rw [show kcode [z_ISE, z_UOE, z_IAE, z_AE] (.inl z_ISE) = 1 by decide +kernel], kz, fun y y1 y2 => q3.2.2 y y1, ⟨s1, s2⟩, f0, (q3.2.2 (o + 129) (by omega)).trans hu, fun v' x' e1 => by cases e1⟩
      · refine ⟨[(0, 8, 11, 26)], (0, 8, 14, 12), _, rfl, ?_, ⟨⟨by decide, by decide⟩, by decide, w_c_Lw_12 HG⟩, fun a => ?_⟩
        · intro y hy
          simp only [List.mem_cons, List.not_mem_nil, or_false] at hy
          subst hy
          exact ⟨_, by decide, w_c_Lw_26 HG, nc_UOE_ISE HG⟩
        · show z_V G m_Lw_rule (d + 7) 14 _ [.ref a] _ _
          refine z_astore_n d_Lw_rule_14 rfl (by decide) ?_
          refine z_iconst (v := nI 2) d_Lw_rule_15 (by decide) ?_
          exact z_ireturn d_Lw_rule_16 rfl rfl ⟨by rw [show kcode [z_ISE, z_UOE, z_IAE, z_AE] (.inl z_UOE) = 2 by decide +kernel], kz, fun y y1 y2 => q3.2.2 y y1, ⟨s1, s2⟩, f0, (q3.2.2 (o + 129) (by omega)).trans hu, fun v' x' e1 => by cases e1⟩
      · refine ⟨[(0, 8, 11, 26), (0, 8, 14, 12)], (0, 8, 17, 28), _, rfl, ?_, ⟨⟨by decide, by decide⟩, by decide, w_c_Lw_28 HG⟩, fun a => ?_⟩
        · intro y hy
          simp only [List.mem_cons, List.not_mem_nil, or_false] at hy
          rcases hy with rfl | rfl
          · exact ⟨_, by decide, w_c_Lw_26 HG, nc_IAE_ISE HG⟩
          · exact ⟨_, by decide, w_c_Lw_12 HG, nc_IAE_UOE HG⟩
        · show z_V G m_Lw_rule (d + 7) 17 _ [.ref a] _ _
          refine z_astore_n d_Lw_rule_17 rfl (by decide) ?_
          refine z_iconst (v := nI 3) d_Lw_rule_18 (by decide) ?_
          exact z_ireturn d_Lw_rule_19 rfl rfl ⟨by rw [show kcode [z_ISE, z_UOE, z_IAE, z_AE] (.inl z_IAE) = 3 by decide +kernel], kz, fun y y1 y2 => q3.2.2 y y1, ⟨s1, s2⟩, f0, (q3.2.2 (o + 129) (by omega)).trans hu, fun v' x' e1 => by cases e1⟩
      · refine ⟨[(0, 8, 11, 26), (0, 8, 14, 12), (0, 8, 17, 28)], (0, 8, 20, 30), _, rfl, ?_, ⟨⟨by decide, by decide⟩, by decide, w_c_Lw_30 HG⟩, fun a => ?_⟩
        · intro y hy
          simp only [List.mem_cons, List.not_mem_nil, or_false] at hy
          rcases hy with rfl | rfl | rfl
          · exact ⟨_, by decide, w_c_Lw_26 HG, nc_AE_ISE HG⟩
          · exact ⟨_, by decide, w_c_Lw_12 HG, nc_AE_UOE HG⟩
          · exact ⟨_, by decide, w_c_Lw_28 HG, nc_AE_IAE HG⟩
        · show z_V G m_Lw_rule (d + 7) 20 _ [.ref a] _ _
          refine z_astore_n d_Lw_rule_20 rfl (by decide) ?_
          refine z_iconst (v := nI 4) d_Lw_rule_21 (by decide) ?_
          exact z_ireturn d_Lw_rule_22 rfl rfl ⟨by rw [show kcode [z_ISE, z_UOE, z_IAE, z_AE] (.inl z_AE) = 4 by decide +kernel], kz, fun y y1 y2 => q3.2.2 y y1, ⟨s1, s2⟩, f0, (q3.2.2 (o + 129) (by omega)).trans hu, fun v' x' e1 => by cases e1⟩
theorem c_Lw_normal (HG : z_ok G) (hrm : z_rm G h) (H : KAt G h o K) (Pk : pok K) {f0 : Nat → Int64} (hu : h.2.2 (o + 129) = some (k_lg G f0)) : z_C G m_Lw_normal (d + 7) [.ref o, .ref (o + 129)] h (lw_o G o K h [z_ISE, z_AE] Int32.toInt64 (k_normal K)) := by
  refine z_C.of (Nat.le_of_ble_eq_true rfl) ?_
  refine z_aload_n d_Lw_normal_0 rfl rfl ?_
  refine z_iconst (v := nI 0) d_Lw_normal_1 (by decide) ?_
  refine z_aload_n d_Lw_normal_2 rfl rfl ?_
  refine z_callVH (as := []) (dY := d + 6) d_Lw_normal_3 (by omega) (Y_Lw_49 HG) rfl H.2.1 (cl_TK HG) (Nat.le_of_ble_eq_true rfl) (c_TK_normal (d := d) HG hrm H Pk) (fun v h' hq => ?_) (fun X h' hq => ?_)
  · cases hk : k_normal K with
    | inl X =>
      rw [hk] at hq
      obtain ⟨q1, -⟩ := hq
      cases q1
    | inr w =>
      rw [hk] at hq
      obtain ⟨q1, q2, q3⟩ := hq
      cases q1
      obtain ⟨x, hv⟩ := kv_normal w hk
      rw [hv]
      refine z_i2l d_Lw_normal_6 rfl ?_
      refine z_last d_Lw_normal_7 (ty1 HG) ((q3.2.2 (o + 129) (by omega)).trans hu) (pk_in 0 1 (by omega)) ?_
      rw [nI_clamp (by omega)]
      refine z_goto (tgt := 17) d_Lw_normal_8 rfl ?_
      refine z_iconst (v := nI 0) d_Lw_normal_17 (by decide) ?_
      refine z_ireturn d_Lw_normal_18 rfl rfl ⟨rfl, q2.keep (fun y hy => z_set_ne _ _ (by omega)), fun y y1 y2 => (z_set_ne _ _ y2).trans (q3.2.2 y y1), ⟨by show h'.1 ≤ _; rw [q3.1]; omega, by show h'.2.1 ≤ _; rw [q3.2.1]; omega⟩, _, z_set_at .., fun v' x' e1 e2 => ?_⟩
      cases e1
      rw [hv] at e2
      cases e2
      exact if_pos rfl
  · cases hk : k_normal K with
    | inr w =>
      rw [hk] at hq
      obtain ⟨q1, -⟩ := hq
      cases q1
    | inl X' =>
      rw [hk] at hq
      obtain ⟨q1, h1, rfl, q2, q3⟩ := hq
      cases q1
      have kz : KAt G (z_exc h1) o K := q2.keep (fun y hy => rfl)
      have s1 : (z_exc h1).1 ≤ h.1 + 1 := by
        show h1.1 + 1 ≤ _
        rw [q3.1]
        exact Nat.le_refl _
      have s2 : (z_exc h1).2.1 ≤ h.2.1 + 6 := by
        show h1.2.1 + 6 ≤ _
        rw [q3.2.1]
        exact Nat.le_refl _
      rcases kx_normal hk with rfl | rfl
      · refine ⟨[], (0, 8, 11, 26), _, rfl, ?_, ⟨⟨by decide, by decide⟩, by decide, w_c_Lw_26 HG⟩, fun a => ?_⟩
        · intro y hy
          cases hy
        · show z_V G m_Lw_normal (d + 7) 11 _ [.ref a] _ _
          refine z_astore_n d_Lw_normal_11 rfl (by decide) ?_
          refine z_iconst (v := nI 1) d_Lw_normal_12 (by decide) ?_
          exact z_ireturn d_Lw_normal_13 rfl rfl ⟨by rw [show kcode [z_ISE, z_AE] (.inl z_ISE) = 1 by decide +kernel], kz, fun y y1 y2 => q3.2.2 y y1, ⟨s1, s2⟩, f0, (q3.2.2 (o + 129) (by omega)).trans hu, fun v' x' e1 => by cases e1⟩
      · refine ⟨[(0, 8, 11, 26)], (0, 8, 14, 30), _, rfl, ?_, ⟨⟨by decide, by decide⟩, by decide, w_c_Lw_30 HG⟩, fun a => ?_⟩
        · intro y hy
          simp only [List.mem_cons, List.not_mem_nil, or_false] at hy
          subst hy
          exact ⟨_, by decide, w_c_Lw_26 HG, nc_AE_ISE HG⟩
        · show z_V G m_Lw_normal (d + 7) 14 _ [.ref a] _ _
          refine z_astore_n d_Lw_normal_14 rfl (by decide) ?_
          refine z_iconst (v := nI 2) d_Lw_normal_15 (by decide) ?_
          exact z_ireturn d_Lw_normal_16 rfl rfl ⟨by rw [show kcode [z_ISE, z_AE] (.inl z_AE) = 2 by decide +kernel], kz, fun y y1 y2 => q3.2.2 y y1, ⟨s1, s2⟩, f0, (q3.2.2 (o + 129) (by omega)).trans hu, fun v' x' e1 => by cases e1⟩
theorem c_Lw_same (HG : z_ok G) (hrm : z_rm G h) (H : KAt G h o K) (Pk : pok K) {f0 : Nat → Int64} (hu : h.2.2 (o + 129) = some (k_lg G f0)) : z_C G m_Lw_same (d + 7) [.ref o, .ref (o + 129)] h (lw_o G o K h [z_ISE, z_AE] cv_b (k_same K)) := by
  refine z_C.of (Nat.le_of_ble_eq_true rfl) ?_
  refine z_aload_n d_Lw_same_0 rfl rfl ?_
  refine z_iconst (v := nI 0) d_Lw_same_1 (by decide) ?_
  refine z_aload_n d_Lw_same_2 rfl rfl ?_
  refine z_callVH (as := []) (dY := d + 6) d_Lw_same_3 (by omega) (Y_Lw_52 HG) rfl H.2.1 (cl_TK HG) (Nat.le_of_ble_eq_true rfl) (c_TK_same (d := d) HG hrm H Pk) (fun v h' hq => ?_) (fun X h' hq => ?_)
  · cases hk : k_same K with
    | inl X =>
      rw [hk] at hq
      obtain ⟨q1, -⟩ := hq
      cases q1
    | inr w =>
      rw [hk] at hq
      obtain ⟨q1, q2, q3⟩ := hq
      cases q1
      have fin : ∀ (y : Int64), (∀ x, w.1 = some (.int x) → y = cv_b x) → z_V G m_Lw_same (d + 7) 14 (lv_args 0 [.ref o, .ref (o + 129)]) [.long y, .int (nI 0), .ref (o + 129)] h' (lw_o G o K h [z_ISE, z_AE] cv_b (.inr w)) := by
        intro y hy
        refine z_last d_Lw_same_14 (ty1 HG) ((q3.2.2 (o + 129) (by omega)).trans hu) (pk_in 0 1 (by omega)) ?_
        rw [nI_clamp (by omega)]
        refine z_goto (tgt := 24) d_Lw_same_15 rfl ?_
        refine z_iconst (v := nI 0) d_Lw_same_24 (by decide) ?_
        refine z_ireturn d_Lw_same_25 rfl rfl ⟨rfl, q2.keep (fun y hy => z_set_ne _ _ (by omega)), fun y y1 y2 => (z_set_ne _ _ y2).trans (q3.2.2 y y1), ⟨by show h'.1 ≤ _; rw [q3.1]; omega, by show h'.2.1 ≤ _; rw [q3.2.1]; omega⟩, _, z_set_at .., fun v' x' e1 e2 => ?_⟩
        cases e1
        exact (if_pos rfl).trans (hy x' e2)
      rcases kv_same w hk with hv | hv
      · rw [hv]
        refine z_if_eq (tgt := 13) d_Lw_same_6 rfl (fun c1 => absurd c1 (by decide)) (fun c1 => ?_)
        refine z_lconst d_Lw_same_9 rfl ?_
        refine z_goto (tgt := 14) d_Lw_same_10 rfl ?_
        refine fin _ (fun x e1 => ?_)
        rw [hv] at e1
        cases e1
        exact (if_neg (by decide)).symm
      · rw [hv]
        refine z_if_eq (tgt := 13) d_Lw_same_6 rfl (fun c1 => ?_) (fun c1 => absurd (by decide) c1)
        refine z_lconst d_Lw_same_13 rfl ?_
        refine fin _ (fun x e1 => ?_)
        rw [hv] at e1
        cases e1
        exact (if_pos (by decide)).symm
  · cases hk : k_same K with
    | inr w =>
      rw [hk] at hq
      obtain ⟨q1, -⟩ := hq
      cases q1
    | inl X' =>
      rw [hk] at hq
      obtain ⟨q1, h1, rfl, q2, q3⟩ := hq
      cases q1
      have kz : KAt G (z_exc h1) o K := q2.keep (fun y hy => rfl)
      have s1 : (z_exc h1).1 ≤ h.1 + 1 := by
        show h1.1 + 1 ≤ _
        rw [q3.1]
        exact Nat.le_refl _
      have s2 : (z_exc h1).2.1 ≤ h.2.1 + 6 := by
        show h1.2.1 + 6 ≤ _
        rw [q3.2.1]
        exact Nat.le_refl _
      rcases kx_same hk with rfl | rfl
      · refine ⟨[], (0, 15, 18, 26), _, rfl, ?_, ⟨⟨by decide, by decide⟩, by decide, w_c_Lw_26 HG⟩, fun a => ?_⟩
        · intro y hy
          cases hy
        · show z_V G m_Lw_same (d + 7) 18 _ [.ref a] _ _
          refine z_astore_n d_Lw_same_18 rfl (by decide) ?_
          refine z_iconst (v := nI 1) d_Lw_same_19 (by decide) ?_
          exact z_ireturn d_Lw_same_20 rfl rfl ⟨by rw [show kcode [z_ISE, z_AE] (.inl z_ISE) = 1 by decide +kernel], kz, fun y y1 y2 => q3.2.2 y y1, ⟨s1, s2⟩, f0, (q3.2.2 (o + 129) (by omega)).trans hu, fun v' x' e1 => by cases e1⟩
      · refine ⟨[(0, 15, 18, 26)], (0, 15, 21, 30), _, rfl, ?_, ⟨⟨by decide, by decide⟩, by decide, w_c_Lw_30 HG⟩, fun a => ?_⟩
        · intro y hy
          simp only [List.mem_cons, List.not_mem_nil, or_false] at hy
          subst hy
          exact ⟨_, by decide, w_c_Lw_26 HG, nc_AE_ISE HG⟩
        · show z_V G m_Lw_same (d + 7) 21 _ [.ref a] _ _
          refine z_astore_n d_Lw_same_21 rfl (by decide) ?_
          refine z_iconst (v := nI 2) d_Lw_same_22 (by decide) ?_
          exact z_ireturn d_Lw_same_23 rfl rfl ⟨by rw [show kcode [z_ISE, z_AE] (.inl z_AE) = 2 by decide +kernel], kz, fun y y1 y2 => q3.2.2 y y1, ⟨s1, s2⟩, f0, (q3.2.2 (o + 129) (by omega)).trans hu, fun v' x' e1 => by cases e1⟩
end LH
