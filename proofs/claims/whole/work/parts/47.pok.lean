/-! every call keeps the invariant -/
theorem p_wf_mono {n m : Nat} (hnm : n ≤ m) : ∀ {l S : List Nat}, p_wf n S l → p_wf m S l
  | [], S, h => by cases S <;> exact h
  | v :: l, [], h => h.elim
  | v :: l, d :: S, h => by
    have h1 : v < 5 ∨ 10 ≤ v ∧ v < 18 ∨ 100 ≤ v ∧ v < 100 + d + n := h.1
    exact ⟨by omega, p_wf_mono hnm h.2⟩
theorem p_norm_wf1 {n : Nat} {Rs : List pR} (hR : p_rsok Rs) : ∀ {c : Nat} {x : List Nat} {z : Nat × List Nat}, p_wf n [0] x → p_norm Rs c x = some z → p_wf n [0] z.2
  | 0, x, z, _, hy => by cases hy
  | c + 1, x, z, h, hy => by
    unfold p_norm at hy
    cases hs : p_step Rs x with
    | none =>
      rw [hs] at hy
      cases hy
      exact h
    | some y =>
      rw [hs] at hy
      simp only [] at hy
      split at hy
      · cases hn : p_norm Rs c y with
        | none =>
          rw [hn] at hy
          cases hy
        | some w =>
          rw [hn] at hy
          cases hy
          have := p_norm_wf1 hR (p_step_wf h hR hs) hn
          exact this
      · cases hy
/-- the answer's kernel keeps the invariant -/
def p_ret (r : String ⊕ (Option Value × pK)) : Prop := ∀ v, r = .inr v → pok v.2
theorem p_ret_x (X : String) : p_ret (.inl X) := fun v e => by cases e
theorem p_ret_v {v : Option Value × pK} (h : pok v.2) : p_ret (.inr v) := fun v' e => by cases e; exact h
theorem p_wf_v {n v : Nat} (h : v < 2 ∨ 10 ≤ v ∧ v < 18 ∨ 100 ≤ v ∧ v < 100 + n) : p_wf n [0] [v] := by
  refine ⟨by omega, ?_⟩
  have e : p_aw v 0 [] = [] := by
    unfold p_aw
    have : p_two v = false := by
      rcases h with h | h | h
      · have : v = 0 ∨ v = 1 := by omega
        rcases this with rfl | rfl <;> rfl
      · exact p_two_ge (by omega)
      · exact p_two_ge (by omega)
    rw [this]
    rfl
  rw [e]
  rfl
theorem p_wf_two {n : Nat} {l1 l2 : List Nat} (h1 : p_wf n [0] l1) (h2 : p_wf n [0] l2) : p_wf n [0] (2 :: (l1 ++ l2)) := ⟨Or.inl (by omega), p_wf_app (S1 := [0]) (S2 := [0]) h1 h2⟩
theorem p_wf_bnd {n v : Nat} (hv : v = 3 ∨ v = 4) {l1 l2 : List Nat} (h1 : p_wf n [0] l1) (h2 : p_wf (n + 1) [0] l2) : p_wf n [0] (v :: (l1 ++ l2)) := by
  refine ⟨Or.inl (by omega), ?_⟩
  have e : p_aw v 0 [] = [0] ++ [1] := by rcases hv with rfl | rfl <;> rfl
  rw [e]
  exact p_wf_app h1 (p_wf_sh1.mpr h2)
section PO
variable {K : pK}
theorem pok.push {J : pJ} (P : pok K) (h1 : J.1 ≤ K.2.1.length) (h2 : p_wf J.1 [0] J.2.1) (h3 : p_wf J.1 [0] J.2.2) : pok (J :: K.1, K.2) := by
  refine ⟨fun J' hJ => ?_, P.2⟩
  rcases List.mem_cons.mp hJ with rfl | hJ
  · exact ⟨h1, h2, h3⟩
  · exact P.1 J' hJ
theorem pok_sort (P : pok K) : p_ret (k_sort K) := by
  unfold k_sort
  split
  · exact p_ret_x _
  · exact p_ret_v (P.push (Nat.le_refl _) (p_wf_v (by omega)) (p_wf_v (by omega)))
theorem k_ix_lt {i : Int32} {n j : Nat} (hn : n < 2 ^ 31) (h : k_ix i n = some j) : j < n := by
  rcases k_ix_cases i hn with ⟨e, -⟩ | ⟨j', hj, -, e, -⟩
  · rw [e] at h
    cases h
  · rw [e] at h
    cases h
    exact hj
theorem pok_const (P : pok K) (h8 : K.2.2.1.length ≤ 8) (i : Int32) : p_ret (k_const K i) := by
  unfold k_const
  cases hi : k_ix i K.2.2.1.length with
  | none => exact p_ret_x _
  | some j =>
    have hj := k_ix_lt (by omega) hi
    simp only []
    split
    · exact p_ret_x _
    · have hJ := List.getElem?_eq_getElem hj
      have hm := P.2.2.1 _ (List.mem_of_getElem? hJ)
      rw [hJ]
      exact p_ret_v (P.push (Nat.le_refl _) (p_wf_v (by omega)) (p_wf_mono (Nat.zero_le _) hm))
theorem pok_var (P : pok K) (h4 : K.2.1.length ≤ 4) (i : Int32) : p_ret (k_var K i) := by
  unfold k_var
  cases hi : k_ix i K.2.1.length with
  | none => exact p_ret_x _
  | some j =>
    have hj := k_ix_lt (by omega) hi
    simp only []
    split
    · exact p_ret_x _
    · have hJ := List.getElem?_eq_getElem hj
      have hm := P.2.1 j _ hJ
      have h2 := (p_lift_wl (k := j + 1) hm).2
      rw [show K.2.1.length - 1 - j + (j + 1) = K.2.1.length by omega] at h2
      rw [hJ]
      exact p_ret_v (P.push (Nat.le_refl _) (p_wf_v (by omega)) h2)
theorem pok_drop (P : pok K) : p_ret (k_drop K) := by
  obtain ⟨js, K2⟩ := K
  cases js with
  | nil => exact p_ret_v P
  | cons J js => exact p_ret_v ⟨fun J' hJ => P.1 J' (List.mem_cons_of_mem _ hJ), P.2⟩
theorem p_cnt0 {js : List pJ} {n : Nat} (h : p_cnt js n = 0) : ∀ J ∈ js, J.1 ≠ n := by
  intro J hJ e
  unfold p_cnt at h
  rw [List.countP_eq_zero] at h
  exact h J hJ (by simp [e])
theorem p_ctx_tl {c : List Nat} {cs : List (List Nat)} (h : ∀ k c', (c :: cs)[k]? = some c' → p_wf ((c :: cs).length - 1 - k) [0] c') : ∀ k c', cs[k]? = some c' → p_wf (cs.length - 1 - k) [0] c' := by
  intro k c' hk
  have := h (k + 1) c' hk
  rw [show (c :: cs).length - 1 - (k + 1) = cs.length - 1 - k by simp; omega] at this
  exact this
theorem pok_leave (P : pok K) : p_ret (k_leave K) := by
  obtain ⟨js, cs, K2⟩ := K
  cases cs with
  | nil => exact p_ret_v P
  | cons c cs =>
    show p_ret (if p_cnt js (c :: cs).length = 0 then .inr (some (.int (nI 1)), (js, cs, K2)) else .inr (some (.int (nI 0)), (js, c :: cs, K2)))
    split
    · rename_i h0
      refine p_ret_v ⟨fun J hJ => ?_, p_ctx_tl P.2.1, P.2.2⟩
      obtain ⟨p1, p2⟩ := P.1 J hJ
      have p1 : J.1 ≤ cs.length + 1 := p1
      have : J.1 ≠ cs.length + 1 := p_cnt0 h0 J hJ
      exact ⟨by show J.1 ≤ cs.length; omega, p2⟩
    · exact p_ret_v P
theorem pok_assume (P : pok K) : p_ret (k_assume K) := by
  obtain ⟨js, cs, K2⟩ := K
  cases js with
  | nil => exact p_ret_x _
  | cons J js =>
    show p_ret (if J.1 = cs.length then (if cs.length = 4 then .inl z_UOE else if J.2.2 = [0] then .inr (none, (js, J.2.1 :: cs, K2)) else .inl z_IAE) else .inl z_ISE)
    split
    · rename_i hJ
      split
      · exact p_ret_x _
      · split
        · refine p_ret_v ⟨fun J' hJ' => ?_, fun k c hk => ?_, P.2.2⟩
          · obtain ⟨p1, p2⟩ := P.1 J' (List.mem_cons_of_mem _ hJ')
            have p1 : J'.1 ≤ cs.length := p1
            exact ⟨by show J'.1 ≤ cs.length + 1; omega, p2⟩
          · cases k with
            | zero =>
              cases hk
              have := (P.1 J List.mem_cons_self).2.1
              rw [hJ] at this
              exact this
            | succ k =>
              have := P.2.1 k c hk
              have e : (J.2.1 :: cs).length - 1 - (k + 1) = cs.length - 1 - k := by simp; omega
              show p_wf ((J.2.1 :: cs).length - 1 - (k + 1)) [0] c
              rw [e]
              exact this
        · exact p_ret_x _
    · exact p_ret_x _
theorem pok_bind {J : pJ} {js : List pJ} {c : List Nat} {cs : List (List Nat)} {K2 : List (List Nat × Bool) × List pR} {t y : List Nat} (P : pok (J :: js, c :: cs, K2)) (hJ : J.1 = cs.length + 1) (hc : p_cnt (J :: js) (cs.length + 1) ≤ 1) (ht : p_wf cs.length [0] t) (hy : p_wf cs.length [0] y) : pok ((cs.length, t, y) :: js, cs, K2) := by
  refine ⟨fun J' hJ' => ?_, p_ctx_tl P.2.1, P.2.2⟩
  rcases List.mem_cons.mp hJ' with rfl | hJ'
  · exact ⟨Nat.le_refl _, ht, hy⟩
  · obtain ⟨p1, p2⟩ := P.1 J' (List.mem_cons_of_mem _ hJ')
    have p1 : J'.1 ≤ cs.length + 1 := p1
    have h0 : p_cnt js (cs.length + 1) = 0 := by
      unfold p_cnt at hc ⊢
      rw [List.countP_cons_of_pos (by simp [hJ])] at hc
      omega
    have := p_cnt0 h0 J' hJ'
    exact ⟨by show J'.1 ≤ cs.length; omega, p2⟩
theorem pok_lambda (P : pok K) : p_ret (k_lambda K) := by
  obtain ⟨js, cs, K2⟩ := K
  cases js with
  | nil => exact p_ret_x _
  | cons J js =>
    cases cs with
    | nil => exact p_ret_x _
    | cons c cs =>
      unfold k_lambda
      simp only []
      split
      · rename_i hc
        split
        · exact p_ret_x _
        · split
          · have hcx : p_wf cs.length [0] c := P.2.1 0 c rfl
            obtain ⟨-, p2, p3⟩ := P.1 J List.mem_cons_self
            rw [hc.1] at p2 p3
            exact p_ret_v (pok_bind P hc.1 hc.2 (p_wf_bnd (Or.inl rfl) hcx p2) (p_wf_bnd (Or.inr rfl) hcx p3))
          · exact p_ret_x _
      · exact p_ret_x _
theorem pok_product (P : pok K) : p_ret (k_product K) := by
  obtain ⟨js, cs, K2⟩ := K
  cases js with
  | nil => exact p_ret_x _
  | cons J js =>
    cases cs with
    | nil => exact p_ret_x _
    | cons c cs =>
      unfold k_product
      simp only []
      split
      · rename_i hc
        split
        · rename_i hs
          split
          · have hcx : p_wf cs.length [0] c := P.2.1 0 c rfl
            obtain ⟨-, p2, p3⟩ := P.1 J List.mem_cons_self
            rw [hc.1] at p2
            refine p_ret_v (pok_bind P hc.1 hc.2 (p_wf_bnd (Or.inr rfl) hcx p2) ?_)
            rcases hs with hs | hs
            · rw [hs]
              exact p_wf_v (by omega)
            · rw [hs]
              exact p_wf_v (by omega)
          · exact p_ret_x _
        · exact p_ret_x _
      · exact p_ret_x _
theorem pok_declare (P : pok K) (b : Bool) : p_ret (k_declare K b) := by
  obtain ⟨js, cs, ks, Rs⟩ := K
  cases cs with
  | cons c cs => cases js <;> exact p_ret_x _
  | nil =>
    cases js with
    | nil => exact p_ret_x _
    | cons J js =>
      unfold k_declare
      simp only []
      split
      · rename_i h0
        split
        · exact p_ret_x _
        · split
          · refine p_ret_v ⟨fun J' hJ' => P.1 J' (List.mem_cons_of_mem _ hJ'), P.2.1, fun c hc => ?_, P.2.2.2⟩
            rcases List.mem_append.mp hc with hc | hc
            · exact P.2.2.1 c hc
            · cases List.mem_singleton.mp hc
              have := (P.1 J List.mem_cons_self).2.1
              rw [h0] at this
              exact this
          · exact p_ret_x _
      · exact p_ret_x _
theorem pok_normal (P : pok K) : p_ret (k_normal K) := by
  obtain ⟨js, cs, ks, Rs⟩ := K
  cases js with
  | nil => exact p_ret_x _
  | cons J js =>
    unfold k_normal
    simp only []
    cases hz : p_norm Rs 51 J.2.1 with
    | none => exact p_ret_x _
    | some z =>
      obtain ⟨p1, p2, p3⟩ := P.1 J List.mem_cons_self
      refine p_ret_v ⟨fun J' hJ' => ?_, P.2⟩
      rcases List.mem_cons.mp hJ' with rfl | hJ'
      · exact ⟨p1, p_norm_wf1 P.2.2.2 p2 hz, p3⟩
      · exact P.1 J' (List.mem_cons_of_mem _ hJ')
theorem pok_same (P : pok K) : p_ret (k_same K) := by
  unfold k_same
  split
  · split
    · split
      · exact p_ret_x _
      · split
        · exact p_ret_x _
        · exact p_ret_v P
    · exact p_ret_x _
  · exact p_ret_x _
theorem pok_apply (P : pok K) : p_ret (k_apply K) := by
  obtain ⟨js, cs, ks, Rs⟩ := K
  cases js with
  | nil => exact p_ret_x _
  | cons A js =>
    cases js with
    | nil => exact p_ret_x _
    | cons F js =>
      unfold k_apply
      simp only []
      split
      · rename_i hc
        obtain ⟨pa1, pa2, pa3⟩ := P.1 A List.mem_cons_self
        obtain ⟨pf1, pf2, pf3⟩ := P.1 F (List.mem_cons_of_mem _ List.mem_cons_self)
        rw [hc.1] at pa2
        rw [hc.2] at pf2 pf3
        cases hzf : p_norm Rs 51 F.2.2 with
        | none => exact p_ret_x _
        | some zf =>
          simp only []
          split
          · rename_i h4
            cases hza : p_norm Rs 51 A.2.2 with
            | none => exact p_ret_x _
            | some za =>
              simp only []
              split
              · split
                · refine p_ret_v ⟨fun J' hJ' => ?_, P.2⟩
                  rcases List.mem_cons.mp hJ' with rfl | hJ'
                  · exact ⟨Nat.le_refl _, p_wf_two pf2 pa2, p_wf_body (p_norm_wf1 P.2.2.2 pf3 hzf) h4 pa2⟩
                  · exact P.1 J' (List.mem_cons_of_mem _ (List.mem_cons_of_mem _ hJ'))
                · exact p_ret_x _
              · exact p_ret_x _
          · exact p_ret_x _
      · exact p_ret_x _
theorem p_left_ok {ks : List (List Nat × Bool)} {ne : Nat} {l : List Nat} (h : p_left ks ne l = true) : (∀ v ∈ l, v = 2 ∨ 10 ≤ v) ∧ ∀ j, j < ne → 100 + j ∈ l := by
  unfold p_left at h
  rw [Bool.and_eq_true, Bool.and_eq_true, List.all_eq_true, List.all_eq_true] at h
  refine ⟨fun v hv => ?_, fun j hj => ?_⟩
  · obtain ⟨i, hi, rfl⟩ := List.getElem_of_mem hv
    have hm := h.1.2 i (List.mem_range.mpr hi)
    have e : l.getD i 0 = l[i] := by rw [List.getD_eq_getElem?_getD, List.getElem?_eq_getElem hi]; rfl
    unfold p_may at hm
    rw [e] at hm
    split at hm
    · omega
    · simp at hm
      omega
  · have hm := of_decide_eq_true (h.2 j (List.mem_range.mpr hj))
    exact List.count_pos_iff.mp (by omega)
theorem pok_rule (P : pok K) (h4 : K.2.1.length ≤ 4) : p_ret (k_rule K) := by
  obtain ⟨js, cs, ks, Rs⟩ := K
  cases js with
  | nil => exact p_ret_x _
  | cons B js =>
    cases js with
    | nil => exact p_ret_x _
    | cons A js =>
      unfold k_rule
      simp only []
      split
      · rename_i hc
        obtain ⟨pb1, pb2, pb3⟩ := P.1 B List.mem_cons_self
        obtain ⟨pa1, pa2, pa3⟩ := P.1 A (List.mem_cons_of_mem _ List.mem_cons_self)
        rw [hc.1] at pb2
        rw [hc.2] at pa2
        split
        · split
          · exact p_ret_x _
          · split
            · rename_i hl
              cases hza : p_norm Rs 51 A.2.2 with
              | none => exact p_ret_x _
              | some za =>
                simp only []
                cases hzb : p_norm Rs 51 B.2.2 with
                | none => exact p_ret_x _
                | some zb =>
                  simp only []
                  split
                  · refine p_ret_v ⟨fun J' hJ' => absurd hJ' (by simp), fun k c hk => absurd hk (by simp), P.2.2.1, fun R hR => ?_⟩
                    rcases List.mem_append.mp hR with hR | hR
                    · exact P.2.2.2 R hR
                    · cases List.mem_singleton.mp hR
                      obtain ⟨q1, q2⟩ := p_left_ok hl
                      exact ⟨pa2, pb2, q1, q2, h4⟩
                  · exact p_ret_x _
            · exact p_ret_x _
        · exact p_ret_x _
      · exact p_ret_x _
end PO
