/-! the reference: its object at q with the scalars s, its ten arrays behind it -/
def md_ty (k : Nat) : Nat := if k = 4 then 2 else 0
def md_ln (k : Nat) : Nat := match k with
  | 1 => 1720
  | 2 => 43
  | 3 => 6
  | 4 => 8
  | 5 => 8
  | 6 => 40
  | 7 => 40
  | 8 => 48
  | _ => 4
theorem md_ln_le (k : Nat) : md_ln k ≤ 1720 := by
  unfold md_ln
  split <;> omega
abbrev md_fs (q : Nat) (s : Nat → Int32) : List Value := [.int (s 0), .ref (q + 1), .ref (q + 2), .int (s 3), .ref (q + 3), .int (s 5), .int (s 6), .ref (q + 4), .int (s 8), .ref (q + 5), .int (s 10), .ref (q + 6), .ref (q + 7), .ref (q + 8), .ref (q + 9), .ref (q + 10)]
def md_c (G : z_G) (q : Nat) (s : Nat → Int32) (A : Nat → Nat → Int32) : Nat → va_E
  | 0 => .inr (6, md_fs q s)
  | k + 1 => .inl (G.ca (md_ty (k + 1)), md_ln (k + 1), .inl (A (k + 1)))
def md (G : z_G) (h : z_H) (q : Nat) (s : Nat → Int32) (A : Nat → Nat → Int32) : z_H := (h.1, h.2.1, fun y => if q ≤ y ∧ y ≤ q + 10 then some (md_c G q s A (y - q)) else h.2.2 y)
section MB
variable {G : z_G} {h : z_H} {q : Nat} {s s' : Nat → Int32} {A : Nat → Nat → Int32}
theorem md_in {j : Nat} (hj : j ≤ 10) : (md G h q s A).2.2 (q + j) = some (md_c G q s A j) := by
  show (if q ≤ q + j ∧ q + j ≤ q + 10 then some (md_c G q s A (q + j - q)) else h.2.2 (q + j)) = _
  rw [if_pos (by omega), Nat.add_sub_cancel_left]
theorem md_out {y : Nat} (hy : y < q ∨ q + 10 < y) : (md G h q s A).2.2 y = h.2.2 y := by
  show (if q ≤ y ∧ y ≤ q + 10 then some (md_c G q s A (y - q)) else h.2.2 y) = _
  rw [if_neg (by omega)]
theorem md_o : (md G h q s A).2.2 q = some (.inr (6, md_fs q s)) := md_in (j := 0) (by omega)
theorem md_a {k : Nat} (h1 : 1 ≤ k) (h2 : k ≤ 10) : (md G h q s A).2.2 (q + k) = some (.inl (G.ca (md_ty k), md_ln k, .inl (A k))) := by
  obtain ⟨j, rfl⟩ : ∃ j, k = j + 1 := ⟨k - 1, by omega⟩
  exact md_in h2
theorem md_set0 : z_set (md G h q s A) q (.inr (6, md_fs q s')) = md G h q s' A := by
  refine congrArg (fun z => ((h.1, h.2.1, z) : z_H)) ?_
  funext y
  by_cases hy : y = q
  · subst hy
    exact (va_up_self _ _ _).trans (md_o (s := s')).symm
  · rw [va_up_ne _ _ hy]
    show (if q ≤ y ∧ y ≤ q + 10 then some (md_c G q s A (y - q)) else h.2.2 y) = (if q ≤ y ∧ y ≤ q + 10 then some (md_c G q s' A (y - q)) else h.2.2 y)
    by_cases h1 : q ≤ y ∧ y ≤ q + 10
    · obtain ⟨j, hj⟩ : ∃ j, y - q = j + 1 := ⟨y - q - 1, by omega⟩
      rw [if_pos h1, if_pos h1, hj]
      rfl
    · rw [if_neg h1, if_neg h1]
theorem md_setA {k : Nat} (h1 : 1 ≤ k) (h2 : k ≤ 10) (f : Nat → Int32) : z_set (md G h q s A) (q + k) (.inl (G.ca (md_ty k), md_ln k, .inl f)) = md G h q s (va_up A k f) := by
  refine congrArg (fun z => ((h.1, h.2.1, z) : z_H)) ?_
  funext y
  by_cases hy : y = q + k
  · subst hy
    refine (va_up_self _ _ _).trans ?_
    have e := md_a (G := G) (h := h) (q := q) (s := s) (A := va_up A k f) h1 h2
    rw [va_up_self] at e
    exact e.symm
  · rw [va_up_ne _ _ hy]
    show (if q ≤ y ∧ y ≤ q + 10 then some (md_c G q s A (y - q)) else h.2.2 y) = (if q ≤ y ∧ y ≤ q + 10 then some (md_c G q s (va_up A k f) (y - q)) else h.2.2 y)
    by_cases h3 : q ≤ y ∧ y ≤ q + 10
    · rw [if_pos h3, if_pos h3]
      by_cases h4 : y = q
      · subst h4
        rw [Nat.sub_self]
        rfl
      · obtain ⟨j, hj⟩ : ∃ j, y - q = j + 1 := ⟨y - q - 1, by omega⟩
        rw [hj]
        show some (Sum.inl (_, _, Sum.inl (A (j + 1)))) = some (Sum.inl (_, _, Sum.inl (va_up A k f (j + 1))))
        rw [va_up_ne _ _ (by omega)]
    · rw [if_neg h3, if_neg h3]
variable {mt mtY : z_M} {d dY pc : Nat} {lo : List (Nat × Value)} {st : List Value} {Q : z_R → z_H → Prop}
theorem z_mg (HG : z_ok G) {k idx : Nat} {v : Value} (hd : decode mt.2.1 pc = .ok (.getfield idx, 3)) (L : z_lnk G mt.1.cls idx F_Md k) (hk : k < 16) (hv : (md_fs q s)[k]? = some v) (kk : z_V G mt d (pc + 3) lo (v :: st) (md G h q s A) Q) : z_V G mt d pc lo (.ref q :: st) (md G h q s A) Q :=
  z_getf (K_Md HG) hk L hd md_o hv kk
theorem z_mp (HG : z_ok G) {k idx : Nat} {v : Int32} (hd : decode mt.2.1 pc = .ok (.putfield idx, 3)) (L : z_lnk G mt.1.cls idx F_Md k) (hk : k < 16) (hfin : (F_Md k).2.2.2 = false) (hn : narrow (t_Md k) (.int v) = .int v) (hf : fits (t_Md k) (.int v) = true) (hset : (md_fs q s).set k (.int v) = md_fs q (va_up s k v)) (kk : z_V G mt d (pc + 3) lo st (md G h q (va_up s k v) A) Q) : z_V G mt d pc lo (.int v :: .ref q :: st) (md G h q s A) Q := by
  refine z_putf (K_Md HG) hk L hfin hd md_o hn hf hk ?_
  rw [hset, md_set0]
  exact kk
theorem z_ml (HG : z_ok G) (k : Nat) {j : Nat} {x : Int32} (hd : decode mt.2.1 pc = .ok (.iaload, 1)) (hk : (1 ≤ k ∧ k ≤ 10) ∧ md_ty k = 0) (hj : j < md_ln k) (hx : A k j = x) (kk : z_V G mt d (pc + 1) lo (.int x :: st) (md G h q s A) Q) : z_V G mt d pc lo (.int (nI j) :: .ref (q + k) :: st) (md G h q s A) Q := by
  have hl := md_ln_le k
  have e := md_a (G := G) (h := h) (q := q) (s := s) (A := A) hk.1.1 hk.1.2
  rw [hk.2] at e
  refine z_iald hd (ty0 HG) e (pk_in j _ hj rfl (by omega)) ?_
  rw [nI_clamp (by omega), hx]
  exact kk
theorem z_ms (HG : z_ok G) (k : Nat) {j : Nat} {x : Int32} (hd : decode mt.2.1 pc = .ok (.iastore, 1)) (hk : (1 ≤ k ∧ k ≤ 10) ∧ md_ty k = 0) (hj : j < md_ln k) (kk : z_V G mt d (pc + 1) lo st (md G h q s (va_up A k (upd (A k) j x))) Q) : z_V G mt d pc lo (.int x :: .int (nI j) :: .ref (q + k) :: st) (md G h q s A) Q := by
  have hl := md_ln_le k
  have e := md_a (G := G) (h := h) (q := q) (s := s) (A := A) hk.1.1 hk.1.2
  have e2 := md_setA (G := G) (h := h) (q := q) (s := s) (A := A) hk.1.1 hk.1.2 (upd (A k) j x)
  rw [hk.2] at e e2
  refine z_iast hd (ty0 HG) e (pk_in j _ hj rfl (by omega)) ?_
  rw [nI_clamp (by omega), e2]
  exact kk
theorem z_mlZ (HG : z_ok G) {j : Nat} {x : Int32} (hd : decode mt.2.1 pc = .ok (.baload, 1)) (hj : j < 8) (hx : A 4 j = x) (kk : z_V G mt d (pc + 1) lo (.int x :: st) (md G h q s A) Q) : z_V G mt d pc lo (.int (nI j) :: .ref (q + 4) :: st) (md G h q s A) Q := by
  refine z_zald hd (ty2 HG) (md_a (by omega) (by omega)) (pk_in j 8 hj) ?_
  rw [nI_clamp (by omega), hx]
  exact kk
theorem z_msZ (HG : z_ok G) {j : Nat} {x : Int32} (hd : decode mt.2.1 pc = .ok (.bastore, 1)) (hj : j < 8) (hx : vp_nar .boolean x = x) (kk : z_V G mt d (pc + 1) lo st (md G h q s (va_up A 4 (upd (A 4) j x))) Q) : z_V G mt d pc lo (.int x :: .int (nI j) :: .ref (q + 4) :: st) (md G h q s A) Q := by
  have e2 := md_setA (G := G) (h := h) (q := q) (s := s) (A := A) (k := 4) (by omega) (by omega) (upd (A 4) j x)
  refine z_zast hd (ty2 HG) (md_a (by omega) (by omega)) (pk_in j 8 hj) ?_
  rw [nI_clamp (by omega), hx]
  exact e2 ▸ kk
/-- what a call of the reference answers: never an exception -/
def m_post (G : z_G) (h : z_H) (q : Nat) (P : Option Value → (Nat → Int32) → (Nat → Nat → Int32) → Prop) : z_R → z_H → Prop := fun r h' => ∃ v s' A', r = .inl v ∧ h' = md G h q s' A' ∧ P v s' A'
theorem m_post.mono {P P' : Option Value → (Nat → Int32) → (Nat → Nat → Int32) → Prop} {r : z_R} {h' : z_H} (H : m_post G h q P r h') (k : ∀ v s' A', P v s' A' → P' v s' A') : m_post G h q P' r h' := by
  obtain ⟨v, s', A', e1, e2, p⟩ := H
  exact ⟨v, s', A', e1, e2, k _ _ _ p⟩
theorem z_Vm {P P' : Option Value → (Nat → Int32) → (Nat → Nat → Int32) → Prop} {h0 : z_H} (H : z_V G mt d pc lo st h0 (m_post G h q P)) (k : ∀ v s' A', P v s' A' → P' v s' A') : z_V G mt d pc lo st h0 (m_post G h q P') := H.mono (fun _ _ hh => hh.mono k)
theorem z_mc {as : List Value} {idx n : Nat} (HG : z_ok G) (hd : decode mt.2.1 pc = .ok (.invokevirtual idx, 3)) (hh : mt.2.2.2.2 = []) (hdp : dY + 1 ≤ d) (Y : z_Yv G mt.1.cls idx mtY n) (hn : as.length = n) (hc : mtY.1.cls = R_Md) (hst : (st.map fun v => v.category).sum ≤ 8) {P : Option Value → (Nat → Int32) → (Nat → Nat → Int32) → Prop} (hM : z_C G mtY dY (.ref q :: as) (md G h q s A) (m_post G h q P)) (kk : ∀ v s' A', P v s' A' → z_V G mt d (pc + 3) lo (v.toList ++ st) (md G h q s' A') Q) : z_V G mt d pc lo (as.reverse ++ .ref q :: st) (md G h q s A) Q := by
  refine z_callV hd hh hdp Y hn md_o (by rw [hc]; exact cl_Md HG) hst hM (fun v h' hq => ?_) (fun X h' hq => ?_)
  · obtain ⟨v', s', A', e1, rfl, p⟩ := hq
    cases e1
    exact kk _ _ _ p
  · obtain ⟨v', s', A', e1, -, -⟩ := hq
    cases e1
theorem z_mr {as : List Value} {idx n : Nat} {x : Value} (HG : z_ok G) (hd : decode mt.2.1 pc = .ok (.invokevirtual idx, 3)) (hh : mt.2.2.2.2 = []) (hdp : dY + 1 ≤ d) (Y : z_Yv G mt.1.cls idx mtY n) (hn : as.length = n) (hc : mtY.1.cls = R_Md) (hst : (st.map fun v => v.category).sum ≤ 8) (hM : z_C G mtY dY (.ref q :: as) (md G h q s A) (z_rq (some x) (md G h q s A))) (kk : z_V G mt d (pc + 3) lo (x :: st) (md G h q s A) Q) : z_V G mt d pc lo (as.reverse ++ .ref q :: st) (md G h q s A) Q := by
  refine z_callV hd hh hdp Y hn md_o (by rw [hc]; exact cl_Md HG) hst hM (fun v h' hq => ?_) (fun X h' hq => ?_)
  · obtain ⟨e1, rfl⟩ := hq
    cases e1
    exact kk
  · obtain ⟨e1, -⟩ := hq
    cases e1
end MB
