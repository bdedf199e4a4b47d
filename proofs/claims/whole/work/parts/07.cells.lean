/-! a row's cells: the object r, its numbers at r + 1 -/
abbrev z_G.ca (G : z_G) (k : Nat) : ClassId := (G.tys.getD k (0, .int)).1
def k_ints (G : z_G) (n : Nat) (f : Nat → Int32) : va_E := .inl (G.ca 0, n, .inl f)
def k_row (r n : Nat) : va_E := .inr (0, [.ref (r + 1), .int (nI n)])
def rowAt (G : z_G) (h : z_H) (r n : Nat) (f : Nat → Int32) : Prop := h.2.2 r = some (k_row r n) ∧ h.2.2 (r + 1) = some (k_ints G 40 f)
def rset (G : z_G) (h : z_H) (r n : Nat) (f : Nat → Int32) : z_H := (h.1, h.2.1, va_up (va_up h.2.2 (r + 1) (some (k_ints G 40 f))) r (some (k_row r n)))
/-- behind an exception -/
def z_exc (h : z_H) : z_H := (h.1 + 1, h.2.1 + 6, h.2.2)
/-- there is room for one -/
def z_rm (G : z_G) (h : z_H) : Prop := h.1 + 1 ≤ G.b0 + G.cc ∧ h.2.1 + 6 ≤ G.ss
theorem z_rm.rset {G : z_G} {h : z_H} (H : z_rm G h) (r n : Nat) (f : Nat → Int32) : z_rm G (rset G h r n f) := H
theorem rset_at (G : z_G) (h : z_H) (r n : Nat) (f : Nat → Int32) : rowAt G (rset G h r n f) r n f := by
  refine ⟨va_up_self _ _ _, ?_⟩
  show va_up (va_up h.2.2 (r + 1) _) r _ (r + 1) = _
  rw [va_up_ne _ _ (by omega), va_up_self]
theorem rset_ne (G : z_G) (h : z_H) {r q : Nat} (n : Nat) (f : Nat → Int32) (h1 : q ≠ r) (h2 : q ≠ r + 1) : (rset G h r n f).2.2 q = h.2.2 q := by
  show va_up (va_up h.2.2 (r + 1) _) r _ q = _
  rw [va_up_ne _ _ h1, va_up_ne _ _ h2]
theorem rset_row {G : z_G} {h : z_H} {r r' n' : Nat} {f' : Nat → Int32} (n : Nat) (f : Nat → Int32) (H : rowAt G h r' n' f') (h1 : r' ≠ r) (h2 : r' ≠ r + 1) (h3 : r' + 1 ≠ r) : rowAt G (rset G h r n f) r' n' f' :=
  ⟨(rset_ne G h n f h1 h2).trans H.1, (rset_ne G h n f h3 (by omega)).trans H.2⟩
theorem rset_rset (G : z_G) (h : z_H) (r n m : Nat) (f g : Nat → Int32) : rset G (rset G h r n f) r m g = rset G h r m g := by
  unfold rset
  refine congrArg (fun z => (h.1, h.2.1, z)) ?_
  funext q
  simp only [va_up]
  split
  · rfl
  · split <;> rfl
theorem rset_self {G : z_G} {h : z_H} {r n : Nat} {f : Nat → Int32} (H : rowAt G h r n f) : rset G h r n f = h := by
  unfold rset
  obtain ⟨a, b, u⟩ := h
  refine congrArg (fun z => (a, b, z)) ?_
  funext q
  simp only [va_up]
  split
  · rename_i e
    rw [e]
    exact H.1.symm
  · split
    · rename_i e
      rw [e]
      exact H.2.symm
    · rfl
theorem rset_len {G : z_G} {h : z_H} {r n : Nat} {f : Nat → Int32} (m : Nat) (H : rowAt G h r n f) : z_set h r (k_row r m) = rset G h r m f := by
  unfold rset z_set
  refine congrArg (fun z => (h.1, h.2.1, z)) ?_
  funext q
  simp only [va_up]
  split
  · rfl
  · split
    · rename_i e
      rw [e]
      exact H.2
    · rfl
theorem l_gl {l1 l2 : List Nat} {i : Nat} (h : i < l1.length) : (l1 ++ l2).getD i 0 = l1.getD i 0 := by
  rw [List.getD_eq_getElem?_getD, List.getD_eq_getElem?_getD, List.getElem?_append_left h]
theorem l_gr {l1 l2 : List Nat} {i : Nat} (h : l1.length ≤ i) : (l1 ++ l2).getD i 0 = l2.getD (i - l1.length) 0 := by
  rw [List.getD_eq_getElem?_getD, List.getD_eq_getElem?_getD, List.getElem?_append_right h]
/-- the numbers of a list, behind the first n -/
def k_app (f : Nat → Int32) (n : Nat) (l : List Nat) : Nat → Int32 := fun j => if n ≤ j ∧ j < n + l.length then nI (l.getD (j - n) 0) else f j
theorem k_app_nil (f : Nat → Int32) (n : Nat) : k_app f n [] = f := by
  funext j
  unfold k_app
  rw [if_neg (by simp only [List.length_nil]; omega)]
theorem k_app_one (f : Nat → Int32) (n v : Nat) : upd f n (nI v) = k_app f n [v] := by
  funext j
  unfold k_app upd
  by_cases h : j = n
  · subst h
    rw [if_pos rfl, if_pos (by simp only [List.length_cons, List.length_nil]; omega), Nat.sub_self]
    rfl
  · rw [if_neg h, if_neg (by simp only [List.length_cons, List.length_nil]; omega)]
theorem k_app_app (f : Nat → Int32) (n : Nat) (l1 l2 : List Nat) : k_app (k_app f n l1) (n + l1.length) l2 = k_app f n (l1 ++ l2) := by
  funext j
  unfold k_app
  simp only [List.length_append]
  by_cases h1 : n + l1.length ≤ j ∧ j < n + l1.length + l2.length
  · rw [if_pos h1, if_pos (by omega), l_gr (by omega), Nat.sub_add_eq]
  · rw [if_neg h1]
    by_cases h2 : n ≤ j ∧ j < n + l1.length
    · rw [if_pos h2, if_pos (by omega), l_gl (by omega)]
    · rw [if_neg h2, if_neg (by omega)]
/-- the row's numbers are the list's -/
def rl (f : Nat → Int32) (l : List Nat) : Prop := l.length ≤ 40 ∧ ∀ i, i < l.length → f i = nI (l.getD i 0) ∧ l.getD i 0 < 1000
theorem rl_app {f : Nat → Int32} {l1 l2 : List Nat} (h : rl f l1) (hl : l1.length + l2.length ≤ 40) (hb : ∀ v ∈ l2, v < 1000) : rl (k_app f l1.length l2) (l1 ++ l2) := by
  refine ⟨by rw [List.length_append]; exact hl, fun i hi => ?_⟩
  rw [List.length_append] at hi
  unfold k_app
  by_cases h1 : i < l1.length
  · rw [if_neg (by omega), l_gl h1]
    exact h.2 i h1
  · rw [if_pos (by omega), l_gr (by omega)]
    refine ⟨rfl, ?_⟩
    have h2 : i - l1.length < l2.length := by omega
    rw [List.getD_eq_getElem?_getD, List.getElem?_eq_getElem h2]
    exact hb _ (List.getElem_mem h2)
