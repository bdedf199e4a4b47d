/-! the reference's rows: row r has its length at r, its numbers from 40 * r on -/
def mrow (A : Nat → Nat → Int32) (r : Nat) (l : List Nat) : Prop := A 2 r = nI l.length ∧ l.length ≤ 40 ∧ ∀ i, i < l.length → A 1 (40 * r + i) = nI (l.getD i 0) ∧ l.getD i 0 < 1000
/-- row r has got the numbers l, else nothing has changed -/
def m_wr (A A' : Nat → Nat → Int32) (r : Nat) (l : List Nat) : Prop := (∀ k, k ≠ 1 → k ≠ 2 → A' k = A k) ∧ (∀ j, j ≠ r → A' 2 j = A 2 j) ∧ (∀ y, y < 40 * r ∨ 40 * r + 40 ≤ y → A' 1 y = A 1 y) ∧ mrow A' r l
/-- too long, where b says so -/
def m_tl (s : Nat → Int32) (b : Bool) : Nat → Int32 := if b = true then va_up s 10 (nI 1) else s
/-- the numbers w are put behind the row r -/
def m_ad (r : Nat) (l w : List Nat) (s : Nat → Int32) (A : Nat → Nat → Int32) (s' : Nat → Int32) (A' : Nat → Nat → Int32) : Prop := s' = m_tl s (decide (40 < l.length + w.length)) ∧ m_wr A A' r ((l ++ w).take 40)
section MR
variable {A A1 A2 A' : Nat → Nat → Int32} {s s1 s2 : Nat → Int32} {r r' v : Nat} {l l' l1 l2 w w1 w2 : List Nat}
theorem mrow.eq (H : mrow A r l) {i : Nat} (hi : i < l.length) : A 1 (40 * r + i) = nI (l.getD i 0) := (H.2.2 i hi).1
theorem mrow.lt (H : mrow A r l) {i : Nat} (hi : i < l.length) : l.getD i 0 < 1000 := (H.2.2 i hi).2
theorem mrow.len (H : mrow A r l) : l.length ≤ 40 := H.2.1
theorem m_wr.row (H : m_wr A A' r l) : mrow A' r l := H.2.2.2
theorem m_wr.keep (H : m_wr A A' r l) (hr : r' ≠ r) (h : mrow A r' l') : mrow A' r' l' := by
  obtain ⟨-, b, c, -⟩ := H
  refine ⟨(b r' hr).trans h.1, h.2.1, fun i hi => ⟨(c _ ?_).trans (h.2.2 i hi).1, (h.2.2 i hi).2⟩⟩
  have := h.2.1
  omega
theorem m_wr.tr (H1 : m_wr A A1 r l1) (H2 : m_wr A1 A2 r l2) : m_wr A A2 r l2 :=
  ⟨fun k h1 h2 => (H2.1 k h1 h2).trans (H1.1 k h1 h2), fun j hj => (H2.2.1 j hj).trans (H1.2.1 j hj), fun y hy => (H2.2.2.1 y hy).trans (H1.2.2.1 y hy), H2.2.2.2⟩
theorem m_wr.self (h : mrow A r l) : m_wr A A r l := ⟨fun _ _ _ => rfl, fun _ _ => rfl, fun _ _ => rfl, h⟩
theorem m_tl_no (s : Nat → Int32) {b : Bool} (h : b = false) : m_tl s b = s := by
  unfold m_tl
  rw [h]
  rfl
theorem va_up_up {α : Type} (f : Nat → α) (k : Nat) (u v : α) : va_up (va_up f k u) k v = va_up f k v := by
  funext j
  simp only [va_up]
  split <;> rfl
theorem m_tl_tl (s : Nat → Int32) (a b : Bool) : m_tl (m_tl s a) b = m_tl s (a || b) := by
  unfold m_tl
  cases a <;> cases b <;> simp [va_up_up]
theorem m_tl_ne (s : Nat → Int32) (b : Bool) {k : Nat} (hk : k ≠ 10) : m_tl s b k = s k := by
  unfold m_tl
  split
  · exact va_up_ne _ _ hk
  · rfl
theorem l_t40 (h : l.length ≤ 40) : l.take 40 = l := List.take_of_length_le h
theorem l_tt : ((l ++ w1).take 40 ++ w2).take 40 = (l ++ (w1 ++ w2)).take 40 := by
  rw [← List.append_assoc]
  by_cases h1 : (l ++ w1).length ≤ 40
  · rw [l_t40 h1]
  · have h2 : ((l ++ w1).take 40).length = 40 := by rw [List.length_take]; omega
    rw [List.take_append_of_le_length (by omega), List.take_append_of_le_length (l₁ := l ++ w1) (by omega), l_t40 (by omega)]
theorem m_ad.tr (hl : l.length ≤ 40) (h1 : m_ad r l w1 s A s1 A1) (h2 : m_ad r ((l ++ w1).take 40) w2 s1 A1 s2 A2) : m_ad r l (w1 ++ w2) s A s2 A2 := by
  obtain ⟨e1, k1⟩ := h1
  obtain ⟨e2, k2⟩ := h2
  refine ⟨?_, ?_⟩
  · rw [e2, e1, m_tl_tl, ← Bool.decide_or]
    congr 1
    apply decide_eq_decide.mpr
    rw [List.length_take, List.length_append, List.length_append]
    omega
  · rw [← l_tt]
    exact k1.tr k2
theorem m_ad.nil (h : mrow A r l) : m_ad r l [] s A s A := by
  have h40 := h.len
  refine ⟨?_, ?_⟩
  · rw [m_tl_no]
    simp only [List.length_nil]
    exact decide_eq_false (by omega)
  · rw [List.append_nil, l_t40 h40]
    exact m_wr.self h
theorem m_ad.row (H : m_ad r l w s A s1 A1) : mrow A1 r ((l ++ w).take 40) := H.2.row
theorem m_ad.keep (H : m_ad r l w s A s1 A1) (hr : r' ≠ r) (h : mrow A r' l') : mrow A1 r' l' := H.2.keep hr h
theorem m_ad.arr (H : m_ad r l w s A s1 A1) {k : Nat} (h1 : k ≠ 1) (h2 : k ≠ 2) : A1 k = A k := H.2.1 k h1 h2
theorem m_wr.app (h : mrow A r l) (hl : l.length < 40) (hv : v < 1000) : m_wr A (va_up (va_up A 1 (upd (A 1) (40 * r + l.length) (nI v))) 2 (upd (A 2) r (nI (l.length + 1)))) r (l ++ [v]) := by
  refine ⟨fun k h1 h2 => ?_, fun j hj => ?_, fun y hy => ?_, ?_, ?_, fun i hi => ?_⟩
  · rw [va_up_ne _ _ h2, va_up_ne _ _ h1]
  · rw [va_up_self]
    exact if_neg hj
  · rw [va_up_ne _ _ (by omega), va_up_self]
    exact if_neg (by omega)
  · rw [va_up_self, List.length_append]
    exact if_pos rfl
  · rw [List.length_append]
    exact hl
  · rw [List.length_append] at hi
    rw [va_up_ne _ _ (by omega), va_up_self]
    by_cases e : i = l.length
    · subst e
      rw [l_gr (Nat.le_refl _), Nat.sub_self]
      exact ⟨if_pos rfl, hv⟩
    · have hi2 : i < l.length := by
        simp only [List.length_cons, List.length_nil] at hi
        omega
      rw [l_gl hi2]
      exact ⟨(if_neg (by omega)).trans (h.eq hi2), h.lt hi2⟩
theorem m_ad.one (h : mrow A r l) (hl : l.length < 40) (hv : v < 1000) : m_ad r l [v] s A s (va_up (va_up A 1 (upd (A 1) (40 * r + l.length) (nI v))) 2 (upd (A 2) r (nI (l.length + 1)))) := by
  refine ⟨?_, ?_⟩
  · rw [m_tl_no]
    exact decide_eq_false (by simp only [List.length_cons, List.length_nil]; omega)
  · rw [l_t40 (by rw [List.length_append]; exact hl)]
    exact m_wr.app h hl hv
theorem m_ad.full (h : mrow A r l) (hl : l.length = 40) : m_ad r l [v] s A (va_up s 10 (nI 1)) A := by
  refine ⟨?_, ?_⟩
  · unfold m_tl
    rw [if_pos (decide_eq_true (by simp only [List.length_cons, List.length_nil]; omega))]
  · rw [List.take_append_of_le_length (by omega), l_t40 (by omega)]
    exact m_wr.self h
theorem m_wr.zero (A : Nat → Nat → Int32) (r : Nat) : m_wr A (va_up A 2 (upd (A 2) r (nI 0))) r [] := by
  refine ⟨fun k h1 h2 => va_up_ne _ _ h2, fun j hj => ?_, fun y hy => ?_, ?_, by decide, fun i hi => absurd hi (Nat.not_lt_zero _)⟩
  · rw [va_up_self]
    exact if_neg hj
  · rw [va_up_ne _ _ (by omega)]
  · rw [va_up_self]
    exact if_pos rfl
/-- a list put into an empty row -/
theorem m_ad.fresh (hw : w.length ≤ 40) (h0 : m_wr A A1 r []) (h : m_ad r [] w s A1 s1 A2) : s1 = s ∧ m_wr A A2 r w := by
  obtain ⟨e, k⟩ := h
  rw [m_tl_no _ (decide_eq_false (by simp only [List.length_nil]; omega))] at e
  rw [List.nil_append, l_t40 hw] at k
  exact ⟨e, h0.tr k⟩
/-! the depths of a walk -/
def dpA (f : Nat → Int32) (b : Nat) : Nat → List Nat → List Nat → Prop
  | _, _, [] => True
  | _, [], _ :: _ => True
  | i, d :: S, v :: l => f i = nI (b + d) ∧ dpA f b (i + 1) (p_aw v d S) l
theorem dpA_nil (f : Nat → Int32) (b i : Nat) (l : List Nat) : dpA f b i [] l := by cases l <;> trivial
theorem dpA.sub {f : Nat → Int32} {b c : Nat} : ∀ {l : List Nat} {i : Nat} {S S2 : List Nat}, dpA f b i (S.map (· + c) ++ S2) l → dpA f (b + c) i S l
  | [], _, S, _, _ => by cases S <;> trivial
  | v :: l, i, [], _, _ => trivial
  | v :: l, i, d :: S, S2, h => by
    have h2 : dpA f b (i + 1) (p_aw v (d + c) (S.map (· + c) ++ S2)) l := h.2
    rw [p_aw_app, p_aw_map] at h2
    exact ⟨h.1.trans (by rw [Nat.add_assoc, Nat.add_comm c d]), dpA.sub h2⟩
/-- at a place of the row: the depth there, and the walk from it on -/
theorem dpA.at {f : Nat → Int32} {b n : Nat} : ∀ {l : List Nat} {S : List Nat} {i p : Nat}, dpA f b i S l → p_wf n S l → p < l.length → ∃ d S', p_st S l p = d :: S' ∧ f (i + p) = nI (b + d) ∧ dpA f (b + d) (i + p) [0] (l.drop p)
  | [], S, i, p, _, _, hp => absurd hp (Nat.not_lt_zero _)
  | v :: l, [], i, p, _, hw, _ => hw.elim
  | v :: l, d :: S, i, 0, h, hw, _ => by
    refine ⟨d, S, rfl, h.1, ?_⟩
    have h2 : dpA f b i (([0] : List Nat).map (· + d) ++ S) (v :: l) := by
      have e : ([0] : List Nat).map (· + d) ++ S = d :: S := by simp
      rw [e]
      exact h
    exact dpA.sub h2
  | v :: l, d :: S, i, p + 1, h, hw, hp => by
    have h1 := dpA.at (p := p) h.2 hw.2 (by simpa using hp)
    rw [Nat.add_assoc, Nat.add_comm 1 p] at h1
    exact h1
end MR
