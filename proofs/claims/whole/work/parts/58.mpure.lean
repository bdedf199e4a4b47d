/-! what the reference's rewriting needs of rows -/
theorem nI_sn {a b : Nat} (h : a < b) (hb : b < 1000) : nI a - nI b < 0 := by
  obtain ⟨c, rfl⟩ : ∃ c, b = a + c := ⟨b - a, by omega⟩
  have e : nI a - nI (a + c) = - nI c := by
    rw [← nI_add, Int32.sub_eq_add_neg, Int32.neg_add, Int32.sub_eq_add_neg, ← Int32.add_assoc, Int32.add_right_neg, Int32.zero_add]
  rw [e]
  exact (show ∀ c, c < 1000 → 0 < c → - nI c < 0 by decide +kernel) c (by omega) (by omega)
theorem p_end_add : ∀ (l : List Nat) (j k : Nat), p_end (j + k) l = p_end j l + p_end k (l.drop (p_end j l))
  | [], j, k => by rw [p_end_nil, p_end_nil, List.drop_nil, p_end_nil]
  | v :: l, 0, k => by rw [Nat.zero_add, p_end_zero, List.drop_zero, Nat.zero_add]
  | v :: l, j + 1, k => by
    have e : j + 1 + k = j + k + 1 := by omega
    rw [e]
    show p_end (if p_two v = true then j + k + 2 else j + k) l + 1 = (p_end (if p_two v = true then j + 2 else j) l + 1) + p_end k (l.drop (p_end (if p_two v = true then j + 2 else j) l))
    have ih := p_end_add l (if p_two v = true then j + 2 else j) k
    have e2 : (if p_two v = true then j + 2 else j) + k = (if p_two v = true then j + k + 2 else j + k) := by
      split <;> omega
    rw [e2] at ih
    omega
/-- the end of an application of a function, by its parts -/
theorem p_end_beta {x : List Nat} {i : Nat} (h2 : x[i]? = some 2) (h3 : x[i + 1]? = some 3) :
    i + p_end 1 (x.drop i) = (i + 2 + p_end 1 (x.drop (i + 2)) + p_end 1 (x.drop (i + 2 + p_end 1 (x.drop (i + 2))))) + p_end 1 (x.drop (i + 2 + p_end 1 (x.drop (i + 2)) + p_end 1 (x.drop (i + 2 + p_end 1 (x.drop (i + 2)))))) := by
  rw [l_d2 h2, l_d2 h3]
  show i + (p_end 3 (x.drop (i + 2)) + 1 + 1) = _
  have e1 := p_end_add (x.drop (i + 2)) 1 2
  have e2 := p_end_add ((x.drop (i + 2)).drop (p_end 1 (x.drop (i + 2)))) 1 1
  rw [List.drop_drop] at e1 e2
  rw [List.drop_drop] at e2
  rw [show (1 : Nat) + 2 = 3 from rfl] at e1
  rw [show (1 : Nat) + 1 = 2 from rfl] at e2
  omega
theorem mrow.eqv {A A' : Nat → Nat → Int32} {r : Nat} {l : List Nat} (h1 : A' 1 = A 1) (h2 : A' 2 = A 2) (h : mrow A r l) : mrow A' r l := by
  unfold mrow
  rw [h1, h2]
  exact h
/-- only the places of the variables' terms have changed -/
def m_ft (A A' : Nat → Nat → Int32) : Prop := ∀ j, j ≠ 9 → j ≠ 10 → A' j = A j
theorem m_ft.row {A A' : Nat → Nat → Int32} {r : Nat} {l : List Nat} (H : m_ft A A') (h : mrow A r l) : mrow A' r l := h.eqv (H 1 (by decide) (by decide)) (H 2 (by decide) (by decide))
theorem m_ft.tr {A A1 A2 : Nat → Nat → Int32} (H1 : m_ft A A1) (H2 : m_ft A1 A2) : m_ft A A2 := fun j h1 h2 => (H2 j h1 h2).trans (H1 j h1 h2)
/-- the j-th variable's term stands from g j on -/
def m_gt (A : Nat → Nat → Int32) (x : List Nat) (g : Nat → Nat) (j : Nat) : Prop := A 9 j = nI (g j) ∧ A 10 j = nI (g j + p_end 1 (x.drop (g j)))
/-- beside the rows X and Y, and what measures, nothing has changed -/
def m_sx (A A' : Nat → Nat → Int32) : Prop := (∀ j, j ≠ 40 → j ≠ 41 → A' 2 j = A 2 j) ∧ (∀ y, y < 1600 ∨ 1680 ≤ y → A' 1 y = A 1 y) ∧ A' 3 = A 3 ∧ A' 4 = A 4 ∧ A' 5 = A 5
section MX
variable {A A1 A2 A' : Nat → Nat → Int32} {r : Nat} {l : List Nat}
theorem m_sx.rf : m_sx A A := ⟨fun _ _ _ => rfl, fun _ _ => rfl, rfl, rfl, rfl⟩
theorem m_sx.tr (H1 : m_sx A A1) (H2 : m_sx A1 A2) : m_sx A A2 :=
  ⟨fun j a b => (H2.1 j a b).trans (H1.1 j a b), fun y hy => (H2.2.1 y hy).trans (H1.2.1 y hy), H2.2.2.1.trans H1.2.2.1, H2.2.2.2.1.trans H1.2.2.2.1, H2.2.2.2.2.trans H1.2.2.2.2⟩
theorem m_wr.sx (H : m_wr A A' r l) (hr : r = 40 ∨ r = 41) : m_sx A A' :=
  ⟨fun j a b => H.2.1 j (by omega), fun y hy => H.2.2.1 y (by omega), H.1 3 (by decide) (by decide), H.1 4 (by decide) (by decide), H.1 5 (by decide) (by decide)⟩
theorem m_ms.sx {k : Nat} (H : m_ms k A A') (hk : k = 6 ∨ k = 7) : m_sx A A' :=
  ⟨fun j _ _ => congrFun (H 2 (by omega) (by omega)) j, fun y _ => congrFun (H 1 (by omega) (by omega)) y, H 3 (by omega) (by omega), H 4 (by omega) (by omega), H 5 (by omega) (by omega)⟩
theorem m_ft.sx (H : m_ft A A') : m_sx A A' :=
  ⟨fun j _ _ => congrFun (H 2 (by decide) (by decide)) j, fun y _ => congrFun (H 1 (by decide) (by decide)) y, H 3 (by decide) (by decide), H 4 (by decide) (by decide), H 5 (by decide) (by decide)⟩
theorem m_sx.row (H : m_sx A A') (hr : r < 40 ∨ r = 42) (h : mrow A r l) : mrow A' r l := by
  have h40 := h.len
  exact ⟨(H.1 r (by omega) (by omega)).trans h.1, h40, fun i hi => ⟨(H.2.1 _ (by omega)).trans (h.eq hi), h.lt hi⟩⟩
end MX
/-- the rules' rows -/
def m_rs (A : Nat → Nat → Int32) (Rs : List (List Nat × List Nat × Nat)) : Prop := Rs.length ≤ 8 ∧ ∀ k R, Rs[k]? = some R → mrow A (24 + k) R.1 ∧ mrow A (32 + k) R.2.1
theorem m_rs.sx {A A' : Nat → Nat → Int32} {Rs : List (List Nat × List Nat × Nat)} (H : m_rs A Rs) (k : m_sx A A') : m_rs A' Rs :=
  ⟨H.1, fun j R hj => by
    have := (List.getElem?_eq_some_iff.mp hj).1
    have h8 := H.1
    exact ⟨k.row (by omega) (H.2 j R hj).1, k.row (by omega) (H.2 j R hj).2⟩⟩
theorem nI_jn {v d : Nat} (h : v < 100 + d) (hb : d < 800) : nI v - nI 100 - nI d < 0 := by
  rw [nI_sub2]
  exact nI_sn h (by omega)
theorem nI_jp {v d : Nat} (h : 100 + d ≤ v) : nI v - nI 100 - nI d = nI (v - 100 - d) := by
  rw [pk_sub (by omega), pk_sub (by omega)]
/-- numbers put behind the row Y, with X and what measures free -/
def m_ax (l w : List Nat) (s : Nat → Int32) (A : Nat → Nat → Int32) (s' : Nat → Int32) (A' : Nat → Nat → Int32) : Prop := s' = m_tl s (decide (40 < l.length + w.length)) ∧ m_sx A A' ∧ mrow A' 41 ((l ++ w).take 40)
section MY
variable {A A1 A2 A' : Nat → Nat → Int32} {s s1 s2 : Nat → Int32} {l w w1 w2 : List Nat}
theorem m_ad.ax (H : m_ad 41 l w s A s1 A1) : m_ax l w s A s1 A1 := ⟨H.1, H.2.sx (Or.inr rfl), H.row⟩
theorem m_ax.pre (k : m_sx A A1) (H : m_ax l w s A1 s1 A2) : m_ax l w s A s1 A2 := ⟨H.1, k.tr H.2.1, H.2.2⟩
theorem m_ax.ms (H : m_ax l w s A s1 A1) (k : m_ms 7 A1 A2) : m_ax l w s A s1 A2 := ⟨H.1, H.2.1.tr (k.sx (Or.inr rfl)), k.row (Or.inr rfl) H.2.2⟩
theorem m_ax.tr (hl : l.length ≤ 40) (h1 : m_ax l w1 s A s1 A1) (h2 : m_ax ((l ++ w1).take 40) w2 s1 A1 s2 A2) : m_ax l (w1 ++ w2) s A s2 A2 := by
  obtain ⟨e1, k1, -⟩ := h1
  obtain ⟨e2, k2, k3⟩ := h2
  refine ⟨?_, k1.tr k2, ?_⟩
  · rw [e2, e1, m_tl_tl, ← Bool.decide_or]
    congr 1
    apply decide_eq_decide.mpr
    rw [List.length_take, List.length_append, List.length_append]
    omega
  · rw [← l_tt]
    exact k3
end MY
/-- each variable's term stands within the row -/
theorem p_match_lt {n i : Nat} {x : List Nat} {R : List Nat × List Nat × Nat} {g : Nat → Nat} (h : p_wf n [0] x) (hi : i < x.length) (hR : p_rok R) (hm : (p_match R.2.2 x R.1 i g).1 = true) : ∀ j, j < R.2.2 → (p_match R.2.2 x R.1 i g).2 j < x.length := by
  obtain ⟨r1, r2, r3, r4, r5⟩ := hR
  obtain ⟨k1, -⟩ := p_wf_at (i := i) h (Nat.le_of_lt hi)
  have hne : x.drop i ≠ [] := by
    intro hh
    rw [List.drop_eq_getElem_cons hi] at hh
    cases hh
  obtain ⟨d, S, e⟩ := p_wf_ne k1 hne
  rw [e] at k1
  intro j hj
  have H := (p_match_ok (n := n) (d := d) (S' := S) R.1 1 i g k1 (Nat.le_of_lt hi) r1 r3 hm j hj (Or.inl (r4 j hj))).2
  apply Classical.byContradiction
  intro hh
  rw [List.drop_eq_nil_of_le (by omega)] at H
  cases H
theorem l_nd {n d : Nat} {S x : List Nat} {i : Nat} (h : p_wf n (d :: S) (x.drop i)) : i < x.length := by
  apply Classical.byContradiction
  intro hh
  rw [List.drop_eq_nil_of_le (by omega)] at h
  cases h
theorem p_wf_200 {n : Nat} {x : List Nat} (h : p_wf n [0] x) (hn : n ≤ 4) (h40 : x.length ≤ 40) : ∀ v ∈ x, v < 200 := fun v hv => by
  have := p_wf_lt (m := 0) h (fun y hy => by simp at hy; omega) v hv
  omega
/-- where the depths stand in a measured row -/
theorem dpA.sub0 {f : Nat → Int32} {n p : Nat} {x : List Nat} (h : dpA f 0 0 [0] x) (hw : p_wf n [0] x) (hp : p < x.length) : ∃ b, f p = nI b ∧ dpA f b p [0] (x.drop p) := by
  obtain ⟨b, S', -, h1, h2⟩ := dpA.at h hw hp
  rw [Nat.zero_add, Nat.zero_add] at h1 h2
  exact ⟨b, h1, h2⟩
theorem nI_m2 {k : Nat} (hk : k < 8) : ¬ nI k = (-2 : Int32) := (show ∀ k, k < 8 → ¬ nI k = (-2 : Int32) by decide +kernel) k hk
