/-! the kernel's state: judgements (entries, term, type) and entries latest first, constants and rules oldest first -/
abbrev pJ : Type := Nat × List Nat × List Nat
abbrev pR : Type := List Nat × List Nat × Nat
abbrev pK : Type := List pJ × List (List Nat) × List (List Nat × Bool) × List pR
/-- the row at r; where a list is given, it holds it -/
def rowL (G : z_G) (h : z_H) (r : Nat) (o : Option (List Nat)) : Prop := ∃ n f, rowAt G h r n f ∧ ∀ l, o = some l → n = l.length ∧ rl f l
theorem rowL.any {G : z_G} {h : z_H} {r : Nat} {o : Option (List Nat)} (H : rowL G h r o) : rowL G h r none := by
  obtain ⟨n, f, h1, -⟩ := H
  exact ⟨n, f, h1, fun l e => by cases e⟩
theorem rowL.get {G : z_G} {h : z_H} {r : Nat} {l : List Nat} (H : rowL G h r (some l)) : ∃ f, rowAt G h r l.length f ∧ rl f l := by
  obtain ⟨n, f, h1, h2⟩ := H
  obtain ⟨e, h3⟩ := h2 l rfl
  subst e
  exact ⟨f, h1, h3⟩
theorem rowL.mk {G : z_G} {h : z_H} {r : Nat} {f : Nat → Int32} {l : List Nat} (h1 : rowAt G h r l.length f) (h2 : rl f l) : rowL G h r (some l) := ⟨_, f, h1, fun l' e => by cases e; exact ⟨rfl, h2⟩⟩
theorem rowL.keep {G : z_G} {h h' : z_H} {r : Nat} {o : Option (List Nat)} (H : rowL G h r o) (k1 : h'.2.2 r = h.2.2 r) (k2 : h'.2.2 (r + 1) = h.2.2 (r + 1)) : rowL G h' r o := by
  obtain ⟨n, f, h1, h2⟩ := H
  exact ⟨n, f, ⟨k1.trans h1.1, k2.trans h1.2⟩, h2⟩
def k_jd (u e : Nat) : va_E := .inr (1, [.ref (u + 1), .ref (u + 3), .int (nI e)])
def jdAt (G : z_G) (h : z_H) (u : Nat) (o : Option pJ) : Prop := (∃ e, h.2.2 u = some (k_jd u e) ∧ ∀ J, o = some J → e = J.1) ∧ rowL G h (u + 1) (o.map (·.2.1)) ∧ rowL G h (u + 3) (o.map (·.2.2))
theorem jdAt.any {G : z_G} {h : z_H} {u : Nat} {o : Option pJ} (H : jdAt G h u o) : jdAt G h u none := by
  obtain ⟨⟨e, h1, -⟩, h2, h3⟩ := H
  exact ⟨⟨e, h1, fun J e => by cases e⟩, h2.any, h3.any⟩
theorem jdAt.ob {G : z_G} {h : z_H} {u : Nat} {J : pJ} (H : jdAt G h u (some J)) : h.2.2 u = some (k_jd u J.1) := by
  obtain ⟨⟨e, h1, h2⟩, -⟩ := H
  rw [← h2 J rfl]
  exact h1
theorem jdAt.keep {G : z_G} {h h' : z_H} {u : Nat} {o : Option pJ} (H : jdAt G h u o) (k : ∀ y, u ≤ y ∧ y ≤ u + 4 → h'.2.2 y = h.2.2 y) : jdAt G h' u o := by
  obtain ⟨⟨e, h1, h1'⟩, h2, h3⟩ := H
  exact ⟨⟨e, (k u (by omega)).trans h1, h1'⟩, h2.keep (k _ (by omega)) (k _ (by omega)), h3.keep (k _ (by omega)) (k _ (by omega))⟩
abbrev k_ju (o k : Nat) : Nat := o + 64 + 5 * k
abbrev k_cu (o k : Nat) : Nat := o + 94 + 2 * k
abbrev k_ku (o k : Nat) : Nat := o + 102 + 2 * k
def jsAt (G : z_G) (h : z_H) (o : Nat) (js : List pJ) : Prop := js.length ≤ 6 ∧ ∀ k, k < 6 → jdAt G h (k_ju o k) js.reverse[k]?
def csAt (G : z_G) (h : z_H) (o : Nat) (cs : List (List Nat)) : Prop := cs.length ≤ 4 ∧ ∀ k, k < 4 → rowL G h (k_cu o k) cs.reverse[k]?
def ksAt (G : z_G) (h : z_H) (o : Nat) (ks : List (List Nat × Bool)) : Prop := (ks.length ≤ 8 ∧ ∀ k, k < 8 → rowL G h (k_ku o k) (ks[k]?.map (·.1))) ∧ ∃ fd, h.2.2 (o + 4) = some (.inl (G.ca 2, 8, .inl fd)) ∧ ∀ k c, ks[k]? = some c → fd k = if c.2 = true then nI 1 else nI 0
theorem jsAt.keep {G : z_G} {h h' : z_H} {o : Nat} {js : List pJ} (H : jsAt G h o js) (k : ∀ y, o + 64 ≤ y ∧ y ≤ o + 93 → h'.2.2 y = h.2.2 y) : jsAt G h' o js :=
  ⟨H.1, fun j hj => (H.2 j hj).keep (fun y hy => k y (by unfold k_ju at hy; omega))⟩
theorem csAt.keep {G : z_G} {h h' : z_H} {o : Nat} {cs : List (List Nat)} (H : csAt G h o cs) (k : ∀ y, o + 94 ≤ y ∧ y ≤ o + 101 → h'.2.2 y = h.2.2 y) : csAt G h' o cs :=
  ⟨H.1, fun j hj => (H.2 j hj).keep (k _ (by unfold k_cu; omega)) (k _ (by unfold k_cu; omega))⟩
theorem ksAt.keep {G : z_G} {h h' : z_H} {o : Nat} {ks : List (List Nat × Bool)} (H : ksAt G h o ks) (k4 : h'.2.2 (o + 4) = h.2.2 (o + 4)) (k : ∀ y, o + 102 ≤ y ∧ y ≤ o + 117 → h'.2.2 y = h.2.2 y) : ksAt G h' o ks := by
  obtain ⟨⟨h1, h2⟩, fd, h3, h4⟩ := H
  exact ⟨⟨h1, fun j hj => (h2 j hj).keep (k _ (by unfold k_ku; omega)) (k _ (by unfold k_ku; omega))⟩, fd, k4.trans h3, h4⟩
theorem l_rl {α : Type} {J : α} {js : List α} {k : Nat} (hk : k < js.length) : (J :: js).reverse[k]? = js.reverse[k]? := by
  rw [List.reverse_cons, List.getElem?_append_left (by rw [List.length_reverse]; exact hk)]
theorem l_rt {α : Type} {J : α} {js : List α} : (J :: js).reverse[js.length]? = some J := by
  rw [List.reverse_cons, List.getElem?_append_right (by rw [List.length_reverse]; exact Nat.le_refl _), List.length_reverse, Nat.sub_self]
  rfl
theorem l_rn {α : Type} {js : List α} {k : Nat} (hk : js.length ≤ k) : js.reverse[k]? = none := by
  rw [List.getElem?_eq_none (by rw [List.length_reverse]; exact hk)]
theorem jsAt.pop {G : z_G} {h : z_H} {o : Nat} {J : pJ} {js : List pJ} (H : jsAt G h o (J :: js)) : jsAt G h o js := by
  have h1 := H.1
  rw [List.length_cons] at h1
  refine ⟨by omega, fun k hk => ?_⟩
  have h2 := H.2 k hk
  by_cases hkl : k < js.length
  · rw [l_rl hkl] at h2
    exact h2
  · rw [l_rn (by omega)]
    exact h2.any
theorem jsAt.push {G : z_G} {h h' : z_H} {o : Nat} {J : pJ} {js : List pJ} (H : jsAt G h o js) (hl : js.length < 6) (k : ∀ y, o + 64 ≤ y ∧ y ≤ o + 93 → y < k_ju o js.length ∨ k_ju o js.length + 4 < y → h'.2.2 y = h.2.2 y) (HJ : jdAt G h' (k_ju o js.length) (some J)) : jsAt G h' o (J :: js) := by
  refine ⟨hl, fun j hj => ?_⟩
  by_cases h1 : j = js.length
  · subst h1
    rw [l_rt]
    exact HJ
  · have h2 := (H.2 j hj).keep (h' := h') (fun y hy => k y (by unfold k_ju at hy; omega) (by unfold k_ju at *; omega))
    by_cases h3 : j < js.length
    · rw [l_rl h3]
      exact h2
    · rw [List.getElem?_eq_none (by rw [List.length_reverse, List.length_cons]; omega)]
      exact h2.any
theorem jsAt.get {G : z_G} {h : z_H} {o k : Nat} {J : pJ} {js : List pJ} (H : jsAt G h o js) (hk : js[k]? = some J) : jdAt G h (k_ju o (js.length - 1 - k)) (some J) := by
  have hl := l_gi' hk
  have h6 := H.1
  have h2 := H.2 (js.length - 1 - k) (by omega)
  rw [List.getElem?_reverse (by omega)] at h2
  rw [show js.length - 1 - (js.length - 1 - k) = k by omega, hk] at h2
  exact h2
theorem csAt.pop {G : z_G} {h : z_H} {o : Nat} {c : List Nat} {cs : List (List Nat)} (H : csAt G h o (c :: cs)) : csAt G h o cs := by
  have h1 := H.1
  rw [List.length_cons] at h1
  refine ⟨by omega, fun k hk => ?_⟩
  have h2 := H.2 k hk
  by_cases hkl : k < cs.length
  · rw [l_rl hkl] at h2
    exact h2
  · rw [l_rn (by omega)]
    exact h2.any
theorem csAt.push {G : z_G} {h h' : z_H} {o : Nat} {c : List Nat} {cs : List (List Nat)} (H : csAt G h o cs) (hl : cs.length < 4) (k : ∀ y, o + 94 ≤ y ∧ y ≤ o + 101 → y < k_cu o cs.length ∨ k_cu o cs.length + 1 < y → h'.2.2 y = h.2.2 y) (HC : rowL G h' (k_cu o cs.length) (some c)) : csAt G h' o (c :: cs) := by
  refine ⟨hl, fun j hj => ?_⟩
  by_cases h1 : j = cs.length
  · subst h1
    rw [l_rt]
    exact HC
  · have h2 := (H.2 j hj).keep (h' := h') (k _ (by unfold k_cu; omega) (by unfold k_cu; omega)) (k _ (by unfold k_cu; omega) (by unfold k_cu; omega))
    by_cases h3 : j < cs.length
    · rw [l_rl h3]
      exact h2
    · rw [List.getElem?_eq_none (by rw [List.length_reverse, List.length_cons]; omega)]
      exact h2.any
theorem csAt.get {G : z_G} {h : z_H} {o k : Nat} {c : List Nat} {cs : List (List Nat)} (H : csAt G h o cs) (hk : cs[k]? = some c) : rowL G h (k_cu o (cs.length - 1 - k)) (some c) := by
  have hl := l_gi' hk
  have h6 := H.1
  have h2 := H.2 (cs.length - 1 - k) (by omega)
  rw [List.getElem?_reverse (by omega)] at h2
  rw [show cs.length - 1 - (cs.length - 1 - k) = k by omega, hk] at h2
  exact h2
theorem csAt.nil {G : z_G} {h : z_H} {o : Nat} {cs : List (List Nat)} (H : csAt G h o cs) : csAt G h o [] := ⟨Nat.zero_le _, fun k hk => (H.2 k hk).any⟩
theorem jsAt.nil {G : z_G} {h : z_H} {o : Nat} {js : List pJ} (H : jsAt G h o js) : jsAt G h o [] := ⟨Nat.zero_le _, fun k hk => (H.2 k hk).any⟩
theorem ksAt.get {G : z_G} {h : z_H} {o k : Nat} {c : List Nat × Bool} {ks : List (List Nat × Bool)} (H : ksAt G h o ks) (hk : ks[k]? = some c) : rowL G h (k_ku o k) (some c.1) := by
  have hl := l_gi' hk
  have h8 := H.1.1
  have h2 := H.1.2 k (by omega)
  rw [hk] at h2
  exact h2
def k_arr (c : ClassId) (n : Nat) (f : Nat → Option Nat) : va_E := .inl (c, n, .inr (.inr (.inr (.inr f))))
def k_tk (o nj ne nc : Nat) : va_E := .inr (5, [.ref (o + 1), .int (nI nj), .ref (o + 2), .int (nI ne), .ref (o + 3), .ref (o + 4), .int (nI nc), .ref (o + 5), .ref (o + 56), .ref (o + 58), .ref (o + 60), .ref (o + 62)])
def tkF (G : z_G) (h : z_H) (o : Nat) : Prop := (∃ f, h.2.2 (o + 1) = some (k_arr (G.ca 4) 6 f) ∧ ∀ k, k < 6 → f k = some (k_ju o k)) ∧ (∃ f, h.2.2 (o + 2) = some (k_arr (G.ca 3) 4 f) ∧ ∀ k, k < 4 → f k = some (k_cu o k)) ∧ ∃ f, h.2.2 (o + 3) = some (k_arr (G.ca 3) 8 f) ∧ ∀ k, k < 8 → f k = some (k_ku o k)
theorem tkF.keep {G : z_G} {h h' : z_H} {o : Nat} (H : tkF G h o) (k : ∀ y, o + 1 ≤ y ∧ y ≤ o + 3 → h'.2.2 y = h.2.2 y) : tkF G h' o := by
  obtain ⟨⟨f1, a1, b1⟩, ⟨f2, a2, b2⟩, f3, a3, b3⟩ := H
  exact ⟨⟨f1, (k _ (by omega)).trans a1, b1⟩, ⟨f2, (k _ (by omega)).trans a2, b2⟩, f3, (k _ (by omega)).trans a3, b3⟩
/-- the four rows for work -/
def scR (r : Nat) : Prop := r = 56 ∨ r = 58 ∨ r = 60 ∨ r = 62
def scAt (G : z_G) (h : z_H) (o : Nat) : Prop := ∀ r, scR r → rowL G h (o + r) none
theorem scAt.keep {G : z_G} {h h' : z_H} {o : Nat} (H : scAt G h o) (k : ∀ y, o + 56 ≤ y ∧ y ≤ o + 63 → h'.2.2 y = h.2.2 y) : scAt G h' o :=
  fun r hr => (H r hr).keep (k _ (by unfold scR at hr; omega)) (k _ (by unfold scR at hr; omega))
theorem scAt.rset {G : z_G} {h : z_H} {o r n : Nat} {f : Nat → Int32} (H : scAt G h o) (hr : scR r) : scAt G (rset G h (o + r) n f) o := by
  intro r' hr'
  by_cases e : r' = r
  · subst e
    exact ⟨n, f, rset_at .., fun l e => by cases e⟩
  · unfold scR at hr hr'
    exact (H r' hr').keep (rset_ne G h n f (by omega) (by omega)) (rset_ne G h n f (by omega) (by omega))
/-- the kernel with its judgements, entries, constants and rules -/
def KAt (G : z_G) (h : z_H) (o : Nat) (K : pK) : Prop := tkF G h o ∧ h.2.2 o = some (k_tk o K.1.length K.2.1.length K.2.2.1.length) ∧ jsAt G h o K.1 ∧ csAt G h o K.2.1 ∧ ksAt G h o K.2.2.1 ∧ scAt G h o ∧ (∃ x, RwN G h (o + 5) K.2.2.2 x) ∧ ruAll G h (o + 5)
/-- beside the kernel's cells nothing has changed -/
def k_ft (o : Nat) (h h' : z_H) : Prop := h'.1 = h.1 ∧ h'.2.1 = h.2.1 ∧ ∀ y : Nat, y < o ∨ o + 117 < y → h'.2.2 y = h.2.2 y
theorem k_ft.rf {q : Nat} {h : z_H} : k_ft q h h := ⟨rfl, rfl, fun _ _ => rfl⟩
theorem k_ft.tr {q : Nat} {h h1 h2 : z_H} (a : k_ft q h h1) (b : k_ft q h1 h2) : k_ft q h h2 := ⟨b.1.trans a.1, b.2.1.trans a.2.1, fun x h1 => (b.2.2 x h1).trans (a.2.2 x h1)⟩
theorem k_ft.rm {G : z_G} {q : Nat} {h h1 : z_H} (a : k_ft q h h1) (H : z_rm G h) : z_rm G h1 := by
  unfold z_rm
  rw [a.1, a.2.1]
  exact H
theorem k_ft.rset {G : z_G} {o r n : Nat} {f : Nat → Int32} {h : z_H} (hr : o ≤ r ∧ r + 1 ≤ o + 117) : k_ft o h (rset G h r n f) := ⟨rfl, rfl, fun y hy => rset_ne G h n f (by omega) (by omega)⟩
theorem k_ft.set {o c : Nat} {h : z_H} (v : va_E) (hc : o ≤ c ∧ c ≤ o + 117) : k_ft o h (z_set h c v) := ⟨rfl, rfl, fun y hy => z_set_ne h v (by omega)⟩
theorem k_fq.ft {o : Nat} {h h1 : z_H} (H : k_fq (o + 5) h h1) : k_ft o h h1 := ⟨H.1, H.2.1, fun y hy => H.2.2 y (by omega)⟩
/-- what a call answers: an exception leaves the kernel as it was -/
def tk_post (G : z_G) (o : Nat) (K : pK) (h : z_H) : (String ⊕ (Option Value × pK)) → z_R → z_H → Prop
  | .inr v, r, h' => r = .inl v.1 ∧ KAt G h' o v.2 ∧ k_ft o h h'
  | .inl X, r, h' => r = .inr X ∧ ∃ h1, h' = z_exc h1 ∧ KAt G h1 o K ∧ k_ft o h h1
