/-! rows as lists of numbers: what the class and the reference both do to them -/
/-- a number that has two parts -/
def p_two (v : Nat) : Bool := v == 2 || v == 3 || v == 4
/-- how many numbers the next k terms take -/
def p_end : Nat → List Nat → Nat
  | _, [] => 0
  | 0, _ :: _ => 0
  | k + 1, v :: l => p_end (if p_two v = true then k + 2 else k) l + 1
/-- the depths that are awaited behind a number at depth d -/
def p_aw (v d : Nat) (S : List Nat) : List Nat := if p_two v = true then d :: (if v = 2 then d else d + 1) :: S else S
/-- the term with k added to the variables that it doesn't bind -/
def p_lift (k : Nat) : List Nat → List Nat → List Nat
  | _, [] => []
  | [], _ :: _ => []
  | d :: S, v :: l => (if 100 + d ≤ v then v + k else v) :: p_lift k (p_aw v d S) l
/-- the body with the term a put for variable 0 -/
def p_put (a : List Nat) : List Nat → List Nat → List Nat
  | _, [] => []
  | [], _ :: _ => []
  | d :: S, v :: l => (if v = 100 + d then p_lift d [0] a else if 100 + d < v then [v - 1] else [v]) ++ p_put a (p_aw v d S) l
/-- the right side with the terms g j put for the n variables -/
def p_res (n : Nat) (g : Nat → List Nat) : List Nat → List Nat → List Nat
  | _, [] => []
  | [], _ :: _ => []
  | d :: S, v :: l => (if 100 + d ≤ v ∧ v < 100 + d + n then p_lift d [0] (g (v - 100 - d)) else [v]) ++ p_res n g (p_aw v d S) l
/-- does the pattern match at a place of the row; where the variables' terms begin -/
def p_match (n : Nat) (x : List Nat) : List Nat → Nat → (Nat → Nat) → Bool × (Nat → Nat)
  | [], _, g => (true, g)
  | v :: q, i, g => if 100 ≤ v ∧ v < 100 + n then p_match n x q (i + p_end 1 (x.drop i)) (va_up g (v - 100) i) else if x[i]? = some v then p_match n x q (i + 1) g else (false, g)
theorem p_end_nil (k : Nat) : p_end k [] = 0 := by cases k <;> rfl
theorem p_end_zero (l : List Nat) : p_end 0 l = 0 := by cases l <;> rfl
theorem p_end_le : ∀ (l : List Nat) (k : Nat), p_end k l ≤ l.length
  | [], k => by rw [p_end_nil]; exact Nat.le_refl _
  | v :: l, 0 => Nat.zero_le _
  | v :: l, k + 1 => by
    show p_end _ l + 1 ≤ l.length + 1
    exact Nat.succ_le_succ (p_end_le l _)
theorem p_lift_nil (k : Nat) (S : List Nat) : p_lift k S [] = [] := by cases S <;> rfl
theorem p_lift_stop (k : Nat) (l : List Nat) : p_lift k [] l = [] := by cases l <;> rfl
theorem p_put_nil (a S : List Nat) : p_put a S [] = [] := by cases S <;> rfl
theorem p_put_stop (a l : List Nat) : p_put a [] l = [] := by cases l <;> rfl
theorem p_res_nil (n : Nat) (g : Nat → List Nat) (S : List Nat) : p_res n g S [] = [] := by cases S <;> rfl
theorem p_res_stop (n : Nat) (g : Nat → List Nat) (l : List Nat) : p_res n g [] l = [] := by cases l <;> rfl
theorem p_aw_len (v d : Nat) (S : List Nat) : (p_aw v d S).length = if p_two v = true then S.length + 2 else S.length := by
  unfold p_aw
  split <;> simp
/-- the lifted term is as long as the term -/
theorem p_lift_len : ∀ (l : List Nat) (k : Nat) (S : List Nat), (p_lift k S l).length = p_end S.length l
  | [], k, S => by rw [p_lift_nil, p_end_nil]; rfl
  | v :: l, k, [] => rfl
  | v :: l, k, d :: S => by
    show (p_lift k (p_aw v d S) l).length + 1 = p_end (if p_two v = true then S.length + 2 else S.length) l + 1
    rw [p_lift_len l k (p_aw v d S), p_aw_len]
/-- the row is made of a term for each awaited depth, its variables are bound or among n -/
def p_wf (n : Nat) : List Nat → List Nat → Prop
  | S, [] => S = []
  | [], _ :: _ => False
  | d :: S, v :: l => (v < 5 ∨ (10 ≤ v ∧ v < 18) ∨ (100 ≤ v ∧ v < 100 + d + n)) ∧ p_wf n (p_aw v d S) l
theorem p_aw_app (v d : Nat) (S S' : List Nat) : p_aw v d (S ++ S') = p_aw v d S ++ S' := by
  unfold p_aw
  split <;> rfl
theorem p_wf_app {n : Nat} : ∀ {l1 S1 l2 S2 : List Nat}, p_wf n S1 l1 → p_wf n S2 l2 → p_wf n (S1 ++ S2) (l1 ++ l2)
  | [], S1, l2, S2, h1, h2 => by
    have h1 : S1 = [] := by cases S1 <;> exact h1
    subst h1
    exact h2
  | v :: l1, [], l2, S2, h1, h2 => h1.elim
  | v :: l1, d :: S1, l2, S2, h1, h2 => by
    refine ⟨h1.1, ?_⟩
    show p_wf n (p_aw v d (S1 ++ S2)) (l1 ++ l2)
    rw [p_aw_app]
    exact p_wf_app h1.2 h2
theorem p_wf_split {n : Nat} : ∀ {l S1 S2 : List Nat}, p_wf n (S1 ++ S2) l → p_wf n S1 (l.take (p_end S1.length l)) ∧ p_wf n S2 (l.drop (p_end S1.length l))
  | [], S1, S2, h => by
    have h : S1 ++ S2 = [] := by
      revert h
      cases S1 ++ S2 <;> exact id
    obtain ⟨rfl, rfl⟩ := List.append_eq_nil_iff.mp h
    exact ⟨rfl, rfl⟩
  | v :: l, [], S2, h => ⟨rfl, h⟩
  | v :: l, d :: S1, S2, h => by
    have h2 : p_wf n (p_aw v d (S1 ++ S2)) l := h.2
    rw [p_aw_app] at h2
    have h3 := p_wf_split h2
    rw [p_aw_len] at h3
    exact ⟨⟨h.1, h3.1⟩, h3.2⟩
theorem p_two_lt {v : Nat} (h : p_two v = true) : v < 5 := by
  simp only [p_two, Bool.or_eq_true, beq_iff_eq] at h
  omega
theorem p_two_ge {v : Nat} (h : 5 ≤ v) : p_two v = false := by
  cases hp : p_two v with
  | false => rfl
  | true => have := p_two_lt hp; omega
theorem p_aw_map (v d k : Nat) (S : List Nat) : p_aw v (d + k) (S.map (· + k)) = (p_aw v d S).map (· + k) := by
  unfold p_aw
  split
  · split <;> simp <;> omega
  · rfl
theorem p_aw_big {v : Nat} (h : 5 ≤ v) (d : Nat) (S : List Nat) : p_aw v d S = S := by
  unfold p_aw
  rw [p_two_ge h]
  rfl
theorem p_wf_lift {n k : Nat} : ∀ {l S : List Nat}, p_wf n S l → p_wf n (S.map (· + k)) (p_lift k S l)
  | [], S, h => by
    have h : S = [] := by cases S <;> exact h
    subst h
    rfl
  | v :: l, [], h => h.elim
  | v :: l, d :: S, h => by
    have ih := p_wf_lift (k := k) h.2
    obtain ⟨h1, -⟩ := h
    by_cases hv : 100 + d ≤ v
    · have e : p_lift k (d :: S) (v :: l) = (v + k) :: p_lift k (p_aw v d S) l := by
        show (if 100 + d ≤ v then v + k else v) :: _ = _
        rw [if_pos hv]
      rw [e, p_aw_big (by omega)]
      rw [p_aw_big (by omega)] at ih
      refine ⟨by show v + k < 5 ∨ (10 ≤ v + k ∧ v + k < 18) ∨ (100 ≤ v + k ∧ v + k < 100 + (d + k) + n); omega, ?_⟩
      show p_wf n (p_aw (v + k) (d + k) (S.map (· + k))) _
      rw [p_aw_big (by omega)]
      exact ih
    · have e : p_lift k (d :: S) (v :: l) = v :: p_lift k (p_aw v d S) l := by
        show (if 100 + d ≤ v then v + k else v) :: _ = _
        rw [if_neg hv]
      rw [e]
      refine ⟨by show v < 5 ∨ (10 ≤ v ∧ v < 18) ∨ (100 ≤ v ∧ v < 100 + (d + k) + n); omega, ?_⟩
      show p_wf n (p_aw v (d + k) (S.map (· + k))) _
      rw [p_aw_map]
      exact ih
theorem p_wf_put {n : Nat} {a : List Nat} (ha : p_wf n [0] a) : ∀ {l S : List Nat}, p_wf (n + 1) S l → p_wf n S (p_put a S l)
  | [], S, h => by
    have h : S = [] := by cases S <;> exact h
    subst h
    rfl
  | v :: l, [], h => h.elim
  | v :: l, d :: S, h => by
    have ih := p_wf_put ha h.2
    obtain ⟨h1, -⟩ := h
    show p_wf n (d :: S) ((if v = 100 + d then p_lift d [0] a else if 100 + d < v then [v - 1] else [v]) ++ p_put a (p_aw v d S) l)
    by_cases hv : v = 100 + d
    · rw [if_pos hv, p_aw_big (by omega)]
      rw [p_aw_big (by omega)] at ih
      have hl := p_wf_lift (k := d) ha
      have e : ([0] : List Nat).map (· + d) = [d] := by simp
      rw [e] at hl
      exact p_wf_app (S1 := [d]) hl ih
    · rw [if_neg hv]
      by_cases hw : 100 + d < v
      · rw [if_pos hw]
        rw [p_aw_big (by omega)] at ih
        rw [p_aw_big (v := v) (by omega)]
        refine ⟨by omega, ?_⟩
        show p_wf n (p_aw (v - 1) d S) _
        rw [p_aw_big (by omega)]
        exact ih
      · rw [if_neg hw]
        exact ⟨by omega, ih⟩
theorem p_wf_res {n m : Nat} {g : Nat → List Nat} (hg : ∀ j, j < m → p_wf n [0] (g j)) : ∀ {l S : List Nat}, p_wf m S l → p_wf n S (p_res m g S l)
  | [], S, h => by
    have h : S = [] := by cases S <;> exact h
    subst h
    rfl
  | v :: l, [], h => h.elim
  | v :: l, d :: S, h => by
    have ih := p_wf_res hg h.2
    obtain ⟨h1, -⟩ := h
    show p_wf n (d :: S) ((if 100 + d ≤ v ∧ v < 100 + d + m then p_lift d [0] (g (v - 100 - d)) else [v]) ++ p_res m g (p_aw v d S) l)
    by_cases hv : 100 + d ≤ v ∧ v < 100 + d + m
    · rw [if_pos hv, p_aw_big (by omega)]
      rw [p_aw_big (by omega)] at ih
      have hl := p_wf_lift (k := d) (hg (v - 100 - d) (by omega))
      have e : ([0] : List Nat).map (· + d) = [d] := by simp
      rw [e] at hl
      exact p_wf_app (S1 := [d]) hl ih
    · rw [if_neg hv]
      exact ⟨by omega, ih⟩
