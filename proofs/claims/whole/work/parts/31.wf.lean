/-! rows stay well-formed -/
theorem p_wf_shift {n k : Nat} : ∀ {l S : List Nat}, p_wf n (S.map (· + k)) l ↔ p_wf (n + k) S l
  | [], [] => Iff.rfl
  | [], d :: S => by
    constructor <;> intro h <;> exact absurd h (by simp [p_wf])
  | v :: l, [] => Iff.rfl
  | v :: l, d :: S => by
    have ih := p_wf_shift (n := n) (k := k) (l := l) (S := p_aw v d S)
    rw [← p_aw_map] at ih
    constructor
    · intro h
      have h1 : v < 5 ∨ 10 ≤ v ∧ v < 18 ∨ 100 ≤ v ∧ v < 100 + (d + k) + n := h.1
      exact ⟨by omega, ih.mp h.2⟩
    · intro h
      have h1 : v < 5 ∨ 10 ≤ v ∧ v < 18 ∨ 100 ≤ v ∧ v < 100 + d + (n + k) := h.1
      refine ⟨?_, ih.mpr h.2⟩
      show v < 5 ∨ 10 ≤ v ∧ v < 18 ∨ 100 ≤ v ∧ v < 100 + (d + k) + n
      omega
theorem p_wf_sh1 {n k : Nat} {l : List Nat} : p_wf n [k] l ↔ p_wf (n + k) [0] l := by
  have := p_wf_shift (n := n) (k := k) (l := l) (S := [0])
  rw [show ([0] : List Nat).map (· + k) = [k] by simp] at this
  exact this
theorem p_lift_take (k : Nat) : ∀ (l S : List Nat), p_lift k S (l.take (p_end S.length l)) = p_lift k S l
  | [], S => by rw [p_end_nil]; rfl
  | v :: l, [] => rfl
  | v :: l, d :: S => by
    have ih := p_lift_take k l (p_aw v d S)
    rw [p_aw_len] at ih
    show p_lift k (d :: S) ((v :: l).take (p_end (if p_two v = true then S.length + 2 else S.length) l + 1)) = _
    rw [List.take_succ_cons]
    show _ :: p_lift k (p_aw v d S) _ = _
    rw [ih]
    rfl
theorem p_put_take (a : List Nat) : ∀ (l S : List Nat), p_put a S (l.take (p_end S.length l)) = p_put a S l
  | [], S => by rw [p_end_nil]; rfl
  | v :: l, [] => rfl
  | v :: l, d :: S => by
    have ih := p_put_take a l (p_aw v d S)
    rw [p_aw_len] at ih
    show p_put a (d :: S) ((v :: l).take (p_end (if p_two v = true then S.length + 2 else S.length) l + 1)) = _
    rw [List.take_succ_cons]
    show _ ++ p_put a (p_aw v d S) _ = _
    rw [ih]
    rfl
theorem p_put_arg {a a' : List Nat} (H : ∀ d, p_lift d [0] a = p_lift d [0] a') : ∀ (l S : List Nat), p_put a S l = p_put a' S l
  | [], S => by rw [p_put_nil, p_put_nil]
  | v :: l, [] => rfl
  | v :: l, d :: S => by
    show (if v = 100 + d then p_lift d [0] a else if 100 + d < v then [v - 1] else [v]) ++ p_put a (p_aw v d S) l = _
    rw [p_put_arg H l, H d]
    rfl
theorem p_res_arg {n : Nat} {g g' : Nat → List Nat} (H : ∀ j, j < n → ∀ d, p_lift d [0] (g j) = p_lift d [0] (g' j)) : ∀ (l S : List Nat), p_res n g S l = p_res n g' S l
  | [], S => by rw [p_res_nil, p_res_nil]
  | v :: l, [] => rfl
  | v :: l, d :: S => by
    show (if 100 + d ≤ v ∧ v < 100 + d + n then p_lift d [0] (g (v - 100 - d)) else [v]) ++ p_res n g (p_aw v d S) l = (if 100 + d ≤ v ∧ v < 100 + d + n then p_lift d [0] (g' (v - 100 - d)) else [v]) ++ p_res n g' (p_aw v d S) l
    rw [p_res_arg H l]
    by_cases h : 100 + d ≤ v ∧ v < 100 + d + n
    · rw [if_pos h, if_pos h, H _ (by omega)]
    · rw [if_neg h, if_neg h]
theorem p_lift_t1 (k : Nat) (l : List Nat) : p_lift k [0] (l.take (p_end 1 l)) = p_lift k [0] l := p_lift_take k l [0]
theorem p_put_t1 (A B : List Nat) : p_put (A.take (p_end 1 A)) [0] (B.take (p_end 1 B)) = p_put A [0] B := by
  rw [p_put_arg (fun k => p_lift_t1 k A)]
  exact p_put_take A B [0]
/-- the depths awaited behind the first i numbers -/
def p_st : List Nat → List Nat → Nat → List Nat
  | S, _, 0 => S
  | S, [], _ + 1 => S
  | [], _ :: _, _ + 1 => []
  | d :: S, v :: l, i + 1 => p_st (p_aw v d S) l i
theorem p_wf_at {n : Nat} : ∀ {l S : List Nat} {i : Nat}, p_wf n S l → i ≤ l.length → p_wf n (p_st S l i) (l.drop i) ∧ ∀ y, p_wf n (p_st S l i) y → p_wf n S (l.take i ++ y)
  | l, S, 0, h, _ => by
    have e : p_st S l 0 = S := by cases S <;> cases l <;> rfl
    rw [e]
    exact ⟨h, fun y hy => hy⟩
  | [], S, i + 1, h, hi => absurd hi (by simp)
  | v :: l, [], i + 1, h, hi => h.elim
  | v :: l, d :: S, i + 1, h, hi => by
    obtain ⟨h1, h2⟩ := p_wf_at (i := i) h.2 (Nat.le_of_succ_le_succ hi)
    exact ⟨h1, fun y hy => ⟨h.1, h2 y hy⟩⟩
theorem p_aw_max {v d m : Nat} {S : List Nat} (hd : d ≤ m) (hS : ∀ y ∈ S, y ≤ m) : ∀ y ∈ p_aw v d S, y ≤ m + 1 := by
  intro y hy
  unfold p_aw at hy
  split at hy
  · simp only [List.mem_cons] at hy
    rcases hy with rfl | rfl | hy
    · omega
    · split <;> omega
    · have := hS y hy; omega
  · have := hS y hy; omega
theorem p_wf_lt {n : Nat} : ∀ {l S : List Nat} {m : Nat}, p_wf n S l → (∀ y ∈ S, y ≤ m) → ∀ v ∈ l, v < 118 + m + n + l.length
  | [], S, m, h, hS => by simp
  | w :: l, [], m, h, hS => h.elim
  | w :: l, d :: S, m, h, hS => by
    intro v hv
    have hd : d ≤ m := hS d List.mem_cons_self
    rcases List.mem_cons.mp hv with rfl | hv
    · have := h.1
      simp only [List.length_cons]
      omega
    · have := p_wf_lt h.2 (p_aw_max hd (fun y hy => hS y (List.mem_cons_of_mem _ hy))) v hv
      simp only [List.length_cons]
      omega
theorem p_wf_rl {n : Nat} {f : Nat → Int32} {l : List Nat} (h : p_wf n [0] l) (hn : n ≤ 4) (hl : l.length ≤ 40) : rl (k_app f 0 l) l := by
  have h0 : rl f [] := ⟨by simp, fun i hi => absurd hi (by simp)⟩
  refine rl_app (l1 := []) h0 (by simpa using hl) (fun v hv => ?_)
  have := p_wf_lt h (m := 0) (by simp) v hv
  omega
theorem p_wf_ne {n : Nat} {S l : List Nat} (h : p_wf n S l) (hl : l ≠ []) : ∃ d S', S = d :: S' := by
  cases S with
  | nil =>
    cases l with
    | nil => exact absurd rfl hl
    | cons v l => exact h.elim
  | cons d S => exact ⟨d, S, rfl⟩
theorem l_d2 {x : List Nat} {i v : Nat} (h : x[i]? = some v) : x.drop i = v :: x.drop (i + 1) := by
  have hi : i < x.length := by
    apply Nat.lt_of_not_le
    intro hh
    rw [List.getElem?_eq_none hh] at h
    cases h
  rw [List.drop_eq_getElem_cons hi]
  rw [List.getElem?_eq_getElem hi] at h
  cases h
  rfl
theorem l_gi {x : List Nat} {i v : Nat} (h : x[i]? = some v) : i < x.length := by
  apply Nat.lt_of_not_le
  intro hh
  rw [List.getElem?_eq_none hh] at h
  cases h
theorem p_wf_beta {n i : Nat} {x : List Nat} (h : p_wf n [0] x) (h2 : x[i]? = some 2) (h3 : x[i + 1]? = some 3) : p_wf n [0] (p_beta x i) := by
  obtain ⟨k1, k2⟩ := p_wf_at (i := i) h (Nat.le_of_lt (l_gi h2))
  rw [l_d2 h2, l_d2 h3] at k1
  obtain ⟨d, S, e⟩ := p_wf_ne k1 (by simp)
  rw [e] at k1 k2
  have k3 : p_wf n ([d] ++ ((d + 1) :: d :: S)) (x.drop (i + 2)) := k1.2.2
  have s1 := (p_wf_split k3).2
  rw [List.drop_drop] at s1
  have s2 := p_wf_split (S1 := [d + 1]) (S2 := d :: S) s1
  have s2b := s2.2
  rw [List.drop_drop] at s2b
  have s3 := p_wf_split (S1 := [d]) (S2 := S) s2b
  have s3b := s3.2
  rw [List.drop_drop] at s3b
  have hB := p_wf_sh1.mp s2.1
  have hC := p_wf_sh1.mp s3.1
  have hP : p_wf n [d] (p_put (x.drop (i + 2 + p_end 1 (x.drop (i + 2)) + p_end 1 (x.drop (i + 2 + p_end 1 (x.drop (i + 2)))))) [0] (x.drop (i + 2 + p_end 1 (x.drop (i + 2))))) := by
    rw [← p_put_t1]
    exact p_wf_sh1.mpr (p_wf_put (n := n + d) hC hB)
  have hF := k2 _ (p_wf_app (S1 := [d]) hP s3b)
  rw [← List.append_assoc] at hF
  exact hF
/-- a rule that may be admitted -/
def p_rok (R : List Nat × List Nat × Nat) : Prop := p_wf R.2.2 [0] R.1 ∧ p_wf R.2.2 [0] R.2.1 ∧ (∀ v ∈ R.1, v = 2 ∨ 10 ≤ v) ∧ (∀ j, j < R.2.2 → 100 + j ∈ R.1) ∧ R.2.2 ≤ 4
theorem p_match_ok {n d nv : Nat} {x S' : List Nat} : ∀ (ll : List Nat) (k i : Nat) (g : Nat → Nat), p_wf n (List.replicate k d ++ S') (x.drop i) → i ≤ x.length → p_wf nv (List.replicate k 0) ll → (∀ v ∈ ll, v = 2 ∨ 10 ≤ v) → (p_match nv x ll i g).1 = true →
    ∀ j, j < nv → (100 + j ∈ ll ∨ (g j ≤ x.length ∧ p_wf (n + d) [0] ((x.drop (g j)).take (p_end 1 (x.drop (g j)))))) → ((p_match nv x ll i g).2 j ≤ x.length ∧ p_wf (n + d) [0] ((x.drop ((p_match nv x ll i g).2 j)).take (p_end 1 (x.drop ((p_match nv x ll i g).2 j))))) := by
  intro ll
  induction ll with
  | nil =>
    intro k i g hw hi hp hv hm j hj h
    rcases h with h | h
    · exact absurd h (by simp)
    · exact h
  | cons v ll ih =>
    intro k i g hw hi hp hv hm j hj h
    cases k with
    | zero => exact hp.elim
    | succ k =>
      rw [List.replicate_succ] at hp hw
      have hv2 : ∀ w ∈ ll, w = 2 ∨ 10 ≤ w := fun w hw => hv w (List.mem_cons_of_mem _ hw)
      by_cases hc : 100 ≤ v ∧ v < 100 + nv
      · have ep : p_match nv x (v :: ll) i g = p_match nv x ll (i + p_end 1 (x.drop i)) (va_up g (v - 100) i) := by
          show (if 100 ≤ v ∧ v < 100 + nv then _ else _) = _
          rw [if_pos hc]
        rw [ep] at hm ⊢
        have hp2 := hp.2
        rw [p_aw_big (by omega)] at hp2
        have s := p_wf_split (S1 := [d]) (S2 := List.replicate k d ++ S') hw
        have s2 := s.2
        rw [List.drop_drop] at s2
        refine ih k _ _ s2 (p_end_drop hi) hp2 hv2 hm j hj ?_
        by_cases hjv : j = v - 100
        · right
          rw [hjv, va_up_self]
          exact ⟨hi, p_wf_sh1.mp s.1⟩
        · rw [va_up_ne _ _ hjv]
          rcases h with h | h
          · left
            rcases List.mem_cons.mp h with h | h
            · omega
            · exact h
          · exact Or.inr h
      · by_cases hx : x[i]? = some v
        · have ep : p_match nv x (v :: ll) i g = p_match nv x ll (i + 1) g := by
            show (if 100 ≤ v ∧ v < 100 + nv then _ else if x[i]? = some v then _ else _) = _
            rw [if_neg hc, if_pos hx]
          rw [ep] at hm ⊢
          have hw2 := hw
          rw [l_d2 hx] at hw2
          have hw3 : p_wf n (p_aw v d (List.replicate k d ++ S')) (x.drop (i + 1)) := hw2.2
          have hp2 : p_wf nv (p_aw v 0 (List.replicate k 0)) ll := hp.2
          have h' : 100 + j ∈ ll ∨ (g j ≤ x.length ∧ p_wf (n + d) [0] ((x.drop (g j)).take (p_end 1 (x.drop (g j))))) := by
            rcases h with h | h
            · left
              rcases List.mem_cons.mp h with h | h
              · omega
              · exact h
            · exact Or.inr h
          rcases hv v List.mem_cons_self with h2 | h10
          · subst h2
            exact ih (k + 2) _ _ hw3 (l_gi hx) hp2 hv2 hm j hj h'
          · rw [p_aw_big (by omega)] at hw3 hp2
            exact ih k _ _ hw3 (l_gi hx) hp2 hv2 hm j hj h'
        · have ep : p_match nv x (v :: ll) i g = (false, g) := by
            show (if 100 ≤ v ∧ v < 100 + nv then _ else if x[i]? = some v then _ else _) = _
            rw [if_neg hc, if_neg hx]
          rw [ep] at hm
          cases hm
theorem p_match_g {nv : Nat} {x : List Nat} : ∀ (ll : List Nat) (i : Nat) (g g' : Nat → Nat), (p_match nv x ll i g).1 = true → ∀ j, j < nv → (100 + j ∈ ll ∨ g j = g' j) → (p_match nv x ll i g).2 j = (p_match nv x ll i g').2 j := by
  intro ll
  induction ll with
  | nil =>
    intro i g g' hm j hj h
    rcases h with h | h
    · exact absurd h (by simp)
    · exact h
  | cons v ll ih =>
    intro i g g' hm j hj h
    unfold p_match at hm ⊢
    by_cases hc : 100 ≤ v ∧ v < 100 + nv
    · simp only [if_pos hc] at hm ⊢
      refine ih _ _ _ hm j hj ?_
      by_cases hjv : j = v - 100
      · right
        rw [hjv, va_up_self, va_up_self]
      · rw [va_up_ne _ _ hjv, va_up_ne _ _ hjv]
        rcases h with h | h
        · left
          rcases List.mem_cons.mp h with h | h
          · omega
          · exact h
        · exact Or.inr h
    · simp only [if_neg hc] at hm ⊢
      by_cases hx : x[i]? = some v
      · simp only [if_pos hx] at hm ⊢
        refine ih _ _ _ hm j hj ?_
        rcases h with h | h
        · left
          rcases List.mem_cons.mp h with h | h
          · omega
          · exact h
        · exact Or.inr h
      · simp only [if_neg hx] at hm
        cases hm
theorem p_rule_wf {n i : Nat} {x : List Nat} {R : List Nat × List Nat × Nat} {g : Nat → Nat} (h : p_wf n [0] x) (hi : i < x.length) (hR : p_rok R) (hm : (p_match R.2.2 x R.1 i g).1 = true) :
    (∀ j, j < R.2.2 → (p_match R.2.2 x R.1 i g).2 j ≤ x.length) ∧ p_wf n [0] (p_rule R.2.2 (p_match R.2.2 x R.1 i g).2 R.2.1 x i) := by
  obtain ⟨r1, r2, r3, r4, r5⟩ := hR
  obtain ⟨k1, k2⟩ := p_wf_at (i := i) h (Nat.le_of_lt hi)
  have hne : x.drop i ≠ [] := by
    intro hh
    rw [List.drop_eq_getElem_cons hi] at hh
    cases hh
  obtain ⟨d, S, e⟩ := p_wf_ne k1 hne
  rw [e] at k1 k2
  have H : ∀ j, j < R.2.2 → _ := fun j hj => p_match_ok (n := n) (d := d) (S' := S) R.1 1 i g k1 (Nat.le_of_lt hi) r1 r3 hm j hj (Or.inl (r4 j hj))
  refine ⟨fun j hj => (H j hj).1, ?_⟩
  have s := p_wf_split (S1 := [d]) (S2 := S) k1
  have s2 := s.2
  rw [List.drop_drop] at s2
  have hP := p_wf_sh1.mpr (p_wf_res (n := n + d) (g := fun j => (x.drop ((p_match R.2.2 x R.1 i g).2 j)).take (p_end 1 (x.drop ((p_match R.2.2 x R.1 i g).2 j)))) (fun j hj => (H j hj).2) r2)
  rw [p_res_arg (g' := fun j => x.drop ((p_match R.2.2 x R.1 i g).2 j)) (fun j hj k => p_lift_t1 k _)] at hP
  have hF := k2 _ (p_wf_app (S1 := [d]) hP s2)
  rw [← List.append_assoc] at hF
  exact hF
theorem p_rule_g {i : Nat} {x : List Nat} {R : List Nat × List Nat × Nat} {g g' : Nat → Nat} (hR : p_rok R) (hm : (p_match R.2.2 x R.1 i g).1 = true) :
    p_rule R.2.2 (p_match R.2.2 x R.1 i g).2 R.2.1 x i = p_rule R.2.2 (p_match R.2.2 x R.1 i g').2 R.2.1 x i := by
  unfold p_rule
  rw [p_res_arg (fun j hj k => by rw [p_match_g R.1 i g g' hm j hj (Or.inl (hR.2.2.2.1 j hj))])]
/-- one step at place i -/
def p_here (Rs : List (List Nat × List Nat × Nat)) (x : List Nat) (i : Nat) : Option (List Nat) :=
  if x[i]? = some 2 ∧ x[i + 1]? = some 3 then some (p_beta x i) else (p_first x i Rs).map (fun R => p_rule R.2.2 (p_match R.2.2 x R.1 i (fun _ => 0)).2 R.2.1 x i)
def p_scan (Rs : List (List Nat × List Nat × Nat)) (x : List Nat) : Nat → Nat → Option (List Nat)
  | 0, _ => none
  | c + 1, i => (p_here Rs x i).or (p_scan Rs x c (i + 1))
/-- one step -/
def p_step (Rs : List (List Nat × List Nat × Nat)) (x : List Nat) : Option (List Nat) := p_scan Rs x x.length 0
/-- the normal form, with the steps that it takes -/
def p_norm (Rs : List (List Nat × List Nat × Nat)) : Nat → List Nat → Option (Nat × List Nat)
  | 0, _ => none
  | c + 1, x => match p_step Rs x with
    | none => some (0, x)
    | some y => if y.length ≤ 40 then (p_norm Rs c y).map (fun z => (z.1 + 1, z.2)) else none
def p_rsok (Rs : List (List Nat × List Nat × Nat)) : Prop := ∀ R ∈ Rs, p_rok R
theorem p_first_mem {x : List Nat} {i : Nat} : ∀ {Rs : List (List Nat × List Nat × Nat)} {R : List Nat × List Nat × Nat}, p_first x i Rs = some R → R ∈ Rs ∧ (p_match R.2.2 x R.1 i (fun _ => 0)).1 = true
  | [], R, h => by cases h
  | R1 :: Rs, R, h => by
    unfold p_first at h
    split at h
    · rename_i hm
      cases h
      exact ⟨List.mem_cons_self, hm⟩
    · have := p_first_mem h
      exact ⟨List.mem_cons_of_mem _ this.1, this.2⟩
theorem p_here_wf {n i : Nat} {x y : List Nat} {Rs : List (List Nat × List Nat × Nat)} (h : p_wf n [0] x) (hR : p_rsok Rs) (hi : i < x.length) (hy : p_here Rs x i = some y) : p_wf n [0] y := by
  unfold p_here at hy
  split at hy
  · rename_i hc
    cases hy
    exact p_wf_beta h hc.1 hc.2
  · cases hf : p_first x i Rs with
    | none =>
      rw [hf] at hy
      cases hy
    | some R =>
      rw [hf] at hy
      cases hy
      obtain ⟨m1, m2⟩ := p_first_mem hf
      exact (p_rule_wf h hi (hR R m1) m2).2
theorem p_scan_wf {n : Nat} {x y : List Nat} {Rs : List (List Nat × List Nat × Nat)} (h : p_wf n [0] x) (hR : p_rsok Rs) : ∀ (c i : Nat), i + c ≤ x.length → p_scan Rs x c i = some y → p_wf n [0] y
  | 0, i, _, hy => by cases hy
  | c + 1, i, hi, hy => by
    unfold p_scan at hy
    cases hh : p_here Rs x i with
    | none =>
      rw [hh] at hy
      exact p_scan_wf h hR c (i + 1) (by omega) hy
    | some z =>
      rw [hh] at hy
      cases hy
      exact p_here_wf h hR (by omega) hh
theorem p_step_wf {n : Nat} {x y : List Nat} {Rs : List (List Nat × List Nat × Nat)} (h : p_wf n [0] x) (hR : p_rsok Rs) (hy : p_step Rs x = some y) : p_wf n [0] y := p_scan_wf h hR x.length 0 (by omega) hy
theorem p_norm_wf {n : Nat} {Rs : List (List Nat × List Nat × Nat)} (hR : p_rsok Rs) : ∀ {c : Nat} {x : List Nat} {z : Nat × List Nat}, p_wf n [0] x → x.length ≤ 40 → p_norm Rs c x = some z → p_wf n [0] z.2 ∧ z.2.length ≤ 40 ∧ z.1 < c
  | 0, x, z, _, _, hy => by cases hy
  | c + 1, x, z, h, hl, hy => by
    unfold p_norm at hy
    cases hs : p_step Rs x with
    | none =>
      rw [hs] at hy
      cases hy
      exact ⟨h, hl, Nat.succ_pos c⟩
    | some y =>
      rw [hs] at hy
      simp only [] at hy
      split at hy
      · rename_i hyl
        cases hn : p_norm Rs c y with
        | none =>
          rw [hn] at hy
          cases hy
        | some w =>
          rw [hn] at hy
          cases hy
          have := p_norm_wf hR (p_step_wf h hR hs) hyl hn
          exact ⟨this.1, this.2.1, Nat.succ_lt_succ this.2.2⟩
      · cases hy
