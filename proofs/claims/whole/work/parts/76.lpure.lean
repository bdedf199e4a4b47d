/-! which exceptions a call may end in; its number and the state behind it -/
def kcode (l : List String) : (String ⊕ (Option Value × pK)) → Nat
  | .inl X => m_cd l X
  | .inr _ => 0
def knext (K : pK) : (String ⊕ (Option Value × pK)) → pK
  | .inl _ => K
  | .inr v => v.2
theorem kx_sort {K : pK} {X : String} (h : k_sort K = .inl X) : X = z_UOE := by
  unfold k_sort at h
  repeat' split at h
  all_goals first | (cases h; done) | (cases h; rfl)
theorem kx_const {K : pK} {i : Int32} {X : String} (h : k_const K i = .inl X) : X = z_IOB ∨ X = z_UOE := by
  unfold k_const at h
  repeat' split at h
  all_goals first | (cases h; done) | (cases h; exact Or.inl rfl) | (cases h; exact Or.inr rfl)
theorem kx_var {K : pK} {i : Int32} {X : String} (h : k_var K i = .inl X) : X = z_IOB ∨ X = z_UOE := by
  unfold k_var at h
  repeat' split at h
  all_goals first | (cases h; done) | (cases h; exact Or.inl rfl) | (cases h; exact Or.inr rfl)
theorem kx_apply {K : pK} {X : String} (h : k_apply K = .inl X) : X = z_ISE ∨ X = z_IAE ∨ X = z_AE := by
  unfold k_apply at h
  repeat' split at h
  all_goals first | (cases h; done) | (cases h; exact Or.inl rfl) | (cases h; exact Or.inr (Or.inl rfl)) | (cases h; exact Or.inr (Or.inr rfl))
theorem kx_assume {K : pK} {X : String} (h : k_assume K = .inl X) : X = z_ISE ∨ X = z_UOE ∨ X = z_IAE := by
  unfold k_assume at h
  repeat' split at h
  all_goals first | (cases h; done) | (cases h; exact Or.inl rfl) | (cases h; exact Or.inr (Or.inl rfl)) | (cases h; exact Or.inr (Or.inr rfl))
theorem kx_lambda {K : pK} {X : String} (h : k_lambda K = .inl X) : X = z_ISE ∨ X = z_IAE ∨ X = z_AE := by
  unfold k_lambda at h
  repeat' split at h
  all_goals first | (cases h; done) | (cases h; exact Or.inl rfl) | (cases h; exact Or.inr (Or.inl rfl)) | (cases h; exact Or.inr (Or.inr rfl))
theorem kx_product {K : pK} {X : String} (h : k_product K = .inl X) : X = z_ISE ∨ X = z_IAE ∨ X = z_AE := by
  unfold k_product at h
  repeat' split at h
  all_goals first | (cases h; done) | (cases h; exact Or.inl rfl) | (cases h; exact Or.inr (Or.inl rfl)) | (cases h; exact Or.inr (Or.inr rfl))
theorem kx_declare {K : pK} {b : Bool} {X : String} (h : k_declare K b = .inl X) : X = z_ISE ∨ X = z_UOE ∨ X = z_IAE := by
  unfold k_declare at h
  repeat' split at h
  all_goals first | (cases h; done) | (cases h; exact Or.inl rfl) | (cases h; exact Or.inr (Or.inl rfl)) | (cases h; exact Or.inr (Or.inr rfl))
theorem kx_rule {K : pK} {X : String} (h : k_rule K = .inl X) : X = z_ISE ∨ X = z_UOE ∨ X = z_IAE ∨ X = z_AE := by
  unfold k_rule at h
  repeat' split at h
  all_goals first | (cases h; done) | (cases h; exact Or.inl rfl) | (cases h; exact Or.inr (Or.inl rfl)) | (cases h; exact Or.inr (Or.inr (Or.inl rfl))) | (cases h; exact Or.inr (Or.inr (Or.inr rfl)))
theorem kx_normal {K : pK} {X : String} (h : k_normal K = .inl X) : X = z_ISE ∨ X = z_AE := by
  unfold k_normal at h
  repeat' split at h
  all_goals first | (cases h; done) | (cases h; exact Or.inl rfl) | (cases h; exact Or.inr rfl)
theorem kx_same {K : pK} {X : String} (h : k_same K = .inl X) : X = z_ISE ∨ X = z_AE := by
  unfold k_same at h
  repeat' split at h
  all_goals first | (cases h; done) | (cases h; exact Or.inl rfl) | (cases h; exact Or.inr rfl)
/-- which value a call that ends well answers -/
def kval (r : String ⊕ (Option Value × pK)) (P : Option Value → Prop) : Prop := ∀ v, r = .inr v → P v.1
theorem kv_sort {K : pK} : kval (k_sort K) (· = none) := by
  intro v h
  unfold k_sort at h
  repeat' split at h
  all_goals first | (cases h; done) | (cases h; rfl)
theorem kv_const {K : pK} {i : Int32} : kval (k_const K i) (· = none) := by
  intro v h
  unfold k_const at h
  repeat' split at h
  all_goals first | (cases h; done) | (cases h; rfl)
theorem kv_var {K : pK} {i : Int32} : kval (k_var K i) (· = none) := by
  intro v h
  unfold k_var at h
  repeat' split at h
  all_goals first | (cases h; done) | (cases h; rfl)
theorem kv_apply {K : pK} : kval (k_apply K) (· = none) := by
  intro v h
  unfold k_apply at h
  repeat' split at h
  all_goals first | (cases h; done) | (cases h; rfl)
theorem kv_assume {K : pK} : kval (k_assume K) (· = none) := by
  intro v h
  unfold k_assume at h
  repeat' split at h
  all_goals first | (cases h; done) | (cases h; rfl)
theorem kv_lambda {K : pK} : kval (k_lambda K) (· = none) := by
  intro v h
  unfold k_lambda at h
  repeat' split at h
  all_goals first | (cases h; done) | (cases h; rfl)
theorem kv_product {K : pK} : kval (k_product K) (· = none) := by
  intro v h
  unfold k_product at h
  repeat' split at h
  all_goals first | (cases h; done) | (cases h; rfl)
theorem kv_declare {K : pK} {b : Bool} : kval (k_declare K b) (fun o => ∃ x, o = some (.int x)) := by
  intro v h
  unfold k_declare at h
  repeat' split at h
  all_goals first | (cases h; done) | (cases h; exact ⟨_, rfl⟩)
theorem kv_rule {K : pK} : kval (k_rule K) (fun o => ∃ x, o = some (.int x)) := by
  intro v h
  unfold k_rule at h
  repeat' split at h
  all_goals first | (cases h; done) | (cases h; exact ⟨_, rfl⟩)
theorem kv_normal {K : pK} : kval (k_normal K) (fun o => ∃ x, o = some (.int x)) := by
  intro v h
  unfold k_normal at h
  repeat' split at h
  all_goals first | (cases h; done) | (cases h; exact ⟨_, rfl⟩)
theorem kv_same {K : pK} : kval (k_same K) (fun o => o = some (.int (nI 1)) ∨ o = some (.int (nI 0))) := by
  intro v h
  unfold k_same at h
  repeat' split at h
  all_goals first | (cases h; done) | (cases h; dsimp only; split; first | exact Or.inl rfl | exact Or.inr rfl) | (cases h; exact Or.inl rfl) | (cases h; exact Or.inr rfl) | skip
  all_goals (cases h; dsimp only; split <;> first | exact Or.inl rfl | exact Or.inr rfl)
theorem kv_drop {K : pK} {r : String ⊕ (Option Value × pK)} (h : k_drop K = r) : ∃ v, r = .inr v ∧ (v.1 = some (.int (nI 1)) ∨ v.1 = some (.int (nI 0))) := by
  subst h
  unfold k_drop
  split
  · exact ⟨_, rfl, Or.inr rfl⟩
  · exact ⟨_, rfl, Or.inl rfl⟩
theorem kv_leave {K : pK} {r : String ⊕ (Option Value × pK)} (h : k_leave K = r) : ∃ v, r = .inr v ∧ (v.1 = some (.int (nI 1)) ∨ v.1 = some (.int (nI 0))) := by
  subst h
  unfold k_leave
  split
  · exact ⟨_, rfl, Or.inr rfl⟩
  · split
    · exact ⟨_, rfl, Or.inl rfl⟩
    · exact ⟨_, rfl, Or.inr rfl⟩
theorem m_out.code {l : List String} {K : pK} {o : Option Value} {s' : Nat → Int32} {A' : Nat → Nat → Int32} : ∀ {r : String ⊕ (Option Value × pK)}, m_out (m_cd l) K r o s' A' → s' 0 = nI (kcode l r) ∧ mK (knext K r) s' A'
  | .inl _, h => h.2
  | .inr _, h => h.2
theorem m_outv.code {l : List String} {K : pK} {o : Option Value} {s' : Nat → Int32} {A' : Nat → Nat → Int32} : ∀ {r : String ⊕ (Option Value × pK)}, m_outv (m_cd l) K r o s' A' → s' 0 = nI (kcode l r) ∧ mK (knext K r) s' A'
  | .inl _, h => h.2
  | .inr _, h => h.2
theorem m_outv.none {l : List String} {K : pK} {o : Option Value} {s' : Nat → Int32} {A' : Nat → Nat → Int32} {r : String ⊕ (Option Value × pK)} (h : m_outv (m_cd l) K r o s' A') (hv : kval r (· = none)) : o = none := by
  cases r with
  | inl X => exact h.1
  | inr v => exact h.1.trans (hv v rfl)
theorem m_out.val {l : List String} {K : pK} {o : Option Value} {s' : Nat → Int32} {A' : Nat → Nat → Int32} {r : String ⊕ (Option Value × pK)} (h : m_out (m_cd l) K r o s' A') (hv : kval r (fun o => ∃ x, o = some (.int x))) : ∃ x, o = some (.int x) ∧ ∀ v, r = .inr v → v.1 = some (.int x) := by
  cases r with
  | inl X =>
    obtain ⟨x, hx⟩ := h.1
    exact ⟨x, hx, fun v e => by cases e⟩
  | inr v =>
    obtain ⟨x, hx⟩ := hv v rfl
    exact ⟨x, h.1.trans hx, fun v' e => by cases e; exact hx⟩
theorem kcode0 {l : List String} {r : String ⊕ (Option Value × pK)} (hx : ∀ X, r = .inl X → X ∈ l) (h : kcode l r = 0) : ∃ v, r = .inr v := by
  cases r with
  | inl X =>
    have h1 : m_cd l X = 0 := h
    have h2 : 0 < m_cd l X := by
      have h3 := hx X rfl
      cases l with
      | nil => cases h3
      | cons a t =>
        unfold m_cd
        split <;> omega
    omega
  | inr v => exact ⟨v, rfl⟩
theorem p_ret.next {K : pK} {r : String ⊕ (Option Value × pK)} (P : p_ret r) (pk : pok K) : pok (knext K r) := by
  cases r with
  | inl X => exact pk
  | inr v => exact P v rfl
theorem kv_sameI {K : pK} : kval (k_same K) (fun o => ∃ x, o = some (.int x)) := fun v h => by
  rcases kv_same v h with e | e
  · exact ⟨_, e⟩
  · exact ⟨_, e⟩
theorem m_cd_pos {l : List String} {X : String} (h : X ∈ l) : 0 < m_cd l X := by
  cases l with
  | nil => cases h
  | cons a t =>
    unfold m_cd
    split <;> omega
theorem m_cd_le : ∀ (l : List String) (X : String), m_cd l X ≤ l.length + 1
  | [], _ => Nat.zero_le _
  | a :: t, X => by
    have := m_cd_le t X
    unfold m_cd
    split
    · omega
    · rw [List.length_cons]
      omega
theorem kcode_le (l : List String) (r : String ⊕ (Option Value × pK)) : kcode l r ≤ l.length + 1 := by
  cases r with
  | inl X => exact m_cd_le l X
  | inr v => exact Nat.zero_le _
