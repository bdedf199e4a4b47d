/-! the reference's state: the same judgements, entries, constants and rules -/
def m_same (A A' : Nat → Nat → Int32) (r : Nat) : Prop := A' 2 r = A 2 r ∧ ∀ i, i < 40 → A' 1 (40 * r + i) = A 1 (40 * r + i)
def mK (K : pK) (s : Nat → Int32) (A : Nat → Nat → Int32) : Prop :=
  (s 3 = nI K.1.length ∧ s 5 = nI K.2.1.length ∧ s 6 = nI K.2.2.1.length ∧ s 8 = nI K.2.2.2.length) ∧
  (K.1.length ≤ 6 ∧ K.2.1.length ≤ 4 ∧ K.2.2.1.length ≤ 8 ∧ K.2.2.2.length ≤ 8) ∧
  (∀ k J, K.1.reverse[k]? = some J → A 3 k = nI J.1 ∧ mrow A k J.2.1 ∧ mrow A (6 + k) J.2.2) ∧
  (∀ k c, K.2.1.reverse[k]? = some c → mrow A (12 + k) c) ∧
  (∀ k c, K.2.2.1[k]? = some c → mrow A (16 + k) c.1 ∧ A 4 k = if c.2 = true then nI 1 else nI 0) ∧
  (∀ k R, K.2.2.2[k]? = some R → (mrow A (24 + k) R.1 ∧ mrow A (32 + k) R.2.1) ∧ A 5 k = nI R.2.2)
/-- the counts of a state -/
def m_sq4 (s s' : Nat → Int32) : Prop := s' 3 = s 3 ∧ s' 5 = s 5 ∧ s' 6 = s 6 ∧ s' 8 = s 8
/-- the rows below 40, and the arrays that belong to them, are as they were -/
def m_s3 (A A' : Nat → Nat → Int32) : Prop := (∀ r, r < 40 → m_same A A' r) ∧ A' 3 = A 3 ∧ A' 4 = A 4 ∧ A' 5 = A 5
section MQ
variable {K : pK} {s s' s1 : Nat → Int32} {A A' A1 A2 : Nat → Nat → Int32} {r r0 : Nat} {l : List Nat}
theorem m_same.row (H : m_same A A' r) (h : mrow A r l) : mrow A' r l :=
  ⟨H.1.trans h.1, h.len, fun i hi => ⟨(H.2 i (by have := h.len; omega)).trans (h.eq hi), h.lt hi⟩⟩
theorem m_same.rf : m_same A A r := ⟨rfl, fun _ _ => rfl⟩
theorem m_same.tr (H1 : m_same A A1 r) (H2 : m_same A1 A2 r) : m_same A A2 r := ⟨H2.1.trans H1.1, fun i hi => (H2.2 i hi).trans (H1.2 i hi)⟩
theorem m_same.eqv (h1 : A' 1 = A 1) (h2 : A' 2 = A 2) : m_same A A' r := ⟨by rw [h2], fun i _ => by rw [h1]⟩
theorem m_wr.same (H : m_wr A A' r0 l) (hr : r ≠ r0) : m_same A A' r := ⟨H.2.1 r hr, fun i hi => H.2.2.1 _ (by omega)⟩
theorem m_sx.same (H : m_sx A A') (hr : r < 40 ∨ r = 42) : m_same A A' r := ⟨H.1 r (by omega) (by omega), fun i hi => H.2.1 _ (by omega)⟩
theorem m_sx.s3 (H : m_sx A A') : m_s3 A A' := ⟨fun r hr => H.same (Or.inl hr), H.2.2⟩
theorem m_wr.s3 (H : m_wr A A' r0 l) (hr : 40 ≤ r0) : m_s3 A A' := ⟨fun r h1 => H.same (by omega), H.1 3 (by decide) (by decide), H.1 4 (by decide) (by decide), H.1 5 (by decide) (by decide)⟩
theorem m_ms.s3 {k : Nat} (H : m_ms k A A') (hk : k = 6 ∨ k = 7) : m_s3 A A' := (H.sx hk).s3
theorem m_s3.rf : m_s3 A A := ⟨fun _ _ => m_same.rf, rfl, rfl, rfl⟩
theorem m_s3.tr (H1 : m_s3 A A1) (H2 : m_s3 A1 A2) : m_s3 A A2 := ⟨fun r hr => (H1.1 r hr).tr (H2.1 r hr), H2.2.1.trans H1.2.1, H2.2.2.1.trans H1.2.2.1, H2.2.2.2.trans H1.2.2.2⟩
theorem m_s3.row (H : m_s3 A A') (hr : r < 40) (h : mrow A r l) : mrow A' r l := (H.1 r hr).row h
theorem m_ad.s3 {w : List Nat} (H : m_ad r0 l w s A s' A') (hr : 40 ≤ r0) : m_s3 A A' := H.2.s3 hr
theorem m_sq4.rf : m_sq4 s s := ⟨rfl, rfl, rfl, rfl⟩
theorem m_sq4.up0 {v : Int32} : m_sq4 s (va_up s 0 v) := ⟨va_up_ne _ _ (by decide), va_up_ne _ _ (by decide), va_up_ne _ _ (by decide), va_up_ne _ _ (by decide)⟩
theorem m_sq4.up10 {v : Int32} : m_sq4 s (va_up s 10 v) := ⟨va_up_ne _ _ (by decide), va_up_ne _ _ (by decide), va_up_ne _ _ (by decide), va_up_ne _ _ (by decide)⟩
theorem m_sq4.tl {b : Bool} : m_sq4 s (m_tl s b) := ⟨m_tl_ne _ _ (by decide), m_tl_ne _ _ (by decide), m_tl_ne _ _ (by decide), m_tl_ne _ _ (by decide)⟩
theorem m_sq4.tr (H1 : m_sq4 s s1) (H2 : m_sq4 s1 s') : m_sq4 s s' := ⟨H2.1.trans H1.1, H2.2.1.trans H1.2.1, H2.2.2.1.trans H1.2.2.1, H2.2.2.2.trans H1.2.2.2⟩
theorem mK.sc (H : mK K s A) (k : m_s3 A A') (e : m_sq4 s s') : mK K s' A' := by
  obtain ⟨⟨a1, a2, a3, a4⟩, ⟨b1, b2, b3, b4⟩, c, d, f, g⟩ := H
  refine ⟨⟨e.1.trans a1, e.2.1.trans a2, e.2.2.1.trans a3, e.2.2.2.trans a4⟩, ⟨b1, b2, b3, b4⟩, fun j J hj => ?_, fun j c0 hj => ?_, fun j c0 hj => ?_, fun j R hj => ?_⟩
  · have hl := l_gi' hj
    rw [List.length_reverse] at hl
    obtain ⟨u1, u2, u3⟩ := c j J hj
    exact ⟨by rw [k.2.1]; exact u1, k.row (by omega) u2, k.row (by omega) u3⟩
  · have hl := l_gi' hj
    rw [List.length_reverse] at hl
    exact k.row (by omega) (d j c0 hj)
  · have hl := l_gi' hj
    obtain ⟨u1, u2⟩ := f j c0 hj
    exact ⟨k.row (by omega) u1, by rw [k.2.2.1]; exact u2⟩
  · have hl := l_gi' hj
    obtain ⟨⟨u1, u2⟩, u3⟩ := g j R hj
    exact ⟨⟨k.row (by omega) u1, k.row (by omega) u2⟩, by rw [k.2.2.2]; exact u3⟩
theorem mK.pop {J : pJ} {js : List pJ} {K2 : List (List Nat) × List (List Nat × Bool) × List pR} (H : mK (J :: js, K2) s A) (e3 : s' 3 = nI js.length) (e5 : s' 5 = s 5) (e6 : s' 6 = s 6) (e8 : s' 8 = s 8) : mK (js, K2) s' A := by
  obtain ⟨⟨a1, a2, a3, a4⟩, ⟨b1, b2, b3, b4⟩, c, d, f, g⟩ := H
  have b1 : js.length + 1 ≤ 6 := b1
  refine ⟨⟨e3, e5.trans a2, e6.trans a3, e8.trans a4⟩, ⟨by show js.length ≤ 6; omega, b2, b3, b4⟩, fun j J' hj => ?_, d, f, g⟩
  have hl : j < js.reverse.length := l_gi' hj
  rw [List.length_reverse] at hl
  exact c j J' (by rw [l_rl hl]; exact hj)
theorem mK.top {J : pJ} {js : List pJ} {K2 : List (List Nat) × List (List Nat × Bool) × List pR} (H : mK (J :: js, K2) s A) : A 3 js.length = nI J.1 ∧ mrow A js.length J.2.1 ∧ mrow A (6 + js.length) J.2.2 := H.2.2.1 js.length J l_rt
theorem mK.push {J : pJ} {n : Nat} (H : mK K s A) (hn : n = K.1.length) (hl : n < 6) (e3 : s' 3 = nI (n + 1)) (e5 : s' 5 = s 5) (e6 : s' 6 = s 6) (e8 : s' 8 = s 8) (kf : ∀ r, r < 40 → r ≠ n → r ≠ 6 + n → m_same A A' r) (k3 : ∀ j, j ≠ n → A' 3 j = A 3 j) (k4 : A' 4 = A 4) (k5 : A' 5 = A 5) (hJ : A' 3 n = nI J.1) (hT : mrow A' n J.2.1) (hY : mrow A' (6 + n) J.2.2) : mK (J :: K.1, K.2) s' A' := by
  obtain ⟨⟨a1, a2, a3, a4⟩, ⟨b1, b2, b3, b4⟩, c, d, f, g⟩ := H
  subst hn
  refine ⟨⟨e3, e5.trans a2, e6.trans a3, e8.trans a4⟩, ⟨hl, b2, b3, b4⟩, fun j J' hj => ?_, fun j c0 hj => ?_, fun j c0 hj => ?_, fun j R hj => ?_⟩
  · by_cases h1 : j = K.1.length
    · subst h1
      rw [l_rt] at hj
      cases hj
      exact ⟨hJ, hT, hY⟩
    · have h2 : j < (J :: K.1).reverse.length := l_gi' hj
      rw [List.length_reverse, List.length_cons] at h2
      rw [l_rl (by omega)] at hj
      obtain ⟨u1, u2, u3⟩ := c j J' hj
      exact ⟨(k3 j h1).trans u1, (kf j (by omega) (by omega) (by omega)).row u2, (kf (6 + j) (by omega) (by omega) (by omega)).row u3⟩
  · have hl : j < K.2.1.reverse.length := l_gi' hj
    rw [List.length_reverse] at hl
    exact (kf _ (by omega) (by omega) (by omega)).row (d j c0 hj)
  · have hl : j < K.2.2.1.length := l_gi' hj
    obtain ⟨u1, u2⟩ := f j c0 hj
    exact ⟨(kf _ (by omega) (by omega) (by omega)).row u1, by rw [k4]; exact u2⟩
  · have hl : j < K.2.2.2.length := l_gi' hj
    obtain ⟨⟨u1, u2⟩, u3⟩ := g j R hj
    exact ⟨⟨(kf _ (by omega) (by omega) (by omega)).row u1, (kf _ (by omega) (by omega) (by omega)).row u2⟩, by rw [k5]; exact u3⟩
theorem mK.cpop {js : List pJ} {c : List Nat} {cs : List (List Nat)} {K2 : List (List Nat × Bool) × List pR} (H : mK (js, c :: cs, K2) s A) (e3 : s' 3 = s 3) (e5 : s' 5 = nI cs.length) (e6 : s' 6 = s 6) (e8 : s' 8 = s 8) : mK (js, cs, K2) s' A := by
  obtain ⟨⟨a1, a2, a3, a4⟩, ⟨b1, b2, b3, b4⟩, c, d, f, g⟩ := H
  have b2 : cs.length + 1 ≤ 4 := b2
  refine ⟨⟨e3.trans a1, e5, e6.trans a3, e8.trans a4⟩, ⟨b1, by show cs.length ≤ 4; omega, b3, b4⟩, c, fun j c' hj => ?_, f, g⟩
  have hl : j < cs.reverse.length := l_gi' hj
  rw [List.length_reverse] at hl
  exact d j c' (by rw [l_rl hl]; exact hj)
theorem mK.cpush {js : List pJ} {c : List Nat} {cs : List (List Nat)} {K2 : List (List Nat × Bool) × List pR} (H : mK (js, cs, K2) s A) (hl : cs.length < 4) (k : m_wr A A' (12 + cs.length) c) (e3 : s' 3 = s 3) (e5 : s' 5 = nI (cs.length + 1)) (e6 : s' 6 = s 6) (e8 : s' 8 = s 8) : mK (js, c :: cs, K2) s' A' := by
  obtain ⟨⟨a1, a2, a3, a4⟩, ⟨b1, b2, b3, b4⟩, cc, d, f, g⟩ := H
  refine ⟨⟨e3.trans a1, e5, e6.trans a3, e8.trans a4⟩, ⟨b1, hl, b3, b4⟩, fun j J' hj => ?_, fun j c0 hj => ?_, fun j c0 hj => ?_, fun j R hj => ?_⟩
  · have h2 : j < js.reverse.length := l_gi' hj
    rw [List.length_reverse] at h2
    have b1 : js.length ≤ 6 := b1
    obtain ⟨u1, u2, u3⟩ := cc j J' hj
    exact ⟨by rw [k.1 3 (by decide) (by decide)]; exact u1, k.keep (by omega) u2, k.keep (by omega) u3⟩
  · by_cases h1 : j = cs.length
    · subst h1
      rw [l_rt] at hj
      cases hj
      exact k.row
    · have h2 : j < (c :: cs).reverse.length := l_gi' hj
      rw [List.length_reverse, List.length_cons] at h2
      rw [l_rl (by omega)] at hj
      exact k.keep (by omega) (d j c0 hj)
  · obtain ⟨u1, u2⟩ := f j c0 hj
    exact ⟨k.keep (by omega) u1, by rw [k.1 4 (by decide) (by decide)]; exact u2⟩
  · obtain ⟨⟨u1, u2⟩, u3⟩ := g j R hj
    exact ⟨⟨k.keep (by omega) u1, k.keep (by omega) u2⟩, by rw [k.1 5 (by decide) (by decide)]; exact u3⟩
theorem mK.rs (H : mK K s A) : m_rs A K.2.2.2 := ⟨H.2.1.2.2.2, fun k R hk => (H.2.2.2.2.2 k R hk).1⟩
theorem mK.ent (H : mK K s A) {j : Nat} {c : List Nat} (hj : K.2.1[j]? = some c) : mrow A (12 + (K.2.1.length - 1 - j)) c := by
  have hl := l_gi' hj
  refine H.2.2.2.1 _ c ?_
  rw [List.getElem?_reverse (by omega), show K.2.1.length - 1 - (K.2.1.length - 1 - j) = j by omega]
  exact hj
theorem mK.jd (H : mK K s A) {j : Nat} {J : pJ} (hj : K.1[j]? = some J) : A 3 (K.1.length - 1 - j) = nI J.1 ∧ mrow A (K.1.length - 1 - j) J.2.1 ∧ mrow A (6 + (K.1.length - 1 - j)) J.2.2 := by
  have hl := l_gi' hj
  refine H.2.2.1 _ J ?_
  rw [List.getElem?_reverse (by omega), show K.1.length - 1 - (K.1.length - 1 - j) = j by omega]
  exact hj
end MQ
/-- what a call leaves: by its code, the state as it was, or the next one; first with an answer, then with none -/
def m_out (cd : String → Nat) (K : pK) : (String ⊕ (Option Value × pK)) → Option Value → (Nat → Int32) → (Nat → Nat → Int32) → Prop
  | .inr v, o, s', A' => o = v.1 ∧ s' 0 = nI 0 ∧ mK v.2 s' A'
  | .inl X, o, s', A' => (∃ x, o = some (.int x)) ∧ s' 0 = nI (cd X) ∧ mK K s' A'
def m_outv (cd : String → Nat) (K : pK) : (String ⊕ (Option Value × pK)) → Option Value → (Nat → Int32) → (Nat → Nat → Int32) → Prop
  | .inr v, o, s', A' => o = v.1 ∧ s' 0 = nI 0 ∧ mK v.2 s' A'
  | .inl X, o, s', A' => o = none ∧ s' 0 = nI (cd X) ∧ mK K s' A'
