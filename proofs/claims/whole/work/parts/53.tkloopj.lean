/-! TypeKernel's constructor: the loop that makes the judgements -/
section TJ
variable {G : z_G} {d q : Nat}
/-- the first k judgements' objects -/
def jdUp (G : z_G) (h : z_H) (q k : Nat) : Prop := ∀ j, j < k → h.2.2 (k_ju q j) = some (k_jd (k_ju q j) 0) ∧ (∃ f, rowAt G h (k_ju q j + 1) 0 f) ∧ ∃ f, rowAt G h (k_ju q j + 3) 0 f
theorem l_tkJ (HG : z_ok G) {Q : z_R → z_H → Prop} {fs : List Value} : ∀ (c k : Nat) (fr : Nat → Option Nat) (h : z_H), k + c = 6 → h.1 = q + 64 + 5 * k → h.1 + 5 * c ≤ G.b0 + G.cc → h.2.1 + 87 * c ≤ G.ss → h.2.2 q = some (.inr (5, .ref (q + 1) :: fs)) → h.2.2 (q + 1) = some (k_arr (G.ca 4) 6 fr) → (∀ j, j < k → fr j = some (k_ju q j)) → jdUp G h q k →
    (∀ h' fr', h'.1 = q + 94 → h'.2.1 = h.2.1 + 87 * c → h'.2.2 (q + 1) = some (k_arr (G.ca 4) 6 fr') → (∀ j, j < 6 → fr' j = some (k_ju q j)) → jdUp G h' q 6 → (∀ y, y < q + 64 + 5 * k ∨ q + 93 < y → y ≠ q + 1 → h'.2.2 y = h.2.2 y) → z_V G m_TK_init (d + 2) 135 [(0, .ref q)] [] h' Q) →
    z_V G m_TK_init (d + 2) 110 [(0, .ref q), (1, .int (nI k))] [] h Q := by
  intro c
  induction c with
  | zero =>
    intro k fr h hk h1 hc hs hq hr hf hu kk
    refine z_iload_n d_TK_init_110 rfl rfl ?_
    refine z_bipush (v := nI 6) d_TK_init_111 (by decide +kernel) ?_
    refine z_icmp_ge (tgt := 135) d_TK_init_113 rfl (fun c1 => ?_) (fun c1 => ?_)
    · have hk8 : k = 6 := by omega
      subst hk8
      exact z_fg [(0, .ref q)] ⟨rfl, trivial⟩ (kk h fr (by omega) (by omega) hr hf hu (fun _ _ _ => rfl))
    · rw [nI_leI (by omega) (by omega)] at c1
      omega
  | succ c ih =>
    intro k fr h hk h1 hc hs hq hr hf hu kk
    refine z_iload_n d_TK_init_110 rfl rfl ?_
    refine z_bipush (v := nI 6) d_TK_init_111 (by decide +kernel) ?_
    refine z_icmp_ge (tgt := 135) d_TK_init_113 rfl (fun c1 => ?_) (fun c1 => ?_)
    · rw [nI_leI (by omega) (by omega)] at c1
      omega
    · refine z_aload_n d_TK_init_116 rfl rfl ?_
      refine z_getf (L_TK_11K HG) (by decide) (L_TK_11 HG) d_TK_init_117 hq (by rfl) ?_
      refine z_iload_n d_TK_init_120 rfl rfl ?_
      refine z_newo (fs := [.null, .null, .int 0]) (K_Jd HG) d_TK_init_121 (w_c_TK_9 HG) (w_i_Jd HG) (w_n_Jd HG) (by decide) (by omega) (by omega) ?_
      have hu0 : k_ju q k = q + 64 + 5 * k := rfl
      have g0 : (z_new h 3 k_jd0).2.2 (k_ju q k) = some k_jd0 := by
        show va_up h.2.2 h.1 _ (k_ju q k) = _
        rw [h1]
        exact va_up_self _ _ _
      have g2 : ∀ y, y ≠ k_ju q k → (z_new h 3 k_jd0).2.2 y = h.2.2 y := fun y hy => va_up_ne _ _ (by rw [h1]; exact hy)
      have g3 : (z_new h 3 k_jd0).1 = k_ju q k + 1 := by
        show h.1 + 1 = _
        omega
      have g4 : (z_new h 3 k_jd0).2.1 = h.2.1 + 3 := rfl
      have h1' : h.1 = k_ju q k := h1
      rw [h1']
      show z_V G m_TK_init (d + 2) 124 _ _ (z_new h 3 k_jd0) _
      generalize z_new h 3 k_jd0 = ha at g0 g2 g3 g4 ⊢
      refine z_dup d_TK_init_124 rfl ?_
      refine z_callI (dY := d + 1) d_TK_init_125 rfl (by omega) (Y_TK_59 HG) (Nat.le_of_ble_eq_true rfl) (c_Jd_init HG g0 g3 (by omega) (by omega)) (fun v hb qq => ?_) (fun X hb qq => by obtain ⟨q1, -⟩ := qq; cases q1)
      obtain ⟨q1, b1, b2, b3, b4, b5, b6⟩ := qq
      cases q1
      have kA : ∀ y, y < k_ju q k ∨ k_ju q k + 4 < y → hb.2.2 y = h.2.2 y := fun y hy => (b6 y hy).trans (g2 y (by omega))
      refine z_aast (K_Jd HG) d_TK_init_128 (ty4 HG) ((kA (q + 1) (by omega)).trans hr) b3 (pk_in k 6 (by omega)) ?_
      rw [nI_clamp (by omega)]
      show z_V G m_TK_init (d + 2) 129 _ _ (z_set hb (q + 1) (k_arr (G.ca 4) 6 (va_up fr k (some (k_ju q k))))) _
      have e1 := z_set_at hb (q + 1) (k_arr (G.ca 4) 6 (va_up fr k (some (k_ju q k))))
      have e2 : ∀ y, y ≠ q + 1 → (z_set hb (q + 1) (k_arr (G.ca 4) 6 (va_up fr k (some (k_ju q k))))).2.2 y = hb.2.2 y := fun y hy => z_set_ne _ _ hy
      have e3 : (z_set hb (q + 1) (k_arr (G.ca 4) 6 (va_up fr k (some (k_ju q k))))).1 = k_ju q k + 5 := b1
      have e4 : (z_set hb (q + 1) (k_arr (G.ca 4) 6 (va_up fr k (some (k_ju q k))))).2.1 = h.2.1 + 87 := by
        show hb.2.1 = _
        omega
      generalize z_set hb (q + 1) (k_arr (G.ca 4) 6 (va_up fr k (some (k_ju q k)))) = hn at e1 e2 e3 e4 ⊢
      have kB : ∀ y, y < k_ju q k ∨ k_ju q k + 4 < y → y ≠ q + 1 → hn.2.2 y = h.2.2 y := fun y y1 y2 => (e2 y y2).trans (kA y y1)
      refine z_iinc (v := nI (k + 1)) d_TK_init_129 rfl (i_inc k) (by decide) ?_
      refine z_goto (tgt := 110) d_TK_init_132 rfl ?_
      refine z_fg [(0, .ref q), (1, .int (nI (k + 1)))] ⟨rfl, rfl, trivial⟩ ?_
      refine ih (k + 1) (va_up fr k (some (k_ju q k))) hn (by omega) (by omega) (by omega) (by omega) ((kB q (by omega) (by omega)).trans hq) e1 (fun j hj => ?_) (fun j hj => ?_) (fun h' fr' a1 a2 a3 a4 a5 a6 => kk h' fr' a1 (by omega) a3 a4 a5 (fun y y1 y2 => (a6 y (by omega) y2).trans (kB y (by omega) y2)))
      · by_cases e : j = k
        · rw [e]
          exact va_up_self _ _ _
        · exact (va_up_ne _ _ e).trans (hf j (by omega))
      · by_cases e : j = k
        · subst e
          exact ⟨(e2 _ (by omega)).trans b3, ⟨_, (e2 _ (by omega)).trans b4.1, (e2 _ (by omega)).trans b4.2⟩, _, (e2 _ (by omega)).trans b5.1, (e2 _ (by omega)).trans b5.2⟩
        · obtain ⟨u1, ⟨f1, u2⟩, f2, u3⟩ := hu j (by omega)
          have hj0 : k_ju q j = q + 64 + 5 * j := rfl
          exact ⟨(kB _ (by omega) (by omega)).trans u1, ⟨f1, (kB _ (by omega) (by omega)).trans u2.1, (kB _ (by omega) (by omega)).trans u2.2⟩, f2, (kB _ (by omega) (by omega)).trans u3.1, (kB _ (by omega) (by omega)).trans u3.2⟩
end TJ
