/-! Rewriter's constructor: its loop -/
section RI
variable {G : z_G} {d q : Nat}
/-- the first k rules' objects -/
def ruUp (G : z_G) (h : z_H) (q k : Nat) : Prop := ∀ j, j < k → h.2.2 (k_rq q j) = some (k_ru (k_rq q j) 0) ∧ (∃ f, rowAt G h (k_rq q j + 1) 0 f) ∧ ∃ f, rowAt G h (k_rq q j + 3) 0 f
theorem l_rwinit (HG : z_ok G) {Q : z_R → z_H → Prop} {fs : List Value} : ∀ (c k : Nat) (fr : Nat → Option Nat) (h : z_H), k + c = 8 → h.1 = q + 11 + 5 * k → h.1 + 5 * c ≤ G.b0 + G.cc → h.2.1 + 87 * c ≤ G.ss → h.2.2 q = some (.inr (4, .ref (q + 1) :: fs)) → h.2.2 (q + 1) = some (k_rls G fr) → (∀ j, j < k → fr j = some (k_rq q j)) → ruUp G h q k →
    (∀ h' fr', h'.1 = q + 51 → h'.2.1 = h.2.1 + 87 * c → h'.2.2 (q + 1) = some (k_rls G fr') → k_rok q fr' → ruUp G h' q 8 → (∀ y, y < q + 11 + 5 * k ∨ q + 50 < y → y ≠ q + 1 → h'.2.2 y = h.2.2 y) → Q (.inl none) h') →
    z_V G m_Rw_init (d + 2) 71 [(0, .ref q), (1, .int (nI k))] [] h Q := by
  intro c
  induction c with
  | zero =>
    intro k fr h hk h1 hc hs hq hr hf hu kk
    refine z_iload_n d_Rw_init_71 rfl rfl ?_
    refine z_bipush (v := nI 8) d_Rw_init_72 (by decide +kernel) ?_
    refine z_icmp_ge (tgt := 96) d_Rw_init_74 rfl (fun c1 => ?_) (fun c1 => ?_)
    · have hk8 : k = 8 := by omega
      subst hk8
      exact z_return d_Rw_init_96 rfl (kk h fr (by omega) (by omega) hr hf hu (fun _ _ _ => rfl))
    · rw [nI_leI (by omega) (by omega)] at c1
      omega
  | succ c ih =>
    intro k fr h hk h1 hc hs hq hr hf hu kk
    refine z_iload_n d_Rw_init_71 rfl rfl ?_
    refine z_bipush (v := nI 8) d_Rw_init_72 (by decide +kernel) ?_
    refine z_icmp_ge (tgt := 96) d_Rw_init_74 rfl (fun c1 => ?_) (fun c1 => ?_)
    · rw [nI_leI (by omega) (by omega)] at c1
      omega
    · refine z_aload_n d_Rw_init_77 rfl rfl ?_
      refine z_getf (L_Rw_11K HG) (by decide) (L_Rw_11 HG) d_Rw_init_78 hq (by rfl) ?_
      refine z_iload_n d_Rw_init_81 rfl rfl ?_
      refine z_newo (fs := [.null, .null, .int 0]) (K_Ru HG) d_Rw_init_82 (w_c_Rw_9 HG) (w_i_Ru HG) (w_n_Ru HG) (by decide) (by omega) (by omega) ?_
      have hu0 : k_rq q k = q + 11 + 5 * k := rfl
      have g0 : (z_new h 3 k_ru0).2.2 (k_rq q k) = some k_ru0 := by
        show va_up h.2.2 h.1 _ (k_rq q k) = _
        rw [h1]
        exact va_up_self _ _ _
      have g2 : ∀ y, y ≠ k_rq q k → (z_new h 3 k_ru0).2.2 y = h.2.2 y := fun y hy => va_up_ne _ _ (by rw [h1]; exact hy)
      have g3 : (z_new h 3 k_ru0).1 = k_rq q k + 1 := by
        show h.1 + 1 = _
        omega
      have g4 : (z_new h 3 k_ru0).2.1 = h.2.1 + 3 := rfl
      have h1' : h.1 = k_rq q k := h1
      rw [h1']
      show z_V G m_Rw_init (d + 2) 85 _ _ (z_new h 3 k_ru0) _
      generalize z_new h 3 k_ru0 = ha at g0 g2 g3 g4 ⊢
      refine z_dup d_Rw_init_85 rfl ?_
      refine z_callI (dY := d + 1) d_Rw_init_86 rfl (by omega) (Y_Rw_45 HG) (Nat.le_of_ble_eq_true rfl) (c_Ru_init HG g0 g3 (by omega) (by omega)) (fun v hb qq => ?_) (fun X hb qq => by obtain ⟨q1, -⟩ := qq; cases q1)
      obtain ⟨q1, b1, b2, b3, b4, b5, b6⟩ := qq
      cases q1
      have kA : ∀ y, y < k_rq q k ∨ k_rq q k + 4 < y → hb.2.2 y = h.2.2 y := fun y hy => (b6 y hy).trans (g2 y (by omega))
      refine z_aast (K_Ru HG) d_Rw_init_89 (ty5 HG) ((kA (q + 1) (by omega)).trans hr) b3 (pk_in k 8 (by omega)) ?_
      rw [nI_clamp (by omega)]
      show z_V G m_Rw_init (d + 2) 90 _ _ (z_set hb (q + 1) (k_rls G (va_up fr k (some (k_rq q k))))) _
      have e1 := z_set_at hb (q + 1) (k_rls G (va_up fr k (some (k_rq q k))))
      have e2 : ∀ y, y ≠ q + 1 → (z_set hb (q + 1) (k_rls G (va_up fr k (some (k_rq q k))))).2.2 y = hb.2.2 y := fun y hy => z_set_ne _ _ hy
      have e3 : (z_set hb (q + 1) (k_rls G (va_up fr k (some (k_rq q k))))).1 = k_rq q k + 5 := b1
      have e4 : (z_set hb (q + 1) (k_rls G (va_up fr k (some (k_rq q k))))).2.1 = h.2.1 + 87 := by
        show hb.2.1 = _
        omega
      generalize z_set hb (q + 1) (k_rls G (va_up fr k (some (k_rq q k)))) = hn at e1 e2 e3 e4 ⊢
      have kB : ∀ y, y < k_rq q k ∨ k_rq q k + 4 < y → y ≠ q + 1 → hn.2.2 y = h.2.2 y := fun y y1 y2 => (e2 y y2).trans (kA y y1)
      refine z_iinc (v := nI (k + 1)) d_Rw_init_90 rfl (i_inc k) (by decide) ?_
      refine z_goto (tgt := 71) d_Rw_init_93 rfl ?_
      refine z_fg [(0, .ref q), (1, .int (nI (k + 1)))] ⟨rfl, rfl, trivial⟩ ?_
      refine ih (k + 1) (va_up fr k (some (k_rq q k))) hn (by omega) (by omega) (by omega) (by omega) ((kB q (by omega) (by omega)).trans hq) e1 (fun j hj => ?_) (fun j hj => ?_) (fun h' fr' a1 a2 a3 a4 a5 a6 => kk h' fr' a1 (by omega) a3 a4 a5 (fun y y1 y2 => (a6 y (by omega) y2).trans (kB y (by omega) y2)))
      · by_cases e : j = k
        · rw [e]
          exact va_up_self _ _ _
        · exact (va_up_ne _ _ e).trans (hf j (by omega))
      · by_cases e : j = k
        · subst e
          exact ⟨(e2 _ (by omega)).trans b3, ⟨_, (e2 _ (by omega)).trans b4.1, (e2 _ (by omega)).trans b4.2⟩, _, (e2 _ (by omega)).trans b5.1, (e2 _ (by omega)).trans b5.2⟩
        · obtain ⟨u1, ⟨f1, u2⟩, f2, u3⟩ := hu j (by omega)
          have hj0 : k_rq q j = q + 11 + 5 * j := rfl
          exact ⟨(kB _ (by omega) (by omega)).trans u1, ⟨f1, (kB _ (by omega) (by omega)).trans u2.1, (kB _ (by omega) (by omega)).trans u2.2⟩, f2, (kB _ (by omega) (by omega)).trans u3.1, (kB _ (by omega) (by omega)).trans u3.2⟩
end RI
