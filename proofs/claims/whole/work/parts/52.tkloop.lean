/-! TypeKernel's constructor: the loops that make rows -/
section TI
variable {G : z_G} {d o : Nat}
theorem l_tkC (HG : z_ok G) {Q : z_R → z_H → Prop} {v : va_E} {fs : List Value} (hv : v = .inr (5, fs)) (hfs : fs[2]? = some (.ref (o + 2))) : ∀ (c k : Nat) (f : Nat → Option Nat) (h : z_H), k + c = 4 → h.1 = o + 94 + 2 * k → h.1 + 2 * c ≤ G.b0 + G.cc → h.2.1 + 42 * c ≤ G.ss → h.2.2 o = some v → h.2.2 (o + 2) = some (k_arr (G.ca 3) 4 f) → (∀ j, j < k → f j = some (k_cu o j)) → (∀ j, j < k → ∃ g, rowAt G h (k_cu o j) 0 g) →
    (∀ h' f', h'.1 = o + 94 + 8 → h'.2.1 = h.2.1 + 42 * c → h'.2.2 (o + 2) = some (k_arr (G.ca 3) 4 f') → (∀ j, j < 4 → f' j = some (k_cu o j)) → (∀ j, j < 4 → ∃ g, rowAt G h' (k_cu o j) 0 g) → (∀ y, y < o + 94 + 2 * k ∨ o + 101 < y → y ≠ o + 2 → h'.2.2 y = h.2.2 y) → z_V G m_TK_init (d + 1) 161 [(0, .ref o)] [] h' Q) →
    z_V G m_TK_init (d + 1) 137 [(0, .ref o), (1, .int (nI k))] [] h Q := by
  subst hv
  intro c
  induction c with
  | zero =>
    intro k f h hk h1 hc hs ho hA hf hr kk
    refine z_iload_n d_TK_init_137 rfl rfl ?_
    refine z_iconst (v := nI 4) d_TK_init_138 (by decide) ?_
    refine z_icmp_ge (tgt := 161) d_TK_init_139 rfl (fun c1 => ?_) (fun c1 => ?_)
    · have hk8 : k = 4 := by omega
      subst hk8
      exact z_fg [(0, .ref o)] ⟨rfl, trivial⟩ (kk h f (by omega) (by omega) hA hf hr (fun _ _ _ => rfl))
    · rw [nI_leI (by omega) (by omega)] at c1
      omega
  | succ c ih =>
    intro k f h hk h1 hc hs ho hA hf hr kk
    have hcu : k_cu o k = o + 94 + 2 * k := rfl
    refine z_iload_n d_TK_init_137 rfl rfl ?_
    refine z_iconst (v := nI 4) d_TK_init_138 (by decide) ?_
    refine z_icmp_ge (tgt := 161) d_TK_init_139 rfl (fun c1 => ?_) (fun c1 => ?_)
    · rw [nI_leI (by omega) (by omega)] at c1
      omega
    · refine z_aload_n d_TK_init_142 rfl rfl ?_
      refine z_getf (k := 2) (L_TK_21K HG) (by decide) (L_TK_21 HG) d_TK_init_143 ho hfs ?_
      refine z_iload_n d_TK_init_146 rfl rfl ?_
      refine z_mkRow HG d_TK_init_147 d_TK_init_150 d_TK_init_151 rfl (w_c_TK_19 HG) (Y_TK_45 HG) (Nat.le_of_ble_eq_true rfl) (by omega) (by omega) (fun hb b1 b2 b3 b4 => ?_)
      rw [h1] at b1 b3 b4 ⊢
      refine z_aast (K_Row HG) d_TK_init_154 (ty3 HG) ((b4 (o + 2) (by omega) (by omega)).trans hA) b3.1 (pk_in k 4 (by omega)) ?_
      rw [nI_clamp (by omega)]
      show z_V G m_TK_init (d + 1) 155 _ _ (z_set hb (o + 2) (k_arr (G.ca 3) 4 (va_up f k (some (k_cu o k))))) _
      have e1 := z_set_at hb (o + 2) (k_arr (G.ca 3) 4 (va_up f k (some (k_cu o k))))
      have e2 : ∀ y, y ≠ o + 2 → (z_set hb (o + 2) (k_arr (G.ca 3) 4 (va_up f k (some (k_cu o k))))).2.2 y = hb.2.2 y := fun y hy => z_set_ne _ _ hy
      have e3 : (z_set hb (o + 2) (k_arr (G.ca 3) 4 (va_up f k (some (k_cu o k))))).1 = o + 94 + 2 * k + 2 := b1
      have e4 : (z_set hb (o + 2) (k_arr (G.ca 3) 4 (va_up f k (some (k_cu o k))))).2.1 = h.2.1 + 42 := b2
      generalize z_set hb (o + 2) (k_arr (G.ca 3) 4 (va_up f k (some (k_cu o k)))) = hn at e1 e2 e3 e4 ⊢
      have kB : ∀ y, y < k_cu o k ∨ k_cu o k + 1 < y → y ≠ o + 2 → hn.2.2 y = h.2.2 y := fun y y1 y2 => (e2 y y2).trans (b4 y (by omega) (by omega))
      refine z_iinc (v := nI (k + 1)) d_TK_init_155 rfl (i_inc k) (by decide) ?_
      refine z_goto (tgt := 137) d_TK_init_158 rfl ?_
      refine z_fg [(0, .ref o), (1, .int (nI (k + 1)))] ⟨rfl, rfl, trivial⟩ ?_
      refine ih (k + 1) (va_up f k (some (k_cu o k))) hn (by omega) (by omega) (by omega) (by omega) ((kB o (by omega) (by omega)).trans ho) e1 (fun j hj => ?_) (fun j hj => ?_) (fun h' f' a1 a2 a3 a4 a5 a6 => kk h' f' a1 (by omega) a3 a4 a5 (fun y y1 y2 => (a6 y (by omega) y2).trans (kB y (by omega) y2)))
      · by_cases e : j = k
        · rw [e]
          exact va_up_self _ _ _
        · exact (va_up_ne _ _ e).trans (hf j (by omega))
      · have hj0 : k_cu o j = o + 94 + 2 * j := rfl
        by_cases e : j = k
        · subst e
          exact ⟨_, (e2 _ (by omega)).trans b3.1, (e2 _ (by omega)).trans b3.2⟩
        · obtain ⟨g, u⟩ := hr j (by omega)
          exact ⟨g, (kB _ (by omega) (by omega)).trans u.1, (kB _ (by omega) (by omega)).trans u.2⟩
theorem l_tkK (HG : z_ok G) {Q : z_R → z_H → Prop} {v : va_E} {fs : List Value} (hv : v = .inr (5, fs)) (hfs : fs[4]? = some (.ref (o + 3))) : ∀ (c k : Nat) (f : Nat → Option Nat) (h : z_H), k + c = 8 → h.1 = o + 102 + 2 * k → h.1 + 2 * c ≤ G.b0 + G.cc → h.2.1 + 42 * c ≤ G.ss → h.2.2 o = some v → h.2.2 (o + 3) = some (k_arr (G.ca 3) 8 f) → (∀ j, j < k → f j = some (k_ku o j)) → (∀ j, j < k → ∃ g, rowAt G h (k_ku o j) 0 g) →
    (∀ h' f', h'.1 = o + 102 + 16 → h'.2.1 = h.2.1 + 42 * c → h'.2.2 (o + 3) = some (k_arr (G.ca 3) 8 f') → (∀ j, j < 8 → f' j = some (k_ku o j)) → (∀ j, j < 8 → ∃ g, rowAt G h' (k_ku o j) 0 g) → (∀ y, y < o + 102 + 2 * k ∨ o + 117 < y → y ≠ o + 3 → h'.2.2 y = h.2.2 y) → z_V G m_TK_init (d + 1) 188 [(0, .ref o)] [] h' Q) →
    z_V G m_TK_init (d + 1) 163 [(0, .ref o), (1, .int (nI k))] [] h Q := by
  subst hv
  intro c
  induction c with
  | zero =>
    intro k f h hk h1 hc hs ho hA hf hr kk
    refine z_iload_n d_TK_init_163 rfl rfl ?_
    refine z_bipush (v := nI 8) d_TK_init_164 (by decide +kernel) ?_
    refine z_icmp_ge (tgt := 188) d_TK_init_166 rfl (fun c1 => ?_) (fun c1 => ?_)
    · have hk8 : k = 8 := by omega
      subst hk8
      exact z_fg [(0, .ref o)] ⟨rfl, trivial⟩ (kk h f (by omega) (by omega) hA hf hr (fun _ _ _ => rfl))
    · rw [nI_leI (by omega) (by omega)] at c1
      omega
  | succ c ih =>
    intro k f h hk h1 hc hs ho hA hf hr kk
    have hcu : k_ku o k = o + 102 + 2 * k := rfl
    refine z_iload_n d_TK_init_163 rfl rfl ?_
    refine z_bipush (v := nI 8) d_TK_init_164 (by decide +kernel) ?_
    refine z_icmp_ge (tgt := 188) d_TK_init_166 rfl (fun c1 => ?_) (fun c1 => ?_)
    · rw [nI_leI (by omega) (by omega)] at c1
      omega
    · refine z_aload_n d_TK_init_169 rfl rfl ?_
      refine z_getf (k := 4) (L_TK_28K HG) (by decide) (L_TK_28 HG) d_TK_init_170 ho hfs ?_
      refine z_iload_n d_TK_init_173 rfl rfl ?_
      refine z_mkRow HG d_TK_init_174 d_TK_init_177 d_TK_init_178 rfl (w_c_TK_19 HG) (Y_TK_45 HG) (Nat.le_of_ble_eq_true rfl) (by omega) (by omega) (fun hb b1 b2 b3 b4 => ?_)
      rw [h1] at b1 b3 b4 ⊢
      refine z_aast (K_Row HG) d_TK_init_181 (ty3 HG) ((b4 (o + 3) (by omega) (by omega)).trans hA) b3.1 (pk_in k 8 (by omega)) ?_
      rw [nI_clamp (by omega)]
      show z_V G m_TK_init (d + 1) 182 _ _ (z_set hb (o + 3) (k_arr (G.ca 3) 8 (va_up f k (some (k_ku o k))))) _
      have e1 := z_set_at hb (o + 3) (k_arr (G.ca 3) 8 (va_up f k (some (k_ku o k))))
      have e2 : ∀ y, y ≠ o + 3 → (z_set hb (o + 3) (k_arr (G.ca 3) 8 (va_up f k (some (k_ku o k))))).2.2 y = hb.2.2 y := fun y hy => z_set_ne _ _ hy
      have e3 : (z_set hb (o + 3) (k_arr (G.ca 3) 8 (va_up f k (some (k_ku o k))))).1 = o + 102 + 2 * k + 2 := b1
      have e4 : (z_set hb (o + 3) (k_arr (G.ca 3) 8 (va_up f k (some (k_ku o k))))).2.1 = h.2.1 + 42 := b2
      generalize z_set hb (o + 3) (k_arr (G.ca 3) 8 (va_up f k (some (k_ku o k)))) = hn at e1 e2 e3 e4 ⊢
      have kB : ∀ y, y < k_ku o k ∨ k_ku o k + 1 < y → y ≠ o + 3 → hn.2.2 y = h.2.2 y := fun y y1 y2 => (e2 y y2).trans (b4 y (by omega) (by omega))
      refine z_iinc (v := nI (k + 1)) d_TK_init_182 rfl (i_inc k) (by decide) ?_
      refine z_goto (tgt := 163) d_TK_init_185 rfl ?_
      refine z_fg [(0, .ref o), (1, .int (nI (k + 1)))] ⟨rfl, rfl, trivial⟩ ?_
      refine ih (k + 1) (va_up f k (some (k_ku o k))) hn (by omega) (by omega) (by omega) (by omega) ((kB o (by omega) (by omega)).trans ho) e1 (fun j hj => ?_) (fun j hj => ?_) (fun h' f' a1 a2 a3 a4 a5 a6 => kk h' f' a1 (by omega) a3 a4 a5 (fun y y1 y2 => (a6 y (by omega) y2).trans (kB y (by omega) y2)))
      · by_cases e : j = k
        · rw [e]
          exact va_up_self _ _ _
        · exact (va_up_ne _ _ e).trans (hf j (by omega))
      · have hj0 : k_ku o j = o + 102 + 2 * j := rfl
        by_cases e : j = k
        · subst e
          exact ⟨_, (e2 _ (by omega)).trans b3.1, (e2 _ (by omega)).trans b3.2⟩
        · obtain ⟨g, u⟩ := hr j (by omega)
          exact ⟨g, (kB _ (by omega) (by omega)).trans u.1, (kB _ (by omega) (by omega)).trans u.2⟩
end TI
