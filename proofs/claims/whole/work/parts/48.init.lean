/-! constructors -/
section CN
variable {G : z_G} {h : z_H} {d : Nat}
theorem P_Row_9 (HG : z_ok G) : Cond.fieldLink "TypeKernel$Row" 9 (F_Row 0).1 (F_Row 0).2.1 (F_Row 0).2.2.1 ∈ G.Ts := HG.mem (k_in 43 (by decide +kernel) rfl)
theorem P_Wk_9 (HG : z_ok G) : Cond.fieldLink "TypeKernel$Walk" 9 (F_Wk 0).1 (F_Wk 0).2.1 (F_Wk 0).2.2.1 ∈ G.Ts := HG.mem (k_in 60 (by decide +kernel) rfl)
theorem P_Jd_10 (HG : z_ok G) : Cond.fieldLink "TypeKernel$Judgement" 10 (F_Jd 0).1 (F_Jd 0).2.1 (F_Jd 0).2.2.1 ∈ G.Ts := HG.mem (k_in 122 (by decide +kernel) rfl)
theorem P_Jd_16 (HG : z_ok G) : Cond.fieldLink "TypeKernel$Judgement" 16 (F_Jd 1).1 (F_Jd 1).2.1 (F_Jd 1).2.2.1 ∈ G.Ts := HG.mem (k_in 124 (by decide +kernel) rfl)
theorem P_Ru_10 (HG : z_ok G) : Cond.fieldLink "TypeKernel$Rule" 10 (F_Ru 0).1 (F_Ru 0).2.1 (F_Ru 0).2.2.1 ∈ G.Ts := HG.mem (k_in 74 (by decide +kernel) rfl)
theorem P_Ru_16 (HG : z_ok G) : Cond.fieldLink "TypeKernel$Rule" 16 (F_Ru 1).1 (F_Ru 1).2.1 (F_Ru 1).2.2.1 ∈ G.Ts := HG.mem (k_in 77 (by decide +kernel) rfl)
theorem P_Rw_11 (HG : z_ok G) : Cond.fieldLink "TypeKernel$Rewriter" 11 (F_Rw 0).1 (F_Rw 0).2.1 (F_Rw 0).2.2.1 ∈ G.Ts := HG.mem (k_in 90 (by decide +kernel) rfl)
theorem P_Rw_31 (HG : z_ok G) : Cond.fieldLink "TypeKernel$Rewriter" 31 (F_Rw 4).1 (F_Rw 4).2.1 (F_Rw 4).2.2.1 ∈ G.Ts := HG.mem (k_in 96 (by decide +kernel) rfl)
theorem P_Rw_38 (HG : z_ok G) : Cond.fieldLink "TypeKernel$Rewriter" 38 (F_Rw 5).1 (F_Rw 5).2.1 (F_Rw 5).2.2.1 ∈ G.Ts := HG.mem (k_in 97 (by decide +kernel) rfl)
theorem P_Rw_42 (HG : z_ok G) : Cond.fieldLink "TypeKernel$Rewriter" 42 (F_Rw 6).1 (F_Rw 6).2.1 (F_Rw 6).2.2.1 ∈ G.Ts := HG.mem (k_in 98 (by decide +kernel) rfl)
theorem P_TK_11 (HG : z_ok G) : Cond.fieldLink "TypeKernel" 11 (F_TK 0).1 (F_TK 0).2.1 (F_TK 0).2.2.1 ∈ G.Ts := HG.mem (k_in 135 (by decide +kernel) rfl)
theorem P_TK_21 (HG : z_ok G) : Cond.fieldLink "TypeKernel" 21 (F_TK 2).1 (F_TK 2).2.1 (F_TK 2).2.2.1 ∈ G.Ts := HG.mem (k_in 137 (by decide +kernel) rfl)
theorem P_TK_28 (HG : z_ok G) : Cond.fieldLink "TypeKernel" 28 (F_TK 4).1 (F_TK 4).2.1 (F_TK 4).2.2.1 ∈ G.Ts := HG.mem (k_in 139 (by decide +kernel) rfl)
theorem P_TK_31 (HG : z_ok G) : Cond.fieldLink "TypeKernel" 31 (F_TK 5).1 (F_TK 5).2.1 (F_TK 5).2.2.1 ∈ G.Ts := HG.mem (k_in 140 (by decide +kernel) rfl)
theorem P_TK_41 (HG : z_ok G) : Cond.fieldLink "TypeKernel" 41 (F_TK 7).1 (F_TK 7).2.1 (F_TK 7).2.2.1 ∈ G.Ts := HG.mem (k_in 142 (by decide +kernel) rfl)
theorem P_TK_46 (HG : z_ok G) : Cond.fieldLink "TypeKernel" 46 (F_TK 8).1 (F_TK 8).2.1 (F_TK 8).2.2.1 ∈ G.Ts := HG.mem (k_in 143 (by decide +kernel) rfl)
theorem P_TK_50 (HG : z_ok G) : Cond.fieldLink "TypeKernel" 50 (F_TK 9).1 (F_TK 9).2.1 (F_TK 9).2.2.1 ∈ G.Ts := HG.mem (k_in 144 (by decide +kernel) rfl)
theorem P_TK_53 (HG : z_ok G) : Cond.fieldLink "TypeKernel" 53 (F_TK 10).1 (F_TK 10).2.1 (F_TK 10).2.2.1 ∈ G.Ts := HG.mem (k_in 145 (by decide +kernel) rfl)
theorem P_TK_56 (HG : z_ok G) : Cond.fieldLink "TypeKernel" 56 (F_TK 11).1 (F_TK 11).2.1 (F_TK 11).2.2.1 ∈ G.Ts := HG.mem (k_in 146 (by decide +kernel) rfl)
/-- objects that have just been made, their constructors still to run -/
def k_row0 : va_E := .inr (0, [.null, .int 0])
def k_wk0 : va_E := .inr (3, [.null, .int 0])
def k_jd0 : va_E := .inr (1, [.null, .null, .int 0])
def k_ru0 : va_E := .inr (2, [.null, .null, .int 0])
theorem c_Row_init (HG : z_ok G) {r : Nat} (hr : h.2.2 r = some k_row0) (h1 : h.1 = r + 1) (hc : h.1 + 1 ≤ G.b0 + G.cc) (hs : h.2.1 + 40 ≤ G.ss) :
    z_C G m_Row_init d [.ref r] h (z_pq none (fun h' => h'.1 = r + 2 ∧ h'.2.1 = h.2.1 + 40 ∧ rowAt G h' r 0 (fun _ => nI 0) ∧ ∀ y, y ≠ r → y ≠ r + 1 → h'.2.2 y = h.2.2 y)) := by
  refine z_C.of (Nat.le_of_ble_eq_true rfl) ?_
  refine z_aload_n d_Row_init_0 rfl rfl ?_
  refine z_oinit d_Row_init_1 (w_o_Row HG) (w_oi1 HG) (w_oi2 HG) (Nat.le_of_ble_eq_true rfl) ?_
  refine z_aload_n d_Row_init_4 rfl rfl ?_
  refine z_bipush (v := nI 40) d_Row_init_5 (by decide +kernel) ?_
  refine z_newa (ty := .int) (a0 := (40, .inl (fun _ => nI 0))) d_Row_init_7 rfl (w_a_int HG) (ty0 HG) (fun _ _ h => h) (fun x => rfl) (nI_pos (by decide)) (nI_clamp (by decide)) (by decide) hc hs ?_
  rw [h1]
  have g0 : (z_new h 40 (k_ints G 40 (fun _ => nI 0))).2.2 r = some k_row0 := (va_up_ne _ _ (by omega)).trans hr
  have g1 : (z_new h 40 (k_ints G 40 (fun _ => nI 0))).2.2 (r + 1) = some (k_ints G 40 (fun _ => nI 0)) := by
    show va_up h.2.2 h.1 _ (r + 1) = _
    rw [h1]
    exact va_up_self _ _ _
  have g2 : ∀ y, y ≠ r + 1 → (z_new h 40 (k_ints G 40 (fun _ => nI 0))).2.2 y = h.2.2 y := fun y hy => va_up_ne _ _ (by omega)
  have g3 : (z_new h 40 (k_ints G 40 (fun _ => nI 0))).1 = r + 2 := by
    show h.1 + 1 = _
    omega
  have g4 : (z_new h 40 (k_ints G 40 (fun _ => nI 0))).2.1 = h.2.1 + 40 := rfl
  show z_V G m_Row_init d 9 _ _ (z_new h 40 (k_ints G 40 (fun _ => nI 0))) _
  generalize z_new h 40 (k_ints G 40 (fun _ => nI 0)) = h2 at g0 g1 g2 g3 g4 ⊢
  refine z_putF (k := 0) (K_Row HG) (by decide) (P_Row_9 HG) rfl rfl rfl d_Row_init_9 g0 rfl rfl (Nat.le_of_ble_eq_true rfl) ?_
  refine z_aload_n d_Row_init_12 rfl rfl ?_
  refine z_iconst (v := nI 0) d_Row_init_13 (by decide) ?_
  refine z_putf (L_Row_15K HG) (by decide) (L_Row_15 HG) rfl d_Row_init_14 (z_set_at ..) rfl rfl (Nat.le_of_ble_eq_true rfl) ?_
  rw [z_set_set]
  exact z_return d_Row_init_17 rfl ⟨rfl, g3, g4, ⟨z_set_at .., (z_set_ne _ _ (by omega)).trans g1⟩, fun y y1 y2 => (z_set_ne _ _ y1).trans (g2 y y2)⟩
theorem c_Wk_init (HG : z_ok G) {r : Nat} (hr : h.2.2 r = some k_wk0) (h1 : h.1 = r + 1) (hc : h.1 + 1 ≤ G.b0 + G.cc) (hs : h.2.1 + 41 ≤ G.ss) :
    z_C G m_Wk_init d [.ref r] h (z_pq none (fun h' => h'.1 = r + 2 ∧ h'.2.1 = h.2.1 + 41 ∧ wkAt G h' r 0 (fun _ => nI 0) ∧ ∀ y, y ≠ r → y ≠ r + 1 → h'.2.2 y = h.2.2 y)) := by
  refine z_C.of (Nat.le_of_ble_eq_true rfl) ?_
  refine z_aload_n d_Wk_init_0 rfl rfl ?_
  refine z_oinit d_Wk_init_1 (w_o_Wk HG) (w_oi1 HG) (w_oi2 HG) (Nat.le_of_ble_eq_true rfl) ?_
  refine z_aload_n d_Wk_init_4 rfl rfl ?_
  refine z_bipush (v := nI 41) d_Wk_init_5 (by decide +kernel) ?_
  refine z_newa (ty := .int) (a0 := (41, .inl (fun _ => nI 0))) d_Wk_init_7 rfl (w_a_int HG) (ty0 HG) (fun _ _ h => h) (fun x => rfl) (nI_pos (by decide)) (nI_clamp (by decide)) (by decide) hc hs ?_
  rw [h1]
  have g0 : (z_new h 41 (k_ints G 41 (fun _ => nI 0))).2.2 r = some k_wk0 := (va_up_ne _ _ (by omega)).trans hr
  have g1 : (z_new h 41 (k_ints G 41 (fun _ => nI 0))).2.2 (r + 1) = some (k_ints G 41 (fun _ => nI 0)) := by
    show va_up h.2.2 h.1 _ (r + 1) = _
    rw [h1]
    exact va_up_self _ _ _
  have g2 : ∀ y, y ≠ r + 1 → (z_new h 41 (k_ints G 41 (fun _ => nI 0))).2.2 y = h.2.2 y := fun y hy => va_up_ne _ _ (by omega)
  have g3 : (z_new h 41 (k_ints G 41 (fun _ => nI 0))).1 = r + 2 := by
    show h.1 + 1 = _
    omega
  have g4 : (z_new h 41 (k_ints G 41 (fun _ => nI 0))).2.1 = h.2.1 + 41 := rfl
  show z_V G m_Wk_init d 9 _ _ (z_new h 41 (k_ints G 41 (fun _ => nI 0))) _
  generalize z_new h 41 (k_ints G 41 (fun _ => nI 0)) = h2 at g0 g1 g2 g3 g4 ⊢
  refine z_putF (k := 0) (K_Wk HG) (by decide) (P_Wk_9 HG) rfl rfl rfl d_Wk_init_9 g0 rfl rfl (Nat.le_of_ble_eq_true rfl) ?_
  refine z_aload_n d_Wk_init_12 rfl rfl ?_
  refine z_iconst (v := nI 0) d_Wk_init_13 (by decide) ?_
  refine z_putf (L_Wk_15K HG) (by decide) (L_Wk_15 HG) rfl d_Wk_init_14 (z_set_at ..) rfl rfl (Nat.le_of_ble_eq_true rfl) ?_
  rw [z_set_set]
  exact z_return d_Wk_init_17 rfl ⟨rfl, g3, g4, ⟨z_set_at .., (z_set_ne _ _ (by omega)).trans g1⟩, fun y y1 y2 => (z_set_ne _ _ y1).trans (g2 y y2)⟩
theorem c_Jd_init (HG : z_ok G) {r : Nat} (hr : h.2.2 r = some k_jd0) (h1 : h.1 = r + 1) (hc : h.1 + 4 ≤ G.b0 + G.cc) (hs : h.2.1 + 84 ≤ G.ss) :
    z_C G m_Jd_init (d + 1) [.ref r] h (z_pq none (fun h' => h'.1 = r + 5 ∧ h'.2.1 = h.2.1 + 84 ∧ h'.2.2 r = some (k_jd r 0) ∧ rowAt G h' (r + 1) 0 (fun _ => nI 0) ∧ rowAt G h' (r + 3) 0 (fun _ => nI 0) ∧ ∀ y, y < r ∨ r + 4 < y → h'.2.2 y = h.2.2 y)) := by
  refine z_C.of (Nat.le_of_ble_eq_true rfl) ?_
  refine z_aload_n d_Jd_init_0 rfl rfl ?_
  refine z_oinit d_Jd_init_1 (w_o_Jd HG) (w_oi1 HG) (w_oi2 HG) (Nat.le_of_ble_eq_true rfl) ?_
  refine z_aload_n d_Jd_init_4 rfl rfl ?_
  refine z_newo (fs := [.null, .int 0]) (K_Row HG) d_Jd_init_5 (w_c_Jd_7 HG) (w_i_Row HG) (w_n_Row HG) (by decide) (by omega) (by omega) ?_
  have g0 : (z_new h 2 k_row0).2.2 (r + 1) = some k_row0 := by
    show va_up h.2.2 h.1 _ (r + 1) = _
    rw [h1]
    exact va_up_self _ _ _
  have g2 : ∀ y, y ≠ r + 1 → (z_new h 2 k_row0).2.2 y = h.2.2 y := fun y hy => va_up_ne _ _ (by omega)
  have g3 : (z_new h 2 k_row0).1 = r + 2 := by
    show h.1 + 1 = _
    omega
  have g4 : (z_new h 2 k_row0).2.1 = h.2.1 + 2 := rfl
  rw [h1]
  show z_V G m_Jd_init (d + 1) 8 _ _ (z_new h 2 k_row0) _
  generalize z_new h 2 k_row0 = ha at g0 g2 g3 g4 ⊢
  refine z_dup d_Jd_init_8 rfl ?_
  refine z_callI (dY := d) d_Jd_init_9 rfl (by omega) (Y_Jd_9 HG) (Nat.le_of_ble_eq_true rfl) (c_Row_init HG g0 g3 (by omega) (by omega)) (fun v hb q => ?_) (fun X hb q => by obtain ⟨q1, -⟩ := q; cases q1)
  obtain ⟨q1, b1, b2, b3, b4⟩ := q
  cases q1
  have e0 : hb.2.2 r = some k_jd0 := (b4 r (by omega) (by omega)).trans ((g2 r (by omega)).trans hr)
  refine z_putF (k := 0) (K_Jd HG) (by decide) (P_Jd_10 HG) rfl rfl rfl d_Jd_init_12 e0 rfl rfl (Nat.le_of_ble_eq_true rfl) ?_
  have e1 := z_set_at hb r (.inr (1, [.ref (r + 1), .null, .int 0]))
  have e2 : ∀ y, y ≠ r → (z_set hb r (.inr (1, [.ref (r + 1), .null, .int 0]))).2.2 y = hb.2.2 y := fun y hy => z_set_ne _ _ hy
  have e3 : (z_set hb r (.inr (1, [.ref (r + 1), .null, .int 0]))).1 = r + 3 := b1
  have e4 : (z_set hb r (.inr (1, [.ref (r + 1), .null, .int 0]))).2.1 = h.2.1 + 42 := by
    show hb.2.1 = _
    omega
  show z_V G m_Jd_init (d + 1) 15 _ _ (z_set hb r (.inr (1, [.ref (r + 1), .null, .int 0]))) _
  generalize z_set hb r (.inr (1, [.ref (r + 1), .null, .int 0])) = hcc at e1 e2 e3 e4 ⊢
  refine z_aload_n d_Jd_init_15 rfl rfl ?_
  refine z_newo (fs := [.null, .int 0]) (K_Row HG) d_Jd_init_16 (w_c_Jd_7 HG) (w_i_Row HG) (w_n_Row HG) (by decide) (by omega) (by omega) ?_
  have f0 : (z_new hcc 2 k_row0).2.2 (r + 3) = some k_row0 := by
    show va_up hcc.2.2 hcc.1 _ (r + 3) = _
    rw [e3]
    exact va_up_self _ _ _
  have f2 : ∀ y, y ≠ r + 3 → (z_new hcc 2 k_row0).2.2 y = hcc.2.2 y := fun y hy => va_up_ne _ _ (by omega)
  have f3 : (z_new hcc 2 k_row0).1 = r + 3 + 1 := by
    show hcc.1 + 1 = _
    omega
  have f4 : (z_new hcc 2 k_row0).2.1 = hcc.2.1 + 2 := rfl
  rw [e3]
  show z_V G m_Jd_init (d + 1) 19 _ _ (z_new hcc 2 k_row0) _
  generalize z_new hcc 2 k_row0 = hdd at f0 f2 f3 f4 ⊢
  refine z_dup d_Jd_init_19 rfl ?_
  refine z_callI (dY := d) d_Jd_init_20 rfl (by omega) (Y_Jd_9 HG) (Nat.le_of_ble_eq_true rfl) (c_Row_init HG f0 f3 (by omega) (by omega)) (fun v he q => ?_) (fun X he q => by obtain ⟨q1, -⟩ := q; cases q1)
  obtain ⟨q1, c1, c2, c3, c4⟩ := q
  cases q1
  have i0 : he.2.2 r = some (.inr (1, [.ref (r + 1), .null, .int 0])) := (c4 r (by omega) (by omega)).trans ((f2 r (by omega)).trans e1)
  refine z_putF (k := 1) (K_Jd HG) (by decide) (P_Jd_16 HG) rfl rfl rfl d_Jd_init_23 i0 rfl rfl (Nat.le_of_ble_eq_true rfl) ?_
  refine z_aload_n d_Jd_init_26 rfl rfl ?_
  refine z_iconst (v := nI 0) d_Jd_init_27 (by decide) ?_
  refine z_putf (L_Jd_19K HG) (by decide) (L_Jd_19 HG) rfl d_Jd_init_28 (z_set_at ..) rfl rfl (Nat.le_of_ble_eq_true rfl) ?_
  rw [z_set_set]
  refine z_return d_Jd_init_31 rfl ⟨rfl, c1, ?_, z_set_at .., z_set_row _ ?_ (by omega) (by omega), z_set_row _ c3 (by omega) (by omega), fun y hy => (z_set_ne _ _ (by omega)).trans ((c4 y (by omega) (by omega)).trans ((f2 y (by omega)).trans ((e2 y (by omega)).trans ((b4 y (by omega) (by omega)).trans (g2 y (by omega))))))⟩
  · show he.2.1 = _
    omega
  · exact ⟨(c4 _ (by omega) (by omega)).trans ((f2 _ (by omega)).trans ((e2 _ (by omega)).trans b3.1)), (c4 _ (by omega) (by omega)).trans ((f2 _ (by omega)).trans ((e2 _ (by omega)).trans b3.2))⟩
theorem c_Ru_init (HG : z_ok G) {r : Nat} (hr : h.2.2 r = some k_ru0) (h1 : h.1 = r + 1) (hc : h.1 + 4 ≤ G.b0 + G.cc) (hs : h.2.1 + 84 ≤ G.ss) :
    z_C G m_Ru_init (d + 1) [.ref r] h (z_pq none (fun h' => h'.1 = r + 5 ∧ h'.2.1 = h.2.1 + 84 ∧ h'.2.2 r = some (k_ru r 0) ∧ rowAt G h' (r + 1) 0 (fun _ => nI 0) ∧ rowAt G h' (r + 3) 0 (fun _ => nI 0) ∧ ∀ y, y < r ∨ r + 4 < y → h'.2.2 y = h.2.2 y)) := by
  refine z_C.of (Nat.le_of_ble_eq_true rfl) ?_
  refine z_aload_n d_Ru_init_0 rfl rfl ?_
  refine z_oinit d_Ru_init_1 (w_o_Ru HG) (w_oi1 HG) (w_oi2 HG) (Nat.le_of_ble_eq_true rfl) ?_
  refine z_aload_n d_Ru_init_4 rfl rfl ?_
  refine z_newo (fs := [.null, .int 0]) (K_Row HG) d_Ru_init_5 (w_c_Ru_7 HG) (w_i_Row HG) (w_n_Row HG) (by decide) (by omega) (by omega) ?_
  have g0 : (z_new h 2 k_row0).2.2 (r + 1) = some k_row0 := by
    show va_up h.2.2 h.1 _ (r + 1) = _
    rw [h1]
    exact va_up_self _ _ _
  have g2 : ∀ y, y ≠ r + 1 → (z_new h 2 k_row0).2.2 y = h.2.2 y := fun y hy => va_up_ne _ _ (by omega)
  have g3 : (z_new h 2 k_row0).1 = r + 2 := by
    show h.1 + 1 = _
    omega
  have g4 : (z_new h 2 k_row0).2.1 = h.2.1 + 2 := rfl
  rw [h1]
  show z_V G m_Ru_init (d + 1) 8 _ _ (z_new h 2 k_row0) _
  generalize z_new h 2 k_row0 = ha at g0 g2 g3 g4 ⊢
  refine z_dup d_Ru_init_8 rfl ?_
  refine z_callI (dY := d) d_Ru_init_9 rfl (by omega) (Y_Ru_9 HG) (Nat.le_of_ble_eq_true rfl) (c_Row_init HG g0 g3 (by omega) (by omega)) (fun v hb q => ?_) (fun X hb q => by obtain ⟨q1, -⟩ := q; cases q1)
  obtain ⟨q1, b1, b2, b3, b4⟩ := q
  cases q1
  have e0 : hb.2.2 r = some k_ru0 := (b4 r (by omega) (by omega)).trans ((g2 r (by omega)).trans hr)
  refine z_putF (k := 0) (K_Ru HG) (by decide) (P_Ru_10 HG) rfl rfl rfl d_Ru_init_12 e0 rfl rfl (Nat.le_of_ble_eq_true rfl) ?_
  have e1 := z_set_at hb r (.inr (2, [.ref (r + 1), .null, .int 0]))
  have e2 : ∀ y, y ≠ r → (z_set hb r (.inr (2, [.ref (r + 1), .null, .int 0]))).2.2 y = hb.2.2 y := fun y hy => z_set_ne _ _ hy
  have e3 : (z_set hb r (.inr (2, [.ref (r + 1), .null, .int 0]))).1 = r + 3 := b1
  have e4 : (z_set hb r (.inr (2, [.ref (r + 1), .null, .int 0]))).2.1 = h.2.1 + 42 := by
    show hb.2.1 = _
    omega
  show z_V G m_Ru_init (d + 1) 15 _ _ (z_set hb r (.inr (2, [.ref (r + 1), .null, .int 0]))) _
  generalize z_set hb r (.inr (2, [.ref (r + 1), .null, .int 0])) = hcc at e1 e2 e3 e4 ⊢
  refine z_aload_n d_Ru_init_15 rfl rfl ?_
  refine z_newo (fs := [.null, .int 0]) (K_Row HG) d_Ru_init_16 (w_c_Ru_7 HG) (w_i_Row HG) (w_n_Row HG) (by decide) (by omega) (by omega) ?_
  have f0 : (z_new hcc 2 k_row0).2.2 (r + 3) = some k_row0 := by
    show va_up hcc.2.2 hcc.1 _ (r + 3) = _
    rw [e3]
    exact va_up_self _ _ _
  have f2 : ∀ y, y ≠ r + 3 → (z_new hcc 2 k_row0).2.2 y = hcc.2.2 y := fun y hy => va_up_ne _ _ (by omega)
  have f3 : (z_new hcc 2 k_row0).1 = r + 3 + 1 := by
    show hcc.1 + 1 = _
    omega
  have f4 : (z_new hcc 2 k_row0).2.1 = hcc.2.1 + 2 := rfl
  rw [e3]
  show z_V G m_Ru_init (d + 1) 19 _ _ (z_new hcc 2 k_row0) _
  generalize z_new hcc 2 k_row0 = hdd at f0 f2 f3 f4 ⊢
  refine z_dup d_Ru_init_19 rfl ?_
  refine z_callI (dY := d) d_Ru_init_20 rfl (by omega) (Y_Ru_9 HG) (Nat.le_of_ble_eq_true rfl) (c_Row_init HG f0 f3 (by omega) (by omega)) (fun v he q => ?_) (fun X he q => by obtain ⟨q1, -⟩ := q; cases q1)
  obtain ⟨q1, c1, c2, c3, c4⟩ := q
  cases q1
  have i0 : he.2.2 r = some (.inr (2, [.ref (r + 1), .null, .int 0])) := (c4 r (by omega) (by omega)).trans ((f2 r (by omega)).trans e1)
  refine z_putF (k := 1) (K_Ru HG) (by decide) (P_Ru_16 HG) rfl rfl rfl d_Ru_init_23 i0 rfl rfl (Nat.le_of_ble_eq_true rfl) ?_
  refine z_aload_n d_Ru_init_26 rfl rfl ?_
  refine z_iconst (v := nI 0) d_Ru_init_27 (by decide) ?_
  refine z_putf (L_Ru_19K HG) (by decide) (L_Ru_19 HG) rfl d_Ru_init_28 (z_set_at ..) rfl rfl (Nat.le_of_ble_eq_true rfl) ?_
  rw [z_set_set]
  refine z_return d_Ru_init_31 rfl ⟨rfl, c1, ?_, z_set_at .., z_set_row _ ?_ (by omega) (by omega), z_set_row _ c3 (by omega) (by omega), fun y hy => (z_set_ne _ _ (by omega)).trans ((c4 y (by omega) (by omega)).trans ((f2 y (by omega)).trans ((e2 y (by omega)).trans ((b4 y (by omega) (by omega)).trans (g2 y (by omega))))))⟩
  · show he.2.1 = _
    omega
  · exact ⟨(c4 _ (by omega) (by omega)).trans ((f2 _ (by omega)).trans ((e2 _ (by omega)).trans b3.1)), (c4 _ (by omega) (by omega)).trans ((f2 _ (by omega)).trans ((e2 _ (by omega)).trans b3.2))⟩
end CN
