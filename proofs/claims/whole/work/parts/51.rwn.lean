/-! Rewriter's constructor -/
section RN
variable {G : z_G} {d q : Nat} {h hf : z_H}
def k_rw0 : va_E := .inr (4, [.null, .int 0, .null, .null, .null, .null, .null])
theorem l_rwinit2 (HG : z_ok G) {Q : z_R → z_H → Prop} (hfq : hf.2.2 q = some (.inr (4, [.ref (q + 1), .int (nI 0), .ref (q + 2), .ref (q + 4), .null, .null, .null]))) (hfs : hf.1 = q + 6) (hc : hf.1 + 45 ≤ G.b0 + G.cc) (hs : hf.2.1 + 786 ≤ G.ss) (ha : hf.2.2 (q + 1) = some (k_rls G (fun _ => none)))
    (kk : ∀ h' fr', h'.1 = q + 51 → h'.2.1 = hf.2.1 + 786 → h'.2.2 q = some (k_rw q 0 (q + 2) (q + 4)) → h'.2.2 (q + 1) = some (k_rls G fr') → k_rok q fr' → h'.2.2 (q + 6) = some (k_ms G (fun _ => 0)) → k_sc G q h' → ruUp G h' q 8 → (∀ y, y ≠ q → y ≠ q + 1 → y < q + 6 ∨ q + 50 < y → h'.2.2 y = hf.2.2 y) → Q (.inl none) h') :
    z_V G m_Rw_init (d + 2) 40 [(0, .ref q)] [] hf Q := by
  refine z_aload_n d_Rw_init_40 rfl rfl ?_
  refine z_iconst (v := nI 4) d_Rw_init_41 (by decide) ?_
  refine z_newa (ty := .int) (a0 := (4, .inl (fun _ => nI 0))) d_Rw_init_42 rfl (w_a_int HG) (ty0 HG) (fun _ _ h => h) (fun x => rfl) (nI_pos (by decide)) (nI_clamp (by decide)) (by decide) (by omega) (by omega) ?_
  rw [hfs]
  have m0 : (z_new hf 4 (k_ms G (fun _ => 0))).2.2 (q + 6) = some (k_ms G (fun _ => 0)) := by
    show va_up hf.2.2 hf.1 _ (q + 6) = _
    rw [hfs]
    exact va_up_self _ _ _
  have m2 : ∀ y, y ≠ q + 6 → (z_new hf 4 (k_ms G (fun _ => 0))).2.2 y = hf.2.2 y := fun y hy => va_up_ne _ _ (by omega)
  have m3 : (z_new hf 4 (k_ms G (fun _ => 0))).1 = q + 7 := by
    show hf.1 + 1 = _
    omega
  have m4 : (z_new hf 4 (k_ms G (fun _ => 0))).2.1 = hf.2.1 + 4 := rfl
  show z_V G m_Rw_init (d + 2) 44 _ _ (z_new hf 4 (k_ms G (fun _ => 0))) _
  generalize z_new hf 4 (k_ms G (fun _ => 0)) = hm at m0 m2 m3 m4 ⊢
  refine z_putF (k := 4) (K_Rw HG) (by decide) (P_Rw_31 HG) rfl rfl rfl d_Rw_init_44 ((m2 q (by omega)).trans hfq) rfl rfl (Nat.le_of_ble_eq_true rfl) ?_
  show z_V G m_Rw_init (d + 2) 47 _ _ (z_set hm q (.inr (4, [.ref (q + 1), .int (nI 0), .ref (q + 2), .ref (q + 4), .ref (q + 6), .null, .null]))) _
  have hnq := z_set_at hm q (.inr (4, [.ref (q + 1), .int (nI 0), .ref (q + 2), .ref (q + 4), .ref (q + 6), .null, .null]))
  have hnk : ∀ y, y ≠ q → (z_set hm q (.inr (4, [.ref (q + 1), .int (nI 0), .ref (q + 2), .ref (q + 4), .ref (q + 6), .null, .null]))).2.2 y = hm.2.2 y := fun y hy => z_set_ne _ _ hy
  have hns : (z_set hm q (.inr (4, [.ref (q + 1), .int (nI 0), .ref (q + 2), .ref (q + 4), .ref (q + 6), .null, .null]))).1 = q + 7 ∧ (z_set hm q (.inr (4, [.ref (q + 1), .int (nI 0), .ref (q + 2), .ref (q + 4), .ref (q + 6), .null, .null]))).2.1 = hf.2.1 + 4 := ⟨m3, by show hm.2.1 = _; omega⟩
  generalize z_set hm q (.inr (4, [.ref (q + 1), .int (nI 0), .ref (q + 2), .ref (q + 4), .ref (q + 6), .null, .null])) = hn at hnq hnk hns ⊢
  refine z_aload_n d_Rw_init_47 rfl rfl ?_
  refine z_mkWk HG d_Rw_init_48 d_Rw_init_51 d_Rw_init_52 rfl (w_c_Rw_35 HG) (Y_Rw_37 HG) (Nat.le_of_ble_eq_true rfl) (by omega) (by omega) (fun ho1 ho11 ho12 ho1r ho1f => ?_)
  rw [hns.1] at ho11 ho1r ho1f ⊢
  refine z_putF (k := 5) (K_Rw HG) (by decide) (P_Rw_38 HG) rfl rfl rfl d_Rw_init_55 ((ho1f q (by omega) (by omega)).trans hnq) rfl rfl (Nat.le_of_ble_eq_true rfl) ?_
  show z_V G m_Rw_init (d + 2) 58 _ _ (z_set ho1 q (.inr (4, [.ref (q + 1), .int (nI 0), .ref (q + 2), .ref (q + 4), .ref (q + 6), .ref (q + 7), .null]))) _
  have hpq := z_set_at ho1 q (.inr (4, [.ref (q + 1), .int (nI 0), .ref (q + 2), .ref (q + 4), .ref (q + 6), .ref (q + 7), .null]))
  have hpk : ∀ y, y ≠ q → (z_set ho1 q (.inr (4, [.ref (q + 1), .int (nI 0), .ref (q + 2), .ref (q + 4), .ref (q + 6), .ref (q + 7), .null]))).2.2 y = ho1.2.2 y := fun y hy => z_set_ne _ _ hy
  have hps : (z_set ho1 q (.inr (4, [.ref (q + 1), .int (nI 0), .ref (q + 2), .ref (q + 4), .ref (q + 6), .ref (q + 7), .null]))).1 = q + 9 ∧ (z_set ho1 q (.inr (4, [.ref (q + 1), .int (nI 0), .ref (q + 2), .ref (q + 4), .ref (q + 6), .ref (q + 7), .null]))).2.1 = hf.2.1 + 47 := ⟨ho11, by show ho1.2.1 = _; omega⟩
  generalize z_set ho1 q (.inr (4, [.ref (q + 1), .int (nI 0), .ref (q + 2), .ref (q + 4), .ref (q + 6), .ref (q + 7), .null])) = hp at hpq hpk hps ⊢
  refine z_aload_n d_Rw_init_58 rfl rfl ?_
  refine z_mkWk HG d_Rw_init_59 d_Rw_init_62 d_Rw_init_63 rfl (w_c_Rw_35 HG) (Y_Rw_37 HG) (Nat.le_of_ble_eq_true rfl) (by omega) (by omega) (fun hq1 hq11 hq12 hq1r hq1f => ?_)
  rw [hps.1] at hq11 hq1r hq1f ⊢
  refine z_putF (k := 6) (K_Rw HG) (by decide) (P_Rw_42 HG) rfl rfl rfl d_Rw_init_66 ((hq1f q (by omega) (by omega)).trans hpq) rfl rfl (Nat.le_of_ble_eq_true rfl) ?_
  show z_V G m_Rw_init (d + 2) 69 _ _ (z_set hq1 q (.inr (4, [.ref (q + 1), .int (nI 0), .ref (q + 2), .ref (q + 4), .ref (q + 6), .ref (q + 7), .ref (q + 9)]))) _
  have hr1q := z_set_at hq1 q (.inr (4, [.ref (q + 1), .int (nI 0), .ref (q + 2), .ref (q + 4), .ref (q + 6), .ref (q + 7), .ref (q + 9)]))
  have hr1k : ∀ y, y ≠ q → (z_set hq1 q (.inr (4, [.ref (q + 1), .int (nI 0), .ref (q + 2), .ref (q + 4), .ref (q + 6), .ref (q + 7), .ref (q + 9)]))).2.2 y = hq1.2.2 y := fun y hy => z_set_ne _ _ hy
  have hr1s : (z_set hq1 q (.inr (4, [.ref (q + 1), .int (nI 0), .ref (q + 2), .ref (q + 4), .ref (q + 6), .ref (q + 7), .ref (q + 9)]))).1 = q + 11 ∧ (z_set hq1 q (.inr (4, [.ref (q + 1), .int (nI 0), .ref (q + 2), .ref (q + 4), .ref (q + 6), .ref (q + 7), .ref (q + 9)]))).2.1 = hf.2.1 + 90 := ⟨hq11, by show hq1.2.1 = _; omega⟩
  generalize z_set hq1 q (.inr (4, [.ref (q + 1), .int (nI 0), .ref (q + 2), .ref (q + 4), .ref (q + 6), .ref (q + 7), .ref (q + 9)])) = hr1 at hr1q hr1k hr1s ⊢
  refine z_iconst (v := nI 0) d_Rw_init_69 (by decide) ?_
  refine z_istore_n d_Rw_init_70 rfl (by decide) ?_
  refine z_fg [(0, .ref q), (1, .int (nI 0))] ⟨rfl, rfl, trivial⟩ ?_
  have c9 : ∀ y, y ≠ q → y < q + 9 ∨ q + 10 < y → hr1.2.2 y = hp.2.2 y := fun y y1 y2 => (hr1k y y1).trans (hq1f y (by omega) (by omega))
  have c7 : ∀ y, y ≠ q → y < q + 7 ∨ q + 10 < y → hr1.2.2 y = hn.2.2 y := fun y y1 y2 => (c9 y y1 (by omega)).trans ((hpk y y1).trans (ho1f y (by omega) (by omega)))
  have c6 : ∀ y, y ≠ q → y < q + 6 ∨ q + 10 < y → hr1.2.2 y = hf.2.2 y := fun y y1 y2 => (c7 y y1 (by omega)).trans ((hnk y y1).trans (m2 y (by omega)))
  refine l_rwinit HG 8 0 (fun _ => none) hr1 rfl (by omega) (by omega) (by omega) hr1q ((c6 (q + 1) (by omega) (by omega)).trans ha) (fun j hj => absurd hj (by omega)) (fun j hj => absurd hj (by omega)) (fun h' fr' z1 z2 z3 z4 z5 z6 => ?_)
  have z7 : ∀ y, y < q + 11 ∨ q + 50 < y → y ≠ q + 1 → h'.2.2 y = hr1.2.2 y := fun y y1 y2 => z6 y (by omega) y2
  refine kk h' fr' z1 (by omega) ((z7 q (by omega) (by omega)).trans hr1q) z3 z4 ((z7 _ (by omega) (by omega)).trans ((c7 _ (by omega) (by omega)).trans ((hnk _ (by omega)).trans m0))) ⟨⟨0, fun _ => nI 0, ?_, ?_⟩, 0, fun _ => nI 0, ?_, ?_⟩ z5 (fun y y1 y2 y3 => (z7 y (by omega) y2).trans (c6 y y1 (by omega)))
  · exact (z7 _ (by omega) (by omega)).trans ((c9 _ (by omega) (by omega)).trans ((hpk _ (by omega)).trans ho1r.1))
  · exact (z7 _ (by omega) (by omega)).trans ((c9 _ (by omega) (by omega)).trans ((hpk _ (by omega)).trans ho1r.2))
  · exact (z7 _ (by omega) (by omega)).trans ((hr1k _ (by omega)).trans hq1r.1)
  · exact (z7 _ (by omega) (by omega)).trans ((hr1k _ (by omega)).trans hq1r.2)
theorem c_Rw_init (HG : z_ok G) (hr : h.2.2 q = some k_rw0) (h1 : h.1 = q + 1) (hc : h.1 + 50 ≤ G.b0 + G.cc) (hs : h.2.1 + 878 ≤ G.ss) :
    z_C G m_Rw_init (d + 2) [.ref q] h (z_pq none (fun h' => h'.1 = q + 51 ∧ h'.2.1 = h.2.1 + 878 ∧ RwN G h' q [] [] ∧ ruAll G h' q ∧ ∀ y, y < q ∨ q + 50 < y → h'.2.2 y = h.2.2 y)) := by
  refine z_C.of (Nat.le_of_ble_eq_true rfl) ?_
  refine z_aload_n d_Rw_init_0 rfl rfl ?_
  refine z_oinit d_Rw_init_1 (w_o_Rw HG) (w_oi1 HG) (w_oi2 HG) (Nat.le_of_ble_eq_true rfl) ?_
  refine z_aload_n d_Rw_init_4 rfl rfl ?_
  refine z_bipush (v := nI 8) d_Rw_init_5 (by decide +kernel) ?_
  refine z_anew (N' := 8) d_Rw_init_7 (w_c_Rw_9 HG) (w_ov_Ru HG) (ty5 HG) (nI_pos (by decide)) (nI_clamp (by decide)) (by decide) (by omega) (by omega) ?_
  rw [h1]
  have a0 : (z_new h 8 (k_rls G (fun _ => none))).2.2 (q + 1) = some (k_rls G (fun _ => none)) := by
    show va_up h.2.2 h.1 _ (q + 1) = _
    rw [h1]
    exact va_up_self _ _ _
  have a2 : ∀ y, y ≠ q + 1 → (z_new h 8 (k_rls G (fun _ => none))).2.2 y = h.2.2 y := fun y hy => va_up_ne _ _ (by omega)
  have a3 : (z_new h 8 (k_rls G (fun _ => none))).1 = q + 2 := by
    show h.1 + 1 = _
    omega
  have a4 : (z_new h 8 (k_rls G (fun _ => none))).2.1 = h.2.1 + 8 := rfl
  show z_V G m_Rw_init (d + 2) 10 _ _ (z_new h 8 (k_rls G (fun _ => none))) _
  generalize z_new h 8 (k_rls G (fun _ => none)) = ha at a0 a2 a3 a4 ⊢
  refine z_putF (k := 0) (K_Rw HG) (by decide) (P_Rw_11 HG) rfl rfl rfl d_Rw_init_10 ((a2 q (by omega)).trans hr) rfl rfl (Nat.le_of_ble_eq_true rfl) ?_
  refine z_aload_n d_Rw_init_13 rfl rfl ?_
  refine z_iconst (v := nI 0) d_Rw_init_14 (by decide) ?_
  refine z_putf (L_Rw_17K HG) (by decide) (L_Rw_17 HG) rfl d_Rw_init_15 (z_set_at ..) rfl rfl (Nat.le_of_ble_eq_true rfl) ?_
  rw [z_set_set]
  show z_V G m_Rw_init (d + 2) 18 _ _ (z_set ha q (.inr (4, [.ref (q + 1), .int (nI 0), .null, .null, .null, .null, .null]))) _
  have hbq := z_set_at ha q (.inr (4, [.ref (q + 1), .int (nI 0), .null, .null, .null, .null, .null]))
  have hbk : ∀ y, y ≠ q → (z_set ha q (.inr (4, [.ref (q + 1), .int (nI 0), .null, .null, .null, .null, .null]))).2.2 y = ha.2.2 y := fun y hy => z_set_ne _ _ hy
  have hbs : (z_set ha q (.inr (4, [.ref (q + 1), .int (nI 0), .null, .null, .null, .null, .null]))).1 = q + 2 ∧ (z_set ha q (.inr (4, [.ref (q + 1), .int (nI 0), .null, .null, .null, .null, .null]))).2.1 = h.2.1 + 8 := ⟨a3, a4⟩
  generalize z_set ha q (.inr (4, [.ref (q + 1), .int (nI 0), .null, .null, .null, .null, .null])) = hb at hbq hbk hbs ⊢
  refine z_aload_n d_Rw_init_18 rfl rfl ?_
  refine z_mkRow HG d_Rw_init_19 d_Rw_init_22 d_Rw_init_23 rfl (w_c_Rw_21 HG) (Y_Rw_23 HG) (Nat.le_of_ble_eq_true rfl) (by omega) (by omega) (fun hc1 hc11 hc12 hc1r hc1f => ?_)
  rw [hbs.1] at hc11 hc1r hc1f ⊢
  refine z_putf (L_Rw_24K HG) (by decide) (L_Rw_24 HG) rfl d_Rw_init_26 ((hc1f q (by omega) (by omega)).trans hbq) rfl rfl (Nat.le_of_ble_eq_true rfl) ?_
  show z_V G m_Rw_init (d + 2) 29 _ _ (z_set hc1 q (.inr (4, [.ref (q + 1), .int (nI 0), .ref (q + 2), .null, .null, .null, .null]))) _
  have hdq := z_set_at hc1 q (.inr (4, [.ref (q + 1), .int (nI 0), .ref (q + 2), .null, .null, .null, .null]))
  have hdk : ∀ y, y ≠ q → (z_set hc1 q (.inr (4, [.ref (q + 1), .int (nI 0), .ref (q + 2), .null, .null, .null, .null]))).2.2 y = hc1.2.2 y := fun y hy => z_set_ne _ _ hy
  have hds : (z_set hc1 q (.inr (4, [.ref (q + 1), .int (nI 0), .ref (q + 2), .null, .null, .null, .null]))).1 = q + 4 ∧ (z_set hc1 q (.inr (4, [.ref (q + 1), .int (nI 0), .ref (q + 2), .null, .null, .null, .null]))).2.1 = h.2.1 + 50 := ⟨hc11, by show hc1.2.1 = _; omega⟩
  generalize z_set hc1 q (.inr (4, [.ref (q + 1), .int (nI 0), .ref (q + 2), .null, .null, .null, .null])) = hd at hdq hdk hds ⊢
  refine z_aload_n d_Rw_init_29 rfl rfl ?_
  refine z_mkRow HG d_Rw_init_30 d_Rw_init_33 d_Rw_init_34 rfl (w_c_Rw_21 HG) (Y_Rw_23 HG) (Nat.le_of_ble_eq_true rfl) (by omega) (by omega) (fun he1 he11 he12 he1r he1f => ?_)
  rw [hds.1] at he11 he1r he1f ⊢
  refine z_putf (L_Rw_28K HG) (by decide) (L_Rw_28 HG) rfl d_Rw_init_37 ((he1f q (by omega) (by omega)).trans hdq) rfl rfl (Nat.le_of_ble_eq_true rfl) ?_
  show z_V G m_Rw_init (d + 2) 40 _ _ (z_set he1 q (.inr (4, [.ref (q + 1), .int (nI 0), .ref (q + 2), .ref (q + 4), .null, .null, .null]))) _
  have hfq := z_set_at he1 q (.inr (4, [.ref (q + 1), .int (nI 0), .ref (q + 2), .ref (q + 4), .null, .null, .null]))
  have hfk : ∀ y, y ≠ q → (z_set he1 q (.inr (4, [.ref (q + 1), .int (nI 0), .ref (q + 2), .ref (q + 4), .null, .null, .null]))).2.2 y = he1.2.2 y := fun y hy => z_set_ne _ _ hy
  have hfs : (z_set he1 q (.inr (4, [.ref (q + 1), .int (nI 0), .ref (q + 2), .ref (q + 4), .null, .null, .null]))).1 = q + 6 ∧ (z_set he1 q (.inr (4, [.ref (q + 1), .int (nI 0), .ref (q + 2), .ref (q + 4), .null, .null, .null]))).2.1 = h.2.1 + 92 := ⟨he11, by show he1.2.1 = _; omega⟩
  generalize z_set he1 q (.inr (4, [.ref (q + 1), .int (nI 0), .ref (q + 2), .ref (q + 4), .null, .null, .null])) = hf at hfq hfk hfs ⊢
  have c4 : ∀ y, y ≠ q → y < q + 4 ∨ q + 5 < y → hf.2.2 y = hd.2.2 y := fun y y1 y2 => (hfk y y1).trans (he1f y (by omega) (by omega))
  have c2 : ∀ y, y ≠ q → y < q + 2 ∨ q + 5 < y → hf.2.2 y = hb.2.2 y := fun y y1 y2 => (c4 y y1 (by omega)).trans ((hdk y y1).trans (hc1f y (by omega) (by omega)))
  refine l_rwinit2 HG hfq hfs.1 (by omega) (by omega) ((c2 (q + 1) (by omega) (by omega)).trans ((hbk _ (by omega)).trans a0)) (fun h' fr' z1 z2 z3 z4 z5 z6 z7 z8 z9 => ?_)
  refine ⟨rfl, z1, by omega, ⟨q + 2, q + 4, 0, fun _ => nI 0, fun _ => nI 0, fun _ => 0, fr', Or.inl ⟨rfl, rfl⟩, z3, z4, z5, z6, z7, ⟨?_, ?_⟩, ⟨by simp, fun i hi => absurd hi (by simp)⟩, ⟨?_, ?_⟩, by simp, fun k R hk => absurd hk (by simp)⟩, fun j hj => ?_, fun y hy => (z9 y (by omega) (by omega) (by omega)).trans ((c2 y (by omega) (by omega)).trans ((hbk y (by omega)).trans (a2 y (by omega))))⟩
  · exact (z9 _ (by omega) (by omega) (by omega)).trans ((c4 _ (by omega) (by omega)).trans ((hdk _ (by omega)).trans hc1r.1))
  · exact (z9 _ (by omega) (by omega) (by omega)).trans ((c4 _ (by omega) (by omega)).trans ((hdk _ (by omega)).trans hc1r.2))
  · exact (z9 _ (by omega) (by omega) (by omega)).trans ((hfk _ (by omega)).trans he1r.1)
  · exact (z9 _ (by omega) (by omega) (by omega)).trans ((hfk _ (by omega)).trans he1r.2)
  · obtain ⟨u1, ⟨f1, u2⟩, f2, u3⟩ := z8 j hj
    exact ⟨0, 0, 0, f1, f2, u1, u2, u3⟩
end RN
