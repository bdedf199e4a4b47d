/-! new things in one go -/
section NW
variable {G : z_G} {mt : z_M} {d pc : Nat} {lo : List (Nat × Value)} {st : List Value} {h : z_H} {Q : z_R → z_H → Prop}
theorem z_nwa (HG : z_ok G) {N : Nat} (hd : decode mt.2.1 pc = .ok (.newarray .int, 2)) (hN : N < 2000) (hc : h.1 + 1 ≤ G.b0 + G.cc) (hs : h.2.1 + N ≤ G.ss) (kk : ∀ h', h'.1 = h.1 + 1 → h'.2.1 = h.2.1 + N → h'.2.2 h.1 = some (.inl (G.ca 0, N, .inl (fun _ => nI 0))) → (∀ y, y ≠ h.1 → h'.2.2 y = h.2.2 y) → z_V G mt d (pc + 2) lo (.ref h.1 :: st) h' Q) : z_V G mt d pc lo (.int (nI N) :: st) h Q :=
  z_newa (ty := .int) (a0 := (N, .inl (fun _ => nI 0))) hd rfl (w_a_int HG) (ty0 HG) (fun _ _ h => h) (fun x => rfl) (nI_pos (by omega)) (nI_clamp (by omega)) (by show N * 4 ≤ 536870912; omega) hc hs (kk _ rfl rfl (va_up_self _ _ _) (fun y hy => va_up_ne _ _ hy))
theorem z_nwz (HG : z_ok G) {N : Nat} (hd : decode mt.2.1 pc = .ok (.newarray .boolean, 2)) (hN : N < 2000) (hc : h.1 + 1 ≤ G.b0 + G.cc) (hs : h.2.1 + N ≤ G.ss) (kk : ∀ h', h'.1 = h.1 + 1 → h'.2.1 = h.2.1 + N → h'.2.2 h.1 = some (.inl (G.ca 2, N, .inl (fun _ => nI 0))) → (∀ y, y ≠ h.1 → h'.2.2 y = h.2.2 y) → z_V G mt d (pc + 2) lo (.ref h.1 :: st) h' Q) : z_V G mt d pc lo (.int (nI N) :: st) h Q :=
  z_newa (ty := .boolean) (a0 := (N, .inl (fun _ => nI 0))) hd rfl (w_a_boolean HG) (ty2 HG) (fun _ _ h => h) (fun x => rfl) (nI_pos (by omega)) (nI_clamp (by omega)) (by show N * 1 ≤ 536870912; omega) hc hs (kk _ rfl rfl (va_up_self _ _ _) (fun y hy => va_up_ne _ _ hy))
theorem z_nwl (HG : z_ok G) {N : Nat} (hd : decode mt.2.1 pc = .ok (.newarray .long, 2)) (hN : N < 2000) (hc : h.1 + 1 ≤ G.b0 + G.cc) (hs : h.2.1 + N ≤ G.ss) (kk : ∀ h', h'.1 = h.1 + 1 → h'.2.1 = h.2.1 + N → h'.2.2 h.1 = some (.inl (G.ca 1, N, .inr (.inl (fun _ => 0)))) → (∀ y, y ≠ h.1 → h'.2.2 y = h.2.2 y) → z_V G mt d (pc + 2) lo (.ref h.1 :: st) h' Q) : z_V G mt d pc lo (.int (nI N) :: st) h Q :=
  z_newa (ty := .long) (a0 := (N, .inr (.inl (fun _ => 0)))) hd rfl (w_a_long HG) (ty1 HG) (fun _ _ h => h) (fun x => rfl) (nI_pos (by omega)) (nI_clamp (by omega)) (by show N * 8 ≤ 536870912; omega) hc hs (kk _ rfl rfl (va_up_self _ _ _) (fun y hy => va_up_ne _ _ hy))
theorem z_nwo {t0 N idx : Nat} {C : String} (hd : decode mt.2.1 pc = .ok (.anewarray idx, 3)) (w1 : Cond.classLink mt.1.cls idx C ∈ G.Ts) (w2 : Cond.arrayOver (.object C) ∈ G.Ts) (ht : G.tys[t0]? = some (G.ca t0, .object C)) (hN : N < 2000) (hc : h.1 + 1 ≤ G.b0 + G.cc) (hs : h.2.1 + N ≤ G.ss) (kk : ∀ h', h'.1 = h.1 + 1 → h'.2.1 = h.2.1 + N → h'.2.2 h.1 = some (k_arr (G.ca t0) N (fun _ => none)) → (∀ y, y ≠ h.1 → h'.2.2 y = h.2.2 y) → z_V G mt d (pc + 3) lo (.ref h.1 :: st) h' Q) : z_V G mt d pc lo (.int (nI N) :: st) h Q :=
  z_anew hd w1 w2 ht (nI_pos (by omega)) (nI_clamp (by omega)) (by omega) hc hs (kk _ rfl rfl (va_up_self _ _ _) (fun y hy => va_up_ne _ _ hy))
theorem z_pF {ci N k idx a : Nat} {C : String} {T : u_T} {ty : Nat → FieldType} {fs : List Value} {v : Value} (K : z_cls G ci C T N ty) (hk : k < N) (L : Cond.fieldLink mt.1.cls idx (T k).1 (T k).2.1 (T k).2.2.1 ∈ G.Ts) (hfin : (T k).2.2.2 = true) (hi : mt.1.name = "<init>") (ho : (T k).1 = mt.1.cls) (hd : decode mt.2.1 pc = .ok (.putfield idx, 3)) (he : h.2.2 a = some (.inr (ci, fs))) (hn : narrow (ty k) v = v) (hf : fits (ty k) v = true) (hl : k < fs.length)
    (kk : ∀ h', h'.1 = h.1 → h'.2.1 = h.2.1 → h'.2.2 a = some (.inr (ci, fs.set k v)) → (∀ y, y ≠ a → h'.2.2 y = h.2.2 y) → z_V G mt d (pc + 3) lo st h' Q) : z_V G mt d pc lo (v :: .ref a :: st) h Q :=
  z_putF K hk L hfin hi ho hd he hn hf hl (kk _ rfl rfl (z_set_at ..) (fun y hy => z_set_ne _ _ hy))
theorem z_pf {ci N k idx a : Nat} {C : String} {T : u_T} {ty : Nat → FieldType} {fs : List Value} {v : Value} (K : z_cls G ci C T N ty) (hk : k < N) (L : z_lnk G mt.1.cls idx T k) (hfin : (T k).2.2.2 = false) (hd : decode mt.2.1 pc = .ok (.putfield idx, 3)) (he : h.2.2 a = some (.inr (ci, fs))) (hn : narrow (ty k) v = v) (hf : fits (ty k) v = true) (hl : k < fs.length)
    (kk : ∀ h', h'.1 = h.1 → h'.2.1 = h.2.1 → h'.2.2 a = some (.inr (ci, fs.set k v)) → (∀ y, y ≠ a → h'.2.2 y = h.2.2 y) → z_V G mt d (pc + 3) lo st h' Q) : z_V G mt d pc lo (v :: .ref a :: st) h Q :=
  z_putf K hk L hfin hd he hn hf hl (kk _ rfl rfl (z_set_at ..) (fun y hy => z_set_ne _ _ hy))
end NW
theorem ruAll.kept {G : z_G} {h h' : z_H} {q : Nat} (H : ruAll G h q) (k : ∀ y, q ≤ y ∧ y ≤ q + 50 → h'.2.2 y = h.2.2 y) : ruAll G h' q := by
  intro j hj
  obtain ⟨nv, nl, nr, fl, fr, u1, u2, u3⟩ := H j hj
  have e : k_rq q j = q + 11 + 5 * j := rfl
  exact ⟨nv, nl, nr, fl, fr, (k _ (by omega)).trans u1, ⟨(k _ (by omega)).trans u2.1, (k _ (by omega)).trans u2.2⟩, (k _ (by omega)).trans u3.1, (k _ (by omega)).trans u3.2⟩
/-! TypeKernel's constructor -/
section TN
variable {G : z_G} {d o : Nat} {h : z_H}
def k_tk0 : va_E := .inr (5, [.null, .int 0, .null, .int 0, .null, .null, .int 0, .null, .null, .null, .null, .null])
theorem l_tkA (HG : z_ok G) {Q : z_R → z_H → Prop} (ho : h.2.2 o = some k_tk0) (h1 : h.1 = o + 1) (hc : h.1 + 4 ≤ G.b0 + G.cc) (hs : h.2.1 + 26 ≤ G.ss) (kk : ∀ h', h'.1 = o + 5 → h'.2.1 = h.2.1 + 26 → h'.2.2 o = some (.inr (5, [.ref (o + 1), .int (nI 0), .ref (o + 2), .int (nI 0), .ref (o + 3), .ref (o + 4), .int (nI 0), .null, .null, .null, .null, .null])) → h'.2.2 (o + 1) = some (k_arr (G.ca 4) 6 (fun _ => none)) → h'.2.2 (o + 2) = some (k_arr (G.ca 3) 4 (fun _ => none)) → h'.2.2 (o + 3) = some (k_arr (G.ca 3) 8 (fun _ => none)) → h'.2.2 (o + 4) = some (.inl (G.ca 2, 8, .inl (fun _ => nI 0))) → (∀ y, y < o ∨ o + 4 < y → h'.2.2 y = h.2.2 y) → z_V G m_TK_init d 53 [(0, .ref o)] [] h' Q) : z_V G m_TK_init d 4 [(0, .ref o)] [] h Q := by
  refine z_aload_n d_TK_init_4 rfl rfl ?_
  refine z_bipush (v := nI 6) d_TK_init_5 (by decide +kernel) ?_
  refine z_nwo (t0 := 4) (N := 6) d_TK_init_7 (w_c_TK_9 HG) (w_ov_Jd HG) (ty4 HG) (by omega) (by omega) (by omega) (fun ha1 a1 a2 a3 a4 => ?_)
  rw [h1] at a1 a3 a4 ⊢
  refine z_pF (k := 0) (K_TK HG) (by decide) (P_TK_11 HG) rfl rfl rfl d_TK_init_10 ((a4 o (by omega)).trans ho) rfl rfl (Nat.le_of_ble_eq_true rfl) (fun hb1 b1 b2 b3 b4 => ?_)
  have S1_1 : hb1.1 = o + 2 := b1.trans a1
  have S2_1 : hb1.2.1 = h.2.1 + 6 := by omega
  have O_1 : hb1.2.2 o = some (.inr (5, [.ref (o + 1), .int 0, .null, .int 0, .null, .null, .int 0, .null, .null, .null, .null, .null])) := b3
  have C_1_1 : hb1.2.2 (o + 1) = some (k_arr (G.ca 4) 6 (fun _ => none)) := (b4 _ (by omega)).trans a3
  have F_1 : ∀ y, y < o ∨ o + 1 < y → hb1.2.2 y = h.2.2 y := fun y hy => (b4 _ (by omega)).trans (a4 _ (by omega))
  clear a1 a2 a3 a4 b1 b2 b3 b4
  refine z_aload_n d_TK_init_13 rfl rfl ?_
  refine z_iconst (v := nI 0) d_TK_init_14 (by decide) ?_
  refine z_pf (k := 1) (L_TK_15K HG) (by decide) (L_TK_15 HG) rfl d_TK_init_15 O_1 rfl rfl (Nat.le_of_ble_eq_true rfl) (fun hb2 b1 b2 b3 b4 => ?_)
  have S1_2 : hb2.1 = o + 2 := b1.trans S1_1
  have S2_2 : hb2.2.1 = h.2.1 + 6 := by omega
  have O_2 : hb2.2.2 o = some (.inr (5, [.ref (o + 1), .int (nI 0), .null, .int 0, .null, .null, .int 0, .null, .null, .null, .null, .null])) := b3
  have C_2_1 : hb2.2.2 (o + 1) = some (k_arr (G.ca 4) 6 (fun _ => none)) := (b4 _ (by omega)).trans C_1_1
  have F_2 : ∀ y, y < o ∨ o + 1 < y → hb2.2.2 y = h.2.2 y := fun y hy => (b4 _ (by omega)).trans (F_1 y (by omega))
  clear b1 b2 b3 b4
  refine z_aload_n d_TK_init_18 rfl rfl ?_
  refine z_iconst (v := nI 4) d_TK_init_19 (by decide) ?_
  refine z_nwo (t0 := 3) (N := 4) d_TK_init_20 (w_c_TK_19 HG) (w_ov_Row HG) (ty3 HG) (by omega) (by omega) (by omega) (fun ha3 a1 a2 a3 a4 => ?_)
  rw [S1_2] at a1 a3 a4 ⊢
  refine z_pF (k := 2) (K_TK HG) (by decide) (P_TK_21 HG) rfl rfl rfl d_TK_init_23 ((a4 o (by omega)).trans O_2) rfl rfl (Nat.le_of_ble_eq_true rfl) (fun hb3 b1 b2 b3 b4 => ?_)
  have S1_3 : hb3.1 = o + 3 := b1.trans a1
  have S2_3 : hb3.2.1 = h.2.1 + 10 := by omega
  have O_3 : hb3.2.2 o = some (.inr (5, [.ref (o + 1), .int (nI 0), .ref (o + 2), .int 0, .null, .null, .int 0, .null, .null, .null, .null, .null])) := b3
  have C_3_1 : hb3.2.2 (o + 1) = some (k_arr (G.ca 4) 6 (fun _ => none)) := (b4 _ (by omega)).trans ((a4 _ (by omega)).trans C_2_1)
  have C_3_2 : hb3.2.2 (o + 2) = some (k_arr (G.ca 3) 4 (fun _ => none)) := (b4 _ (by omega)).trans a3
  have F_3 : ∀ y, y < o ∨ o + 2 < y → hb3.2.2 y = h.2.2 y := fun y hy => (b4 _ (by omega)).trans ((a4 _ (by omega)).trans (F_2 y (by omega)))
  clear a1 a2 a3 a4 b1 b2 b3 b4
  refine z_aload_n d_TK_init_26 rfl rfl ?_
  refine z_iconst (v := nI 0) d_TK_init_27 (by decide) ?_
  refine z_pf (k := 3) (L_TK_25K HG) (by decide) (L_TK_25 HG) rfl d_TK_init_28 O_3 rfl rfl (Nat.le_of_ble_eq_true rfl) (fun hb4 b1 b2 b3 b4 => ?_)
  have S1_4 : hb4.1 = o + 3 := b1.trans S1_3
  have S2_4 : hb4.2.1 = h.2.1 + 10 := by omega
  have O_4 : hb4.2.2 o = some (.inr (5, [.ref (o + 1), .int (nI 0), .ref (o + 2), .int (nI 0), .null, .null, .int 0, .null, .null, .null, .null, .null])) := b3
  have C_4_1 : hb4.2.2 (o + 1) = some (k_arr (G.ca 4) 6 (fun _ => none)) := (b4 _ (by omega)).trans C_3_1
  have C_4_2 : hb4.2.2 (o + 2) = some (k_arr (G.ca 3) 4 (fun _ => none)) := (b4 _ (by omega)).trans C_3_2
  have F_4 : ∀ y, y < o ∨ o + 2 < y → hb4.2.2 y = h.2.2 y := fun y hy => (b4 _ (by omega)).trans (F_3 y (by omega))
  clear b1 b2 b3 b4
  refine z_aload_n d_TK_init_31 rfl rfl ?_
  refine z_bipush (v := nI 8) d_TK_init_32 (by decide +kernel) ?_
  refine z_nwo (t0 := 3) (N := 8) d_TK_init_34 (w_c_TK_19 HG) (w_ov_Row HG) (ty3 HG) (by omega) (by omega) (by omega) (fun ha5 a1 a2 a3 a4 => ?_)
  rw [S1_4] at a1 a3 a4 ⊢
  refine z_pF (k := 4) (K_TK HG) (by decide) (P_TK_28 HG) rfl rfl rfl d_TK_init_37 ((a4 o (by omega)).trans O_4) rfl rfl (Nat.le_of_ble_eq_true rfl) (fun hb5 b1 b2 b3 b4 => ?_)
  have S1_5 : hb5.1 = o + 4 := b1.trans a1
  have S2_5 : hb5.2.1 = h.2.1 + 18 := by omega
  have O_5 : hb5.2.2 o = some (.inr (5, [.ref (o + 1), .int (nI 0), .ref (o + 2), .int (nI 0), .ref (o + 3), .null, .int 0, .null, .null, .null, .null, .null])) := b3
  have C_5_1 : hb5.2.2 (o + 1) = some (k_arr (G.ca 4) 6 (fun _ => none)) := (b4 _ (by omega)).trans ((a4 _ (by omega)).trans C_4_1)
  have C_5_2 : hb5.2.2 (o + 2) = some (k_arr (G.ca 3) 4 (fun _ => none)) := (b4 _ (by omega)).trans ((a4 _ (by omega)).trans C_4_2)
  have C_5_3 : hb5.2.2 (o + 3) = some (k_arr (G.ca 3) 8 (fun _ => none)) := (b4 _ (by omega)).trans a3
  have F_5 : ∀ y, y < o ∨ o + 3 < y → hb5.2.2 y = h.2.2 y := fun y hy => (b4 _ (by omega)).trans ((a4 _ (by omega)).trans (F_4 y (by omega)))
  clear a1 a2 a3 a4 b1 b2 b3 b4
  refine z_aload_n d_TK_init_40 rfl rfl ?_
  refine z_bipush (v := nI 8) d_TK_init_41 (by decide +kernel) ?_
  refine z_nwz (N := 8) HG d_TK_init_43 (by omega) (by omega) (by omega) (fun ha6 a1 a2 a3 a4 => ?_)
  rw [S1_5] at a1 a3 a4 ⊢
  refine z_pF (k := 5) (K_TK HG) (by decide) (P_TK_31 HG) rfl rfl rfl d_TK_init_45 ((a4 o (by omega)).trans O_5) rfl rfl (Nat.le_of_ble_eq_true rfl) (fun hb6 b1 b2 b3 b4 => ?_)
  have S1_6 : hb6.1 = o + 5 := b1.trans a1
  have S2_6 : hb6.2.1 = h.2.1 + 26 := by omega
  have O_6 : hb6.2.2 o = some (.inr (5, [.ref (o + 1), .int (nI 0), .ref (o + 2), .int (nI 0), .ref (o + 3), .ref (o + 4), .int 0, .null, .null, .null, .null, .null])) := b3
  have C_6_1 : hb6.2.2 (o + 1) = some (k_arr (G.ca 4) 6 (fun _ => none)) := (b4 _ (by omega)).trans ((a4 _ (by omega)).trans C_5_1)
  have C_6_2 : hb6.2.2 (o + 2) = some (k_arr (G.ca 3) 4 (fun _ => none)) := (b4 _ (by omega)).trans ((a4 _ (by omega)).trans C_5_2)
  have C_6_3 : hb6.2.2 (o + 3) = some (k_arr (G.ca 3) 8 (fun _ => none)) := (b4 _ (by omega)).trans ((a4 _ (by omega)).trans C_5_3)
  have C_6_4 : hb6.2.2 (o + 4) = some (.inl (G.ca 2, 8, .inl (fun _ => nI 0))) := (b4 _ (by omega)).trans a3
  have F_6 : ∀ y, y < o ∨ o + 4 < y → hb6.2.2 y = h.2.2 y := fun y hy => (b4 _ (by omega)).trans ((a4 _ (by omega)).trans (F_5 y (by omega)))
  clear a1 a2 a3 a4 b1 b2 b3 b4
  refine z_aload_n d_TK_init_48 rfl rfl ?_
  refine z_iconst (v := nI 0) d_TK_init_49 (by decide) ?_
  refine z_pf (k := 6) (L_TK_35K HG) (by decide) (L_TK_35 HG) rfl d_TK_init_50 O_6 rfl rfl (Nat.le_of_ble_eq_true rfl) (fun hb7 b1 b2 b3 b4 => ?_)
  have S1_7 : hb7.1 = o + 5 := b1.trans S1_6
  have S2_7 : hb7.2.1 = h.2.1 + 26 := by omega
  have O_7 : hb7.2.2 o = some (.inr (5, [.ref (o + 1), .int (nI 0), .ref (o + 2), .int (nI 0), .ref (o + 3), .ref (o + 4), .int (nI 0), .null, .null, .null, .null, .null])) := b3
  have C_7_1 : hb7.2.2 (o + 1) = some (k_arr (G.ca 4) 6 (fun _ => none)) := (b4 _ (by omega)).trans C_6_1
  have C_7_2 : hb7.2.2 (o + 2) = some (k_arr (G.ca 3) 4 (fun _ => none)) := (b4 _ (by omega)).trans C_6_2
  have C_7_3 : hb7.2.2 (o + 3) = some (k_arr (G.ca 3) 8 (fun _ => none)) := (b4 _ (by omega)).trans C_6_3
  have C_7_4 : hb7.2.2 (o + 4) = some (.inl (G.ca 2, 8, .inl (fun _ => nI 0))) := (b4 _ (by omega)).trans C_6_4
  have F_7 : ∀ y, y < o ∨ o + 4 < y → hb7.2.2 y = h.2.2 y := fun y hy => (b4 _ (by omega)).trans (F_6 y (by omega))
  clear b1 b2 b3 b4
  exact kk hb7 S1_7 S2_7 O_7 C_7_1 C_7_2 C_7_3 C_7_4 F_7
theorem l_tkB (HG : z_ok G) {Q : z_R → z_H → Prop} (ho : h.2.2 o = some (.inr (5, [.ref (o + 1), .int (nI 0), .ref (o + 2), .int (nI 0), .ref (o + 3), .ref (o + 4), .int (nI 0), .null, .null, .null, .null, .null]))) (h1 : h.1 = o + 5) (hc : h.1 + 59 ≤ G.b0 + G.cc) (hs : h.2.1 + 1053 ≤ G.ss) (kk : ∀ h', h'.1 = o + 64 → h'.2.1 = h.2.1 + 1053 → h'.2.2 o = some (.inr (5, [.ref (o + 1), .int (nI 0), .ref (o + 2), .int (nI 0), .ref (o + 3), .ref (o + 4), .int (nI 0), .ref (o + 5), .ref (o + 56), .ref (o + 58), .ref (o + 60), .ref (o + 62)])) → RwN G h' (o + 5) [] [] → ruAll G h' (o + 5) → (∀ r, scR r → ∃ g, rowAt G h' (o + r) 0 g) → (∀ y, y ≠ o → y < o + 5 ∨ o + 63 < y → h'.2.2 y = h.2.2 y) → z_V G m_TK_init (d + 3) 108 [(0, .ref o)] [] h' Q) : z_V G m_TK_init (d + 3) 53 [(0, .ref o)] [] h Q := by
  refine z_aload_n d_TK_init_53 rfl rfl ?_
  refine z_newo (fs := [.null, .int 0, .null, .null, .null, .null, .null]) (K_Rw HG) d_TK_init_54 (w_c_TK_38 HG) (w_i_Rw HG) (w_n_Rw HG) (by decide) (by omega) (by omega) ?_
  have g0 : (z_new h 7 k_rw0).2.2 (o + 5) = some k_rw0 := by
    show va_up h.2.2 h.1 _ (o + 5) = _
    rw [h1]
    exact va_up_self _ _ _
  have g2 : ∀ y, y ≠ o + 5 → (z_new h 7 k_rw0).2.2 y = h.2.2 y := fun y hy => va_up_ne _ _ (by omega)
  have g3 : (z_new h 7 k_rw0).1 = o + 6 := by
    show h.1 + 1 = _
    omega
  have g4 : (z_new h 7 k_rw0).2.1 = h.2.1 + 7 := rfl
  rw [h1]
  show z_V G m_TK_init (d + 3) 57 _ _ (z_new h 7 k_rw0) _
  generalize z_new h 7 k_rw0 = hA at g0 g2 g3 g4 ⊢
  refine z_dup d_TK_init_57 rfl ?_
  refine z_callI (dY := d + 2) d_TK_init_58 rfl (by omega) (Y_TK_40 HG) (Nat.le_of_ble_eq_true rfl) (c_Rw_init HG g0 g3 (by omega) (by omega)) (fun v hB qq => ?_) (fun X hB qq => by obtain ⟨q1, -⟩ := qq; cases q1)
  obtain ⟨q1, b1, b2, b3, b4, b5⟩ := qq
  cases q1
  refine z_pF (k := 7) (K_TK HG) (by decide) (P_TK_41 HG) rfl rfl rfl d_TK_init_61 ((b5 o (by omega)).trans ((g2 o (by omega)).trans ho)) rfl rfl (Nat.le_of_ble_eq_true rfl) (fun h0 c1 c2 c3 c4 => ?_)
  have S1_0 : h0.1 = o + 56 := c1.trans b1
  have S2_0 : h0.2.1 = h.2.1 + 885 := by omega
  have R_0 : RwN G h0 (o + 5) [] [] := b3.keep (fun y hy => c4 y (by omega))
  have U_0 : ruAll G h0 (o + 5) := b4.kept (fun y hy => c4 y (by omega))
  have F_0 : ∀ y, y ≠ o → y < o + 5 ∨ o + 55 < y → h0.2.2 y = h.2.2 y := fun y y1 y2 => (c4 y y1).trans ((b5 y (by omega)).trans (g2 y (by omega)))
  have O_0 : h0.2.2 o = some (.inr (5, [.ref (o + 1), .int (nI 0), .ref (o + 2), .int (nI 0), .ref (o + 3), .ref (o + 4), .int (nI 0), .ref (o + 5), .null, .null, .null, .null])) := c3
  clear b1 b2 b3 b4 b5 c1 c2 c3 c4 g0 g2 g3 g4
  refine z_aload_n d_TK_init_64 rfl rfl ?_
  refine z_mkRow HG d_TK_init_65 d_TK_init_68 d_TK_init_69 rfl (w_c_TK_19 HG) (Y_TK_45 HG) (Nat.le_of_ble_eq_true rfl) (by omega) (by omega) (fun hr1 b1 b2 b3 b4 => ?_)
  rw [S1_0] at b1 b3 b4 ⊢
  refine z_pF (k := 8) (K_TK HG) (by decide) (P_TK_46 HG) rfl rfl rfl d_TK_init_72 ((b4 o (by omega) (by omega)).trans O_0) rfl rfl (Nat.le_of_ble_eq_true rfl) (fun h1 c1 c2 c3 c4 => ?_)
  have O_1 : h1.2.2 o = some (.inr (5, [.ref (o + 1), .int (nI 0), .ref (o + 2), .int (nI 0), .ref (o + 3), .ref (o + 4), .int (nI 0), .ref (o + 5), .ref (o + 56), .null, .null, .null])) := c3
  have S1_1 : h1.1 = o + 58 := c1.trans b1
  have S2_1 : h1.2.1 = h.2.1 + 927 := by omega
  have k1 : ∀ y, y ≠ o → y < o + 56 ∨ o + 57 < y → h1.2.2 y = h0.2.2 y := fun y y1 y2 => (c4 y y1).trans (b4 y (by omega) (by omega))
  have R_1 := R_0.keep (h' := h1) (fun y hy => k1 y (by omega) (by omega))
  have U_1 := U_0.kept (h' := h1) (fun y hy => k1 y (by omega) (by omega))
  have W_1_56 : rowAt G h1 (o + 56) 0 (fun _ => nI 0) := ⟨(c4 _ (by omega)).trans b3.1, (c4 _ (by omega)).trans b3.2⟩
  have F_1 : ∀ y, y ≠ o → y < o + 5 ∨ o + 57 < y → h1.2.2 y = h.2.2 y := fun y y1 y2 => (k1 y y1 (by omega)).trans (F_0 y y1 (by omega))
  clear b1 b2 b3 b4 c1 c2 c3 c4
  refine z_aload_n d_TK_init_75 rfl rfl ?_
  refine z_mkRow HG d_TK_init_76 d_TK_init_79 d_TK_init_80 rfl (w_c_TK_19 HG) (Y_TK_45 HG) (Nat.le_of_ble_eq_true rfl) (by omega) (by omega) (fun hr2 b1 b2 b3 b4 => ?_)
  rw [S1_1] at b1 b3 b4 ⊢
  refine z_pF (k := 9) (K_TK HG) (by decide) (P_TK_50 HG) rfl rfl rfl d_TK_init_83 ((b4 o (by omega) (by omega)).trans O_1) rfl rfl (Nat.le_of_ble_eq_true rfl) (fun h2 c1 c2 c3 c4 => ?_)
  have O_2 : h2.2.2 o = some (.inr (5, [.ref (o + 1), .int (nI 0), .ref (o + 2), .int (nI 0), .ref (o + 3), .ref (o + 4), .int (nI 0), .ref (o + 5), .ref (o + 56), .ref (o + 58), .null, .null])) := c3
  have S1_2 : h2.1 = o + 60 := c1.trans b1
  have S2_2 : h2.2.1 = h.2.1 + 969 := by omega
  have k2 : ∀ y, y ≠ o → y < o + 58 ∨ o + 59 < y → h2.2.2 y = h1.2.2 y := fun y y1 y2 => (c4 y y1).trans (b4 y (by omega) (by omega))
  have R_2 := R_1.keep (h' := h2) (fun y hy => k2 y (by omega) (by omega))
  have U_2 := U_1.kept (h' := h2) (fun y hy => k2 y (by omega) (by omega))
  have W_2_56 : rowAt G h2 (o + 56) 0 (fun _ => nI 0) := ⟨(k2 _ (by omega) (by omega)).trans W_1_56.1, (k2 _ (by omega) (by omega)).trans W_1_56.2⟩
  have W_2_58 : rowAt G h2 (o + 58) 0 (fun _ => nI 0) := ⟨(c4 _ (by omega)).trans b3.1, (c4 _ (by omega)).trans b3.2⟩
  have F_2 : ∀ y, y ≠ o → y < o + 5 ∨ o + 59 < y → h2.2.2 y = h.2.2 y := fun y y1 y2 => (k2 y y1 (by omega)).trans (F_1 y y1 (by omega))
  clear b1 b2 b3 b4 c1 c2 c3 c4
  refine z_aload_n d_TK_init_86 rfl rfl ?_
  refine z_mkRow HG d_TK_init_87 d_TK_init_90 d_TK_init_91 rfl (w_c_TK_19 HG) (Y_TK_45 HG) (Nat.le_of_ble_eq_true rfl) (by omega) (by omega) (fun hr3 b1 b2 b3 b4 => ?_)
  rw [S1_2] at b1 b3 b4 ⊢
  refine z_pF (k := 10) (K_TK HG) (by decide) (P_TK_53 HG) rfl rfl rfl d_TK_init_94 ((b4 o (by omega) (by omega)).trans O_2) rfl rfl (Nat.le_of_ble_eq_true rfl) (fun h3 c1 c2 c3 c4 => ?_)
  have O_3 : h3.2.2 o = some (.inr (5, [.ref (o + 1), .int (nI 0), .ref (o + 2), .int (nI 0), .ref (o + 3), .ref (o + 4), .int (nI 0), .ref (o + 5), .ref (o + 56), .ref (o + 58), .ref (o + 60), .null])) := c3
  have S1_3 : h3.1 = o + 62 := c1.trans b1
  have S2_3 : h3.2.1 = h.2.1 + 1011 := by omega
  have k3 : ∀ y, y ≠ o → y < o + 60 ∨ o + 61 < y → h3.2.2 y = h2.2.2 y := fun y y1 y2 => (c4 y y1).trans (b4 y (by omega) (by omega))
  have R_3 := R_2.keep (h' := h3) (fun y hy => k3 y (by omega) (by omega))
  have U_3 := U_2.kept (h' := h3) (fun y hy => k3 y (by omega) (by omega))
  have W_3_56 : rowAt G h3 (o + 56) 0 (fun _ => nI 0) := ⟨(k3 _ (by omega) (by omega)).trans W_2_56.1, (k3 _ (by omega) (by omega)).trans W_2_56.2⟩
  have W_3_58 : rowAt G h3 (o + 58) 0 (fun _ => nI 0) := ⟨(k3 _ (by omega) (by omega)).trans W_2_58.1, (k3 _ (by omega) (by omega)).trans W_2_58.2⟩
  have W_3_60 : rowAt G h3 (o + 60) 0 (fun _ => nI 0) := ⟨(c4 _ (by omega)).trans b3.1, (c4 _ (by omega)).trans b3.2⟩
  have F_3 : ∀ y, y ≠ o → y < o + 5 ∨ o + 61 < y → h3.2.2 y = h.2.2 y := fun y y1 y2 => (k3 y y1 (by omega)).trans (F_2 y y1 (by omega))
  clear b1 b2 b3 b4 c1 c2 c3 c4
  refine z_aload_n d_TK_init_97 rfl rfl ?_
  refine z_mkRow HG d_TK_init_98 d_TK_init_101 d_TK_init_102 rfl (w_c_TK_19 HG) (Y_TK_45 HG) (Nat.le_of_ble_eq_true rfl) (by omega) (by omega) (fun hr4 b1 b2 b3 b4 => ?_)
  rw [S1_3] at b1 b3 b4 ⊢
  refine z_pF (k := 11) (K_TK HG) (by decide) (P_TK_56 HG) rfl rfl rfl d_TK_init_105 ((b4 o (by omega) (by omega)).trans O_3) rfl rfl (Nat.le_of_ble_eq_true rfl) (fun h4 c1 c2 c3 c4 => ?_)
  have O_4 : h4.2.2 o = some (.inr (5, [.ref (o + 1), .int (nI 0), .ref (o + 2), .int (nI 0), .ref (o + 3), .ref (o + 4), .int (nI 0), .ref (o + 5), .ref (o + 56), .ref (o + 58), .ref (o + 60), .ref (o + 62)])) := c3
  have S1_4 : h4.1 = o + 64 := c1.trans b1
  have S2_4 : h4.2.1 = h.2.1 + 1053 := by omega
  have k4 : ∀ y, y ≠ o → y < o + 62 ∨ o + 63 < y → h4.2.2 y = h3.2.2 y := fun y y1 y2 => (c4 y y1).trans (b4 y (by omega) (by omega))
  have R_4 := R_3.keep (h' := h4) (fun y hy => k4 y (by omega) (by omega))
  have U_4 := U_3.kept (h' := h4) (fun y hy => k4 y (by omega) (by omega))
  have W_4_56 : rowAt G h4 (o + 56) 0 (fun _ => nI 0) := ⟨(k4 _ (by omega) (by omega)).trans W_3_56.1, (k4 _ (by omega) (by omega)).trans W_3_56.2⟩
  have W_4_58 : rowAt G h4 (o + 58) 0 (fun _ => nI 0) := ⟨(k4 _ (by omega) (by omega)).trans W_3_58.1, (k4 _ (by omega) (by omega)).trans W_3_58.2⟩
  have W_4_60 : rowAt G h4 (o + 60) 0 (fun _ => nI 0) := ⟨(k4 _ (by omega) (by omega)).trans W_3_60.1, (k4 _ (by omega) (by omega)).trans W_3_60.2⟩
  have W_4_62 : rowAt G h4 (o + 62) 0 (fun _ => nI 0) := ⟨(c4 _ (by omega)).trans b3.1, (c4 _ (by omega)).trans b3.2⟩
  have F_4 : ∀ y, y ≠ o → y < o + 5 ∨ o + 63 < y → h4.2.2 y = h.2.2 y := fun y y1 y2 => (k4 y y1 (by omega)).trans (F_3 y y1 (by omega))
  clear b1 b2 b3 b4 c1 c2 c3 c4
  refine kk h4 S1_4 S2_4 O_4 R_4 U_4 (fun r hr => ?_) F_4
  rcases hr with rfl | rfl | rfl | rfl
  · exact ⟨_, W_4_56⟩
  · exact ⟨_, W_4_58⟩
  · exact ⟨_, W_4_60⟩
  · exact ⟨_, W_4_62⟩
theorem c_TK_init (HG : z_ok G) (ho : h.2.2 o = some k_tk0) (h1 : h.1 = o + 1) (hc : h.1 + 117 ≤ G.b0 + G.cc) (hs : h.2.1 + 2105 ≤ G.ss) : z_C G m_TK_init (d + 3) [.ref o] h (z_pq none (fun h' => h'.1 = o + 118 ∧ h'.2.1 = h.2.1 + 2105 ∧ KAt G h' o ([], [], [], []) ∧ ∀ y, y < o ∨ o + 117 < y → h'.2.2 y = h.2.2 y)) := by
  refine z_C.of (Nat.le_of_ble_eq_true rfl) ?_
  refine z_aload_n d_TK_init_0 rfl rfl ?_
  refine z_oinit d_TK_init_1 (w_o_TK HG) (w_oi1 HG) (w_oi2 HG) (Nat.le_of_ble_eq_true rfl) ?_
  refine z_fg [(0, .ref o)] ⟨rfl, trivial⟩ ?_
  refine l_tkA HG ho h1 (by omega) (by omega) (fun hA a1 a2 a3 c1 c2 c3 c4 aF => ?_)
  refine l_tkB HG a3 a1 (by omega) (by omega) (fun hB b1 b2 b3 bR bU bW bF => ?_)
  refine z_iconst (v := nI 0) d_TK_init_108 (by decide) ?_
  refine z_istore_n d_TK_init_109 rfl (by decide) ?_
  refine z_fg [(0, .ref o), (1, .int (nI 0))] ⟨rfl, rfl, trivial⟩ ?_
  refine l_tkJ (d := d + 1) HG 6 0 (fun _ => none) hB rfl b1 (by omega) (by omega) b3 ((bF _ (by omega) (by omega)).trans c1) (fun j hj => absurd hj (Nat.not_lt_zero _)) (fun j hj => absurd hj (Nat.not_lt_zero _)) (fun hJ fJ j1 j2 j3 j4 j5 jF => ?_)
  refine z_iconst (v := nI 0) d_TK_init_135 (by decide) ?_
  refine z_istore_n d_TK_init_136 rfl (by decide) ?_
  refine z_fg [(0, .ref o), (1, .int (nI 0))] ⟨rfl, rfl, trivial⟩ ?_
  have oJ := (jF o (by omega) (by omega)).trans b3
  refine l_tkC (d := d + 2) (fs := [.ref (o + 1), .int (nI 0), .ref (o + 2), .int (nI 0), .ref (o + 3), .ref (o + 4), .int (nI 0), .ref (o + 5), .ref (o + 56), .ref (o + 58), .ref (o + 60), .ref (o + 62)]) HG rfl rfl 4 0 (fun _ => none) hJ rfl j1 (by omega) (by omega) oJ ((jF _ (by omega) (by omega)).trans ((bF _ (by omega) (by omega)).trans c2)) (fun j hj => absurd hj (Nat.not_lt_zero _)) (fun j hj => absurd hj (Nat.not_lt_zero _)) (fun hC fC e1 e2 e3 e4 e5 eF => ?_)
  refine z_iconst (v := nI 0) d_TK_init_161 (by decide) ?_
  refine z_istore_n d_TK_init_162 rfl (by decide) ?_
  refine z_fg [(0, .ref o), (1, .int (nI 0))] ⟨rfl, rfl, trivial⟩ ?_
  have oC := (eF o (by omega) (by omega)).trans oJ
  refine l_tkK (d := d + 2) (fs := [.ref (o + 1), .int (nI 0), .ref (o + 2), .int (nI 0), .ref (o + 3), .ref (o + 4), .int (nI 0), .ref (o + 5), .ref (o + 56), .ref (o + 58), .ref (o + 60), .ref (o + 62)]) HG rfl rfl 8 0 (fun _ => none) hC rfl e1 (by omega) (by omega) oC ((eF _ (by omega) (by omega)).trans ((jF _ (by omega) (by omega)).trans ((bF _ (by omega) (by omega)).trans c3))) (fun j hj => absurd hj (Nat.not_lt_zero _)) (fun j hj => absurd hj (Nat.not_lt_zero _)) (fun hK fK g1 g2 g3 g4 g5 gF => ?_)
  have kC : ∀ y, y < o + 102 → y ≠ o + 3 → hK.2.2 y = hC.2.2 y := fun y y1 y2 => gF y (by omega) y2
  have kJ : ∀ y, y < o + 94 → y ≠ o + 2 → y ≠ o + 3 → hK.2.2 y = hJ.2.2 y := fun y y1 y2 y3 => (kC y (by omega) y3).trans (eF y (by omega) y2)
  have kB : ∀ y, y < o + 64 → y ≠ o + 1 → y ≠ o + 2 → y ≠ o + 3 → hK.2.2 y = hB.2.2 y := fun y y1 y2 y3 y4 => (kJ y (by omega) y3 y4).trans (jF y (by omega) y2)
  refine z_return d_TK_init_188 rfl ⟨rfl, by omega, by omega, ⟨⟨⟨fJ, ?_, j4⟩, ⟨fC, ?_, e4⟩, fK, g3, g4⟩, ?_, ⟨Nat.zero_le _, fun k hk => ?_⟩, ⟨Nat.zero_le _, fun k hk => ?_⟩, ⟨⟨Nat.zero_le _, fun k hk => ?_⟩, (fun _ => nI 0), ?_, fun k c hk => ?_⟩, fun r hr => ?_, ⟨[], bR.keep (fun y hy => kB y (by omega) (by omega) (by omega) (by omega))⟩, bU.kept (fun y hy => kB y (by omega) (by omega) (by omega) (by omega))⟩, fun y hy => ?_⟩
  · exact (kJ _ (by omega) (by omega) (by omega)).trans j3
  · exact (kC _ (by omega) (by omega)).trans e3
  · exact (gF o (by omega) (by omega)).trans oC
  · obtain ⟨u1, ⟨f1, u2⟩, f2, u3⟩ := j5 k hk
    have hju : k_ju o k = o + 64 + 5 * k := rfl
    rw [show (([] : List pJ).reverse[k]? : Option pJ) = none by simp]
    exact ⟨⟨0, (kJ _ (by omega) (by omega) (by omega)).trans u1, fun J hJ => by cases hJ⟩, ⟨0, f1, ⟨(kJ _ (by omega) (by omega) (by omega)).trans u2.1, (kJ _ (by omega) (by omega) (by omega)).trans u2.2⟩, fun l hl => by cases hl⟩, ⟨0, f2, ⟨(kJ _ (by omega) (by omega) (by omega)).trans u3.1, (kJ _ (by omega) (by omega) (by omega)).trans u3.2⟩, fun l hl => by cases hl⟩⟩
  · obtain ⟨g, u⟩ := e5 k hk
    have hju : k_cu o k = o + 94 + 2 * k := rfl
    rw [show (([] : List (List Nat)).reverse[k]? : Option (List Nat)) = none by simp]
    exact ⟨0, g, ⟨(kC _ (by omega) (by omega)).trans u.1, (kC _ (by omega) (by omega)).trans u.2⟩, fun l hl => by cases hl⟩
  · obtain ⟨g, u⟩ := g5 k hk
    exact ⟨0, g, u, fun l hl => by cases hl⟩
  · exact (kB _ (by omega) (by omega) (by omega) (by omega)).trans ((bF _ (by omega) (by omega)).trans c4)
  · cases hk
  · obtain ⟨g, u⟩ := bW r hr
    unfold scR at hr
    exact ⟨0, g, ⟨(kB _ (by omega) (by omega) (by omega) (by omega)).trans u.1, (kB _ (by omega) (by omega) (by omega) (by omega)).trans u.2⟩, fun l hl => by cases hl⟩
  · exact (gF y (by omega) (by omega)).trans ((eF y (by omega) (by omega)).trans ((jF y (by omega) (by omega)).trans ((bF y (by omega) (by omega)).trans (aF y (by omega)))))
end TN
