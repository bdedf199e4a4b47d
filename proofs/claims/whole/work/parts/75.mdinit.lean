/-! the reference's constructor -/
section MJ
variable {G : z_G} {d q : Nat} {h : z_H}
theorem P_Md_7 (HG : z_ok G) : Cond.fieldLink "TypeKernelModel" 7 (F_Md 1).1 (F_Md 1).2.1 (F_Md 1).2.2.1 ∈ G.Ts := HG.mem (k_in 596 (by decide +kernel) rfl)
theorem P_Md_13 (HG : z_ok G) : Cond.fieldLink "TypeKernelModel" 13 (F_Md 2).1 (F_Md 2).2.1 (F_Md 2).2.2.1 ∈ G.Ts := HG.mem (k_in 597 (by decide +kernel) rfl)
theorem P_Md_16 (HG : z_ok G) : Cond.fieldLink "TypeKernelModel" 16 (F_Md 4).1 (F_Md 4).2.1 (F_Md 4).2.2.1 ∈ G.Ts := HG.mem (k_in 599 (by decide +kernel) rfl)
theorem P_Md_19 (HG : z_ok G) : Cond.fieldLink "TypeKernelModel" 19 (F_Md 7).1 (F_Md 7).2.1 (F_Md 7).2.2.1 ∈ G.Ts := HG.mem (k_in 602 (by decide +kernel) rfl)
theorem P_Md_23 (HG : z_ok G) : Cond.fieldLink "TypeKernelModel" 23 (F_Md 9).1 (F_Md 9).2.1 (F_Md 9).2.2.1 ∈ G.Ts := HG.mem (k_in 604 (by decide +kernel) rfl)
theorem P_Md_26 (HG : z_ok G) : Cond.fieldLink "TypeKernelModel" 26 (F_Md 11).1 (F_Md 11).2.1 (F_Md 11).2.2.1 ∈ G.Ts := HG.mem (k_in 606 (by decide +kernel) rfl)
theorem P_Md_29 (HG : z_ok G) : Cond.fieldLink "TypeKernelModel" 29 (F_Md 12).1 (F_Md 12).2.1 (F_Md 12).2.2.1 ∈ G.Ts := HG.mem (k_in 607 (by decide +kernel) rfl)
theorem P_Md_32 (HG : z_ok G) : Cond.fieldLink "TypeKernelModel" 32 (F_Md 13).1 (F_Md 13).2.1 (F_Md 13).2.2.1 ∈ G.Ts := HG.mem (k_in 608 (by decide +kernel) rfl)
theorem P_Md_35 (HG : z_ok G) : Cond.fieldLink "TypeKernelModel" 35 (F_Md 14).1 (F_Md 14).2.1 (F_Md 14).2.2.1 ∈ G.Ts := HG.mem (k_in 609 (by decide +kernel) rfl)
theorem P_Md_38 (HG : z_ok G) : Cond.fieldLink "TypeKernelModel" 38 (F_Md 15).1 (F_Md 15).2.1 (F_Md 15).2.2.1 ∈ G.Ts := HG.mem (k_in 610 (by decide +kernel) rfl)
def k_md0 : va_E := .inr (6, [.int 0, .null, .null, .int 0, .null, .int 0, .int 0, .null, .int 0, .null, .int 0, .null, .null, .null, .null, .null])
/-- the reference's cells -/
def mdAt (G : z_G) (h : z_H) (q : Nat) (s : Nat → Int32) (A : Nat → Nat → Int32) : Prop := ∀ k, k ≤ 10 → h.2.2 (q + k) = some (md_c G q s A k)
theorem mdAt.md {s : Nat → Int32} {A : Nat → Nat → Int32} (H : mdAt G h q s A) : md G h q s A = h := by
  obtain ⟨a, b, u⟩ := h
  refine congrArg (fun z => ((a, b, z) : z_H)) ?_
  funext y
  by_cases hy : q ≤ y ∧ y ≤ q + 10
  · have e := H (y - q) (by omega)
    rw [show q + (y - q) = y by omega] at e
    exact (if_pos hy).trans e.symm
  · exact if_neg hy
theorem md_mdAt (G : z_G) (h : z_H) (q : Nat) (s : Nat → Int32) (A : Nat → Nat → Int32) : mdAt G (md G h q s A) q s A := fun k hk => md_in hk
theorem mdAt.keep {h' : z_H} {s : Nat → Int32} {A : Nat → Nat → Int32} (H : mdAt G h q s A) (k : ∀ y, q ≤ y ∧ y ≤ q + 10 → h'.2.2 y = h.2.2 y) : mdAt G h' q s A := fun j hj => (k _ (by omega)).trans (H j hj)
theorem mK.zero {A : Nat → Nat → Int32} : mK ([], [], [], []) (fun _ => 0) A := by
  refine ⟨⟨nI_0.symm, nI_0.symm, nI_0.symm, nI_0.symm⟩, ⟨Nat.zero_le _, Nat.zero_le _, Nat.zero_le _, Nat.zero_le _⟩, fun j J hj => ?_, fun j c hj => ?_, fun j c hj => ?_, fun j c hj => ?_⟩
  · have hj : ([] : List pJ).reverse[j]? = some J := hj
    simp at hj
  · have hj : ([] : List (List Nat)).reverse[j]? = some c := hj
    simp at hj
  · cases hj
  · cases hj
theorem pok.zero : pok ([], [], [], []) := ⟨fun J hJ => (by cases hJ), fun k c hk => (by cases hk), fun c hc => (by cases hc), fun R hR => (by cases hR)⟩
theorem l_mdA (HG : z_ok G) {Q : z_R → z_H → Prop} (ho : h.2.2 q = some (.inr (6, [.int 0, .null, .null, .int 0, .null, .int 0, .int 0, .null, .int 0, .null, .int 0, .null, .null, .null, .null, .null]))) (h1 : h.1 = q + 1) (hc : h.1 + 5 ≤ G.b0 + G.cc) (hs : h.2.1 + 1785 ≤ G.ss) (hk : ∀ j, 1 ≤ j → j ≤ 0 → h.2.2 (q + j) = some (md_c G q (fun _ => 0) (fun _ _ => nI 0) j)) (kk : ∀ h', h'.1 = q + 6 → h'.2.1 = h.2.1 + 1785 → h'.2.2 q = some (.inr (6, [.int 0, .ref (q + 1), .ref (q + 2), .int 0, .ref (q + 3), .int 0, .int 0, .ref (q + 4), .int 0, .ref (q + 5), .int 0, .null, .null, .null, .null, .null])) → (∀ j, 1 ≤ j → j ≤ 5 → h'.2.2 (q + j) = some (md_c G q (fun _ => 0) (fun _ _ => nI 0) j)) → (∀ y, y < q ∨ q + 5 < y → h'.2.2 y = h.2.2 y) → z_V G m_Md_init d 45 [(0, .ref q)] [] h' Q) : z_V G m_Md_init d 4 [(0, .ref q)] [] h Q := by
  refine z_aload_n d_Md_init_4 rfl rfl ?_
  refine z_sipush (v := nI 1720) d_Md_init_5 (by decide +kernel) ?_
  refine z_nwa (N := 1720) HG d_Md_init_8 (by omega) (by omega) (by omega) (fun ha1 a1 a2 a3 a4 => ?_)
  rw [h1] at a1 a3 a4 ⊢
  refine z_pF (k := 1) (K_Md HG) (by decide) (P_Md_7 HG) rfl rfl rfl d_Md_init_10 ((a4 q (by omega)).trans ho) rfl rfl (Nat.le_of_ble_eq_true rfl) (fun hb1 b1 b2 b3 b4 => ?_)
  have S1_1 : hb1.1 = q + 2 := b1.trans a1
  have S2_1 : hb1.2.1 = h.2.1 + 1720 := by omega
  have O_1 : hb1.2.2 q = some (.inr (6, [.int 0, .ref (q + 1), .null, .int 0, .null, .int 0, .int 0, .null, .int 0, .null, .int 0, .null, .null, .null, .null, .null])) := b3
  have K_1 : ∀ j, 1 ≤ j → j ≤ 1 → hb1.2.2 (q + j) = some (md_c G q (fun _ => 0) (fun _ _ => nI 0) j) := fun j j1 j2 => by
    by_cases e : j = 1
    · subst e
      exact (b4 _ (by omega)).trans a3
    · exact (b4 _ (by omega)).trans ((a4 _ (by omega)).trans (hk j j1 (by omega)))
  have F_1 : ∀ y, y < q ∨ q + 1 < y → hb1.2.2 y = h.2.2 y := fun y hy => (b4 _ (by omega)).trans (a4 _ (by omega))
  clear a1 a2 a3 a4 b1 b2 b3 b4
  refine z_aload_n d_Md_init_13 rfl rfl ?_
  refine z_bipush (v := nI 43) d_Md_init_14 (by decide +kernel) ?_
  refine z_nwa (N := 43) HG d_Md_init_16 (by omega) (by omega) (by omega) (fun ha2 a1 a2 a3 a4 => ?_)
  rw [S1_1] at a1 a3 a4 ⊢
  refine z_pF (k := 2) (K_Md HG) (by decide) (P_Md_13 HG) rfl rfl rfl d_Md_init_18 ((a4 q (by omega)).trans O_1) rfl rfl (Nat.le_of_ble_eq_true rfl) (fun hb2 b1 b2 b3 b4 => ?_)
  have S1_2 : hb2.1 = q + 3 := b1.trans a1
  have S2_2 : hb2.2.1 = h.2.1 + 1763 := by omega
  have O_2 : hb2.2.2 q = some (.inr (6, [.int 0, .ref (q + 1), .ref (q + 2), .int 0, .null, .int 0, .int 0, .null, .int 0, .null, .int 0, .null, .null, .null, .null, .null])) := b3
  have K_2 : ∀ j, 1 ≤ j → j ≤ 2 → hb2.2.2 (q + j) = some (md_c G q (fun _ => 0) (fun _ _ => nI 0) j) := fun j j1 j2 => by
    by_cases e : j = 2
    · subst e
      exact (b4 _ (by omega)).trans a3
    · exact (b4 _ (by omega)).trans ((a4 _ (by omega)).trans (K_1 j j1 (by omega)))
  have F_2 : ∀ y, y < q ∨ q + 2 < y → hb2.2.2 y = h.2.2 y := fun y hy => (b4 _ (by omega)).trans ((a4 _ (by omega)).trans (F_1 y (by omega)))
  clear a1 a2 a3 a4 b1 b2 b3 b4
  refine z_aload_n d_Md_init_21 rfl rfl ?_
  refine z_bipush (v := nI 6) d_Md_init_22 (by decide +kernel) ?_
  refine z_nwa (N := 6) HG d_Md_init_24 (by omega) (by omega) (by omega) (fun ha3 a1 a2 a3 a4 => ?_)
  rw [S1_2] at a1 a3 a4 ⊢
  refine z_pF (k := 4) (K_Md HG) (by decide) (P_Md_16 HG) rfl rfl rfl d_Md_init_26 ((a4 q (by omega)).trans O_2) rfl rfl (Nat.le_of_ble_eq_true rfl) (fun hb3 b1 b2 b3 b4 => ?_)
  have S1_3 : hb3.1 = q + 4 := b1.trans a1
  have S2_3 : hb3.2.1 = h.2.1 + 1769 := by omega
  have O_3 : hb3.2.2 q = some (.inr (6, [.int 0, .ref (q + 1), .ref (q + 2), .int 0, .ref (q + 3), .int 0, .int 0, .null, .int 0, .null, .int 0, .null, .null, .null, .null, .null])) := b3
  have K_3 : ∀ j, 1 ≤ j → j ≤ 3 → hb3.2.2 (q + j) = some (md_c G q (fun _ => 0) (fun _ _ => nI 0) j) := fun j j1 j2 => by
    by_cases e : j = 3
    · subst e
      exact (b4 _ (by omega)).trans a3
    · exact (b4 _ (by omega)).trans ((a4 _ (by omega)).trans (K_2 j j1 (by omega)))
  have F_3 : ∀ y, y < q ∨ q + 3 < y → hb3.2.2 y = h.2.2 y := fun y hy => (b4 _ (by omega)).trans ((a4 _ (by omega)).trans (F_2 y (by omega)))
  clear a1 a2 a3 a4 b1 b2 b3 b4
  refine z_aload_n d_Md_init_29 rfl rfl ?_
  refine z_bipush (v := nI 8) d_Md_init_30 (by decide +kernel) ?_
  refine z_nwz (N := 8) HG d_Md_init_32 (by omega) (by omega) (by omega) (fun ha4 a1 a2 a3 a4 => ?_)
  rw [S1_3] at a1 a3 a4 ⊢
  refine z_pF (k := 7) (K_Md HG) (by decide) (P_Md_19 HG) rfl rfl rfl d_Md_init_34 ((a4 q (by omega)).trans O_3) rfl rfl (Nat.le_of_ble_eq_true rfl) (fun hb4 b1 b2 b3 b4 => ?_)
  have S1_4 : hb4.1 = q + 5 := b1.trans a1
  have S2_4 : hb4.2.1 = h.2.1 + 1777 := by omega
  have O_4 : hb4.2.2 q = some (.inr (6, [.int 0, .ref (q + 1), .ref (q + 2), .int 0, .ref (q + 3), .int 0, .int 0, .ref (q + 4), .int 0, .null, .int 0, .null, .null, .null, .null, .null])) := b3
  have K_4 : ∀ j, 1 ≤ j → j ≤ 4 → hb4.2.2 (q + j) = some (md_c G q (fun _ => 0) (fun _ _ => nI 0) j) := fun j j1 j2 => by
    by_cases e : j = 4
    · subst e
      exact (b4 _ (by omega)).trans a3
    · exact (b4 _ (by omega)).trans ((a4 _ (by omega)).trans (K_3 j j1 (by omega)))
  have F_4 : ∀ y, y < q ∨ q + 4 < y → hb4.2.2 y = h.2.2 y := fun y hy => (b4 _ (by omega)).trans ((a4 _ (by omega)).trans (F_3 y (by omega)))
  clear a1 a2 a3 a4 b1 b2 b3 b4
  refine z_aload_n d_Md_init_37 rfl rfl ?_
  refine z_bipush (v := nI 8) d_Md_init_38 (by decide +kernel) ?_
  refine z_nwa (N := 8) HG d_Md_init_40 (by omega) (by omega) (by omega) (fun ha5 a1 a2 a3 a4 => ?_)
  rw [S1_4] at a1 a3 a4 ⊢
  refine z_pF (k := 9) (K_Md HG) (by decide) (P_Md_23 HG) rfl rfl rfl d_Md_init_42 ((a4 q (by omega)).trans O_4) rfl rfl (Nat.le_of_ble_eq_true rfl) (fun hb5 b1 b2 b3 b4 => ?_)
  have S1_5 : hb5.1 = q + 6 := b1.trans a1
  have S2_5 : hb5.2.1 = h.2.1 + 1785 := by omega
  have O_5 : hb5.2.2 q = some (.inr (6, [.int 0, .ref (q + 1), .ref (q + 2), .int 0, .ref (q + 3), .int 0, .int 0, .ref (q + 4), .int 0, .ref (q + 5), .int 0, .null, .null, .null, .null, .null])) := b3
  have K_5 : ∀ j, 1 ≤ j → j ≤ 5 → hb5.2.2 (q + j) = some (md_c G q (fun _ => 0) (fun _ _ => nI 0) j) := fun j j1 j2 => by
    by_cases e : j = 5
    · subst e
      exact (b4 _ (by omega)).trans a3
    · exact (b4 _ (by omega)).trans ((a4 _ (by omega)).trans (K_4 j j1 (by omega)))
  have F_5 : ∀ y, y < q ∨ q + 5 < y → hb5.2.2 y = h.2.2 y := fun y hy => (b4 _ (by omega)).trans ((a4 _ (by omega)).trans (F_4 y (by omega)))
  clear a1 a2 a3 a4 b1 b2 b3 b4
  exact kk hb5 S1_5 S2_5 O_5 K_5 F_5
theorem l_mdB (HG : z_ok G) {Q : z_R → z_H → Prop} (ho : h.2.2 q = some (.inr (6, [.int 0, .ref (q + 1), .ref (q + 2), .int 0, .ref (q + 3), .int 0, .int 0, .ref (q + 4), .int 0, .ref (q + 5), .int 0, .null, .null, .null, .null, .null]))) (h1 : h.1 = q + 6) (hc : h.1 + 5 ≤ G.b0 + G.cc) (hs : h.2.1 + 136 ≤ G.ss) (hk : ∀ j, 1 ≤ j → j ≤ 5 → h.2.2 (q + j) = some (md_c G q (fun _ => 0) (fun _ _ => nI 0) j)) (kk : ∀ h', h'.1 = q + 11 → h'.2.1 = h.2.1 + 136 → h'.2.2 q = some (.inr (6, [.int 0, .ref (q + 1), .ref (q + 2), .int 0, .ref (q + 3), .int 0, .int 0, .ref (q + 4), .int 0, .ref (q + 5), .int 0, .ref (q + 6), .ref (q + 7), .ref (q + 8), .ref (q + 9), .ref (q + 10)])) → (∀ j, 1 ≤ j → j ≤ 10 → h'.2.2 (q + j) = some (md_c G q (fun _ => 0) (fun _ _ => nI 0) j)) → (∀ y, y < q ∨ q + 10 < y → h'.2.2 y = h.2.2 y) → z_V G m_Md_init d 83 [(0, .ref q)] [] h' Q) : z_V G m_Md_init d 45 [(0, .ref q)] [] h Q := by
  refine z_aload_n d_Md_init_45 rfl rfl ?_
  refine z_bipush (v := nI 40) d_Md_init_46 (by decide +kernel) ?_
  refine z_nwa (N := 40) HG d_Md_init_48 (by omega) (by omega) (by omega) (fun ha6 a1 a2 a3 a4 => ?_)
  rw [h1] at a1 a3 a4 ⊢
  refine z_pF (k := 11) (K_Md HG) (by decide) (P_Md_26 HG) rfl rfl rfl d_Md_init_50 ((a4 q (by omega)).trans ho) rfl rfl (Nat.le_of_ble_eq_true rfl) (fun hb6 b1 b2 b3 b4 => ?_)
  have S1_6 : hb6.1 = q + 7 := b1.trans a1
  have S2_6 : hb6.2.1 = h.2.1 + 40 := by omega
  have O_6 : hb6.2.2 q = some (.inr (6, [.int 0, .ref (q + 1), .ref (q + 2), .int 0, .ref (q + 3), .int 0, .int 0, .ref (q + 4), .int 0, .ref (q + 5), .int 0, .ref (q + 6), .null, .null, .null, .null])) := b3
  have K_6 : ∀ j, 1 ≤ j → j ≤ 6 → hb6.2.2 (q + j) = some (md_c G q (fun _ => 0) (fun _ _ => nI 0) j) := fun j j1 j2 => by
    by_cases e : j = 6
    · subst e
      exact (b4 _ (by omega)).trans a3
    · exact (b4 _ (by omega)).trans ((a4 _ (by omega)).trans (hk j j1 (by omega)))
  have F_6 : ∀ y, y < q ∨ q + 6 < y → hb6.2.2 y = h.2.2 y := fun y hy => (b4 _ (by omega)).trans (a4 _ (by omega))
  clear a1 a2 a3 a4 b1 b2 b3 b4
  refine z_aload_n d_Md_init_53 rfl rfl ?_
  refine z_bipush (v := nI 40) d_Md_init_54 (by decide +kernel) ?_
  refine z_nwa (N := 40) HG d_Md_init_56 (by omega) (by omega) (by omega) (fun ha7 a1 a2 a3 a4 => ?_)
  rw [S1_6] at a1 a3 a4 ⊢
  refine z_pF (k := 12) (K_Md HG) (by decide) (P_Md_29 HG) rfl rfl rfl d_Md_init_58 ((a4 q (by omega)).trans O_6) rfl rfl (Nat.le_of_ble_eq_true rfl) (fun hb7 b1 b2 b3 b4 => ?_)
  have S1_7 : hb7.1 = q + 8 := b1.trans a1
  have S2_7 : hb7.2.1 = h.2.1 + 80 := by omega
  have O_7 : hb7.2.2 q = some (.inr (6, [.int 0, .ref (q + 1), .ref (q + 2), .int 0, .ref (q + 3), .int 0, .int 0, .ref (q + 4), .int 0, .ref (q + 5), .int 0, .ref (q + 6), .ref (q + 7), .null, .null, .null])) := b3
  have K_7 : ∀ j, 1 ≤ j → j ≤ 7 → hb7.2.2 (q + j) = some (md_c G q (fun _ => 0) (fun _ _ => nI 0) j) := fun j j1 j2 => by
    by_cases e : j = 7
    · subst e
      exact (b4 _ (by omega)).trans a3
    · exact (b4 _ (by omega)).trans ((a4 _ (by omega)).trans (K_6 j j1 (by omega)))
  have F_7 : ∀ y, y < q ∨ q + 7 < y → hb7.2.2 y = h.2.2 y := fun y hy => (b4 _ (by omega)).trans ((a4 _ (by omega)).trans (F_6 y (by omega)))
  clear a1 a2 a3 a4 b1 b2 b3 b4
  refine z_aload_n d_Md_init_61 rfl rfl ?_
  refine z_bipush (v := nI 48) d_Md_init_62 (by decide +kernel) ?_
  refine z_nwa (N := 48) HG d_Md_init_64 (by omega) (by omega) (by omega) (fun ha8 a1 a2 a3 a4 => ?_)
  rw [S1_7] at a1 a3 a4 ⊢
  refine z_pF (k := 13) (K_Md HG) (by decide) (P_Md_32 HG) rfl rfl rfl d_Md_init_66 ((a4 q (by omega)).trans O_7) rfl rfl (Nat.le_of_ble_eq_true rfl) (fun hb8 b1 b2 b3 b4 => ?_)
  have S1_8 : hb8.1 = q + 9 := b1.trans a1
  have S2_8 : hb8.2.1 = h.2.1 + 128 := by omega
  have O_8 : hb8.2.2 q = some (.inr (6, [.int 0, .ref (q + 1), .ref (q + 2), .int 0, .ref (q + 3), .int 0, .int 0, .ref (q + 4), .int 0, .ref (q + 5), .int 0, .ref (q + 6), .ref (q + 7), .ref (q + 8), .null, .null])) := b3
  have K_8 : ∀ j, 1 ≤ j → j ≤ 8 → hb8.2.2 (q + j) = some (md_c G q (fun _ => 0) (fun _ _ => nI 0) j) := fun j j1 j2 => by
    by_cases e : j = 8
    · subst e
      exact (b4 _ (by omega)).trans a3
    · exact (b4 _ (by omega)).trans ((a4 _ (by omega)).trans (K_7 j j1 (by omega)))
  have F_8 : ∀ y, y < q ∨ q + 8 < y → hb8.2.2 y = h.2.2 y := fun y hy => (b4 _ (by omega)).trans ((a4 _ (by omega)).trans (F_7 y (by omega)))
  clear a1 a2 a3 a4 b1 b2 b3 b4
  refine z_aload_n d_Md_init_69 rfl rfl ?_
  refine z_iconst (v := nI 4) d_Md_init_70 (by decide) ?_
  refine z_nwa (N := 4) HG d_Md_init_71 (by omega) (by omega) (by omega) (fun ha9 a1 a2 a3 a4 => ?_)
  rw [S1_8] at a1 a3 a4 ⊢
  refine z_pF (k := 14) (K_Md HG) (by decide) (P_Md_35 HG) rfl rfl rfl d_Md_init_73 ((a4 q (by omega)).trans O_8) rfl rfl (Nat.le_of_ble_eq_true rfl) (fun hb9 b1 b2 b3 b4 => ?_)
  have S1_9 : hb9.1 = q + 10 := b1.trans a1
  have S2_9 : hb9.2.1 = h.2.1 + 132 := by omega
  have O_9 : hb9.2.2 q = some (.inr (6, [.int 0, .ref (q + 1), .ref (q + 2), .int 0, .ref (q + 3), .int 0, .int 0, .ref (q + 4), .int 0, .ref (q + 5), .int 0, .ref (q + 6), .ref (q + 7), .ref (q + 8), .ref (q + 9), .null])) := b3
  have K_9 : ∀ j, 1 ≤ j → j ≤ 9 → hb9.2.2 (q + j) = some (md_c G q (fun _ => 0) (fun _ _ => nI 0) j) := fun j j1 j2 => by
    by_cases e : j = 9
    · subst e
      exact (b4 _ (by omega)).trans a3
    · exact (b4 _ (by omega)).trans ((a4 _ (by omega)).trans (K_8 j j1 (by omega)))
  have F_9 : ∀ y, y < q ∨ q + 9 < y → hb9.2.2 y = h.2.2 y := fun y hy => (b4 _ (by omega)).trans ((a4 _ (by omega)).trans (F_8 y (by omega)))
  clear a1 a2 a3 a4 b1 b2 b3 b4
  refine z_aload_n d_Md_init_76 rfl rfl ?_
  refine z_iconst (v := nI 4) d_Md_init_77 (by decide) ?_
  refine z_nwa (N := 4) HG d_Md_init_78 (by omega) (by omega) (by omega) (fun ha10 a1 a2 a3 a4 => ?_)
  rw [S1_9] at a1 a3 a4 ⊢
  refine z_pF (k := 15) (K_Md HG) (by decide) (P_Md_38 HG) rfl rfl rfl d_Md_init_80 ((a4 q (by omega)).trans O_9) rfl rfl (Nat.le_of_ble_eq_true rfl) (fun hb10 b1 b2 b3 b4 => ?_)
  have S1_10 : hb10.1 = q + 11 := b1.trans a1
  have S2_10 : hb10.2.1 = h.2.1 + 136 := by omega
  have O_10 : hb10.2.2 q = some (.inr (6, [.int 0, .ref (q + 1), .ref (q + 2), .int 0, .ref (q + 3), .int 0, .int 0, .ref (q + 4), .int 0, .ref (q + 5), .int 0, .ref (q + 6), .ref (q + 7), .ref (q + 8), .ref (q + 9), .ref (q + 10)])) := b3
  have K_10 : ∀ j, 1 ≤ j → j ≤ 10 → hb10.2.2 (q + j) = some (md_c G q (fun _ => 0) (fun _ _ => nI 0) j) := fun j j1 j2 => by
    by_cases e : j = 10
    · subst e
      exact (b4 _ (by omega)).trans a3
    · exact (b4 _ (by omega)).trans ((a4 _ (by omega)).trans (K_9 j j1 (by omega)))
  have F_10 : ∀ y, y < q ∨ q + 10 < y → hb10.2.2 y = h.2.2 y := fun y hy => (b4 _ (by omega)).trans ((a4 _ (by omega)).trans (F_9 y (by omega)))
  clear a1 a2 a3 a4 b1 b2 b3 b4
  exact kk hb10 S1_10 S2_10 O_10 K_10 F_10
theorem c_Md_init (HG : z_ok G) (ho : h.2.2 q = some k_md0) (h1 : h.1 = q + 1) (hc : h.1 + 10 ≤ G.b0 + G.cc) (hs : h.2.1 + 1921 ≤ G.ss) : z_C G m_Md_init d [.ref q] h (z_pq none (fun h' => h'.1 = q + 11 ∧ h'.2.1 = h.2.1 + 1921 ∧ mdAt G h' q (fun _ => 0) (fun _ _ => nI 0) ∧ ∀ y, y < q ∨ q + 10 < y → h'.2.2 y = h.2.2 y)) := by
  refine z_C.of (Nat.le_of_ble_eq_true rfl) ?_
  refine z_aload_n d_Md_init_0 rfl rfl ?_
  refine z_oinit d_Md_init_1 (w_o_Md HG) (w_oi1 HG) (w_oi2 HG) (Nat.le_of_ble_eq_true rfl) ?_
  refine z_fg [(0, .ref q)] ⟨rfl, trivial⟩ ?_
  refine l_mdA HG ho h1 (by omega) (by omega) (fun j j1 j2 => absurd j1 (by omega)) (fun hA a1 a2 a3 a4 aF => ?_)
  refine l_mdB HG a3 a1 (by omega) (by omega) a4 (fun hB b1 b2 b3 b4 bF => ?_)
  refine z_return d_Md_init_83 rfl ⟨rfl, b1, by omega, fun k hk => ?_, fun y hy => (bF y (by omega)).trans (aF y (by omega))⟩
  by_cases e : k = 0
  · subst e
    exact b3
  · exact b4 k (by omega) hk
end MJ
