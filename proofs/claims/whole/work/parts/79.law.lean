/-! the law's loop -/
section LL
variable {G : z_G} {d o : Nat} {Q : z_R → z_H → Prop}
theorem l_in {L i : Nat} (h : i + 4 ≤ L) (hL : L ≤ 2048) : ¬ nI L - nI 4 < nI i := by
  rw [pk_sub (by omega), nI_ltI (by omega) (by omega)]
  omega
theorem l_end {L i : Nat} (h : ¬ i + 4 ≤ L) (hL : L ≤ 2048) (hi : i ≤ 4096) : nI L - nI 4 < nI i := by
  by_cases h4 : 4 ≤ L
  · rw [pk_sub h4, nI_ltI (by omega) (by omega)]
    omega
  · exact Int32.lt_of_lt_of_le (nI_sn (by omega) (by omega)) (Int32.not_lt.mp (nI_pos (by omega)))
theorem l_law (HG : z_ok G) (hL : G.x.2.1 ≤ 2048) (hQ : ∀ h', Q (.inl (some (.int (nI 1)))) h') : ∀ (c i : Nat) (h : z_H) (K : pK), G.x.2.1 < i + 4 * c + 4 → i ≤ 2048 → LI G o c h K → z_V G m_Lw_law (d + 8) 23 (lw_lo G o i) [] h Q := by
  have out : ∀ (i : Nat) (h : z_H), ¬ i + 4 ≤ G.x.2.1 → i ≤ 2048 → z_V G m_Lw_law (d + 8) 23 (lw_lo G o i) [] h Q := by
    intro i h hi hi2
    refine z_iload d_Lw_law_23 rfl ?_
    refine z_aload_n d_Lw_law_25 rfl rfl ?_
    refine z_slen d_Lw_law_26 ?_
    refine z_iconst (v := nI 4) d_Lw_law_27 (by decide) ?_
    refine z_isub d_Lw_law_28 ?_
    refine z_icmp_gt (tgt := 805) d_Lw_law_29 rfl (fun c1 => ?_) (fun c1 => absurd (l_end hi hL (by omega)) c1)
    refine z_iconst (v := nI 1) d_Lw_law_805 (by decide) ?_
    exact z_ireturn d_Lw_law_806 rfl rfl (hQ _)
  intro c
  induction c with
  | zero =>
    intro i h K hc hi I
    exact out i h (by omega) hi
  | succ c ih =>
    intro i h K hc hi I
    by_cases hx : i + 4 ≤ G.x.2.1
    case neg => exact out i h hx hi
    case pos =>
      have kk : ∀ h' K', LI G o c h' K' → z_V G m_Lw_law (d + 8) 799 (lw_lo G o i) [] h' Q := by
        intro h' K' I'
        refine z_iinc (v := nI (i + 4)) d_Lw_law_799 rfl (by rw [show Int32.ofInt 4 = nI 4 by decide]; exact nI_add i 4) (by decide) ?_
        refine z_goto (tgt := 23) d_Lw_law_802 rfl ?_
        refine z_fg (lw_lo G o (i + 4)) ⟨rfl, rfl, rfl, rfl, rfl, trivial⟩ ?_
        exact ih (i + 4) h' K' (by omega) (by omega) I'
      refine z_iload d_Lw_law_23 rfl ?_
      refine z_aload_n d_Lw_law_25 rfl rfl ?_
      refine z_slen d_Lw_law_26 ?_
      refine z_iconst (v := nI 4) d_Lw_law_27 (by decide) ?_
      refine z_isub d_Lw_law_28 ?_
      refine z_icmp_gt (tgt := 805) d_Lw_law_29 rfl (fun c1 => absurd c1 (l_in hx hL)) (fun c1 => ?_)
      refine z_aload_n d_Lw_law_32 rfl rfl ?_
      refine z_iload d_Lw_law_33 rfl ?_
      refine z_sld d_Lw_law_35 (pk_in i _ (by omega)) ?_
      refine z_bipush (v := nI 31) d_Lw_law_36 (by decide +kernel) ?_
      refine z_iand d_Lw_law_38 ?_
      refine z_eqi (pk_and _ 5 (by decide)) ?_
      have hw : (G.x.2.2 (nI i).toNatClampNeg).toBitVec.toNat % 2 ^ 5 < 32 := Nat.mod_lt _ (by decide)
      generalize (G.x.2.2 (nI i).toNatClampNeg).toBitVec.toNat % 2 ^ 5 = w at hw ⊢
      have hw2 : w = 0 ∨ w = 1 ∨ w = 2 ∨ w = 3 ∨ w = 4 ∨ w = 5 ∨ w = 6 ∨ w = 7 ∨ w = 8 ∨ w = 9 ∨ w = 10 ∨ w = 11 ∨ w = 12 ∨ w = 13 ∨ w = 14 ∨ w = 15 ∨ w = 16 ∨ w = 17 ∨ w = 18 ∨ 19 ≤ w := by omega
      rcases hw2 with rfl | rfl | rfl | rfl | rfl | rfl | rfl | rfl | rfl | rfl | rfl | rfl | rfl | rfl | rfl | rfl | rfl | rfl | rfl | hw2
      · refine z_tableIn (tgt := 128) (off := 89) d_Lw_law_39 (by decide) (by decide) rfl rfl ?_
        exact lc_sort HG I hx hL kk
      · refine z_tableIn (tgt := 152) (off := 113) d_Lw_law_39 (by decide) (by decide) rfl rfl ?_
        exact lc_constant HG I hx hL kk
      · refine z_tableIn (tgt := 188) (off := 149) d_Lw_law_39 (by decide) (by decide) rfl rfl ?_
        exact lc_variable HG I hx hL kk
      · refine z_tableIn (tgt := 224) (off := 185) d_Lw_law_39 (by decide) (by decide) rfl rfl ?_
        exact lc_apply HG I hx hL kk
      · refine z_tableIn (tgt := 248) (off := 209) d_Lw_law_39 (by decide) (by decide) rfl rfl ?_
        exact lc_assume HG I hx hL kk
      · refine z_tableIn (tgt := 272) (off := 233) d_Lw_law_39 (by decide) (by decide) rfl rfl ?_
        exact lc_lambda HG I hx hL kk
      · refine z_tableIn (tgt := 296) (off := 257) d_Lw_law_39 (by decide) (by decide) rfl rfl ?_
        exact lc_product HG I hx hL kk
      · refine z_tableIn (tgt := 320) (off := 281) d_Lw_law_39 (by decide) (by decide) rfl rfl ?_
        exact lc_declare HG I hx hL kk
      · refine z_tableIn (tgt := 392) (off := 353) d_Lw_law_39 (by decide) (by decide) rfl rfl ?_
        exact lc_rule HG I hx hL kk
      · refine z_tableIn (tgt := 436) (off := 397) d_Lw_law_39 (by decide) (by decide) rfl rfl ?_
        exact lc_normal HG I hx hL kk
      · refine z_tableIn (tgt := 480) (off := 441) d_Lw_law_39 (by decide) (by decide) rfl rfl ?_
        exact lc_same HG I hx hL kk
      · refine z_tableIn (tgt := 531) (off := 492) d_Lw_law_39 (by decide) (by decide) rfl rfl ?_
        exact lc_drop HG I hx hL kk
      · refine z_tableIn (tgt := 544) (off := 505) d_Lw_law_39 (by decide) (by decide) rfl rfl ?_
        exact lc_leave HG I hx hL kk
      · refine z_tableIn (tgt := 557) (off := 518) d_Lw_law_39 (by decide) (by decide) rfl rfl ?_
        exact lc_counts HG I hx hL kk
      · refine z_tableIn (tgt := 570) (off := 531) d_Lw_law_39 (by decide) (by decide) rfl rfl ?_
        exact lc_judgement HG I hx hL kk
      · refine z_tableIn (tgt := 635) (off := 596) d_Lw_law_39 (by decide) (by decide) rfl rfl ?_
        exact lc_made HG I hx hL kk
      · refine z_tableIn (tgt := 660) (off := 621) d_Lw_law_39 (by decide) (by decide) rfl rfl ?_
        exact lc_entry HG I hx hL kk
      · refine z_tableIn (tgt := 697) (off := 658) d_Lw_law_39 (by decide) (by decide) rfl rfl ?_
        exact lc_type HG I hx hL kk
      · refine z_tableIn (tgt := 734) (off := 695) d_Lw_law_39 (by decide) (by decide) rfl rfl ?_
        exact lc_side HG I hx hL kk
      · refine z_tableOut (tgt := 799) d_Lw_law_39 (Or.inr (by rw [nI_toInt (by omega)]; omega)) rfl ?_
        exact kk h K I.less
theorem v_law (HG : z_ok G) {h : z_H} (hL : G.x.2.1 ≤ 2048) (hc : h.1 + 650 ≤ G.b0 + G.cc) (hs : h.2.1 + 7200 ≤ G.ss) (hQ : ∀ h', Q (.inl (some (.int (nI 1)))) h') : z_V G m_Lw_law (d + 8) 0 [(0, .ref G.x.1)] [] h Q := by
  refine z_newo (fs := [.null, .int 0, .null, .int 0, .null, .null, .int 0, .null, .null, .null, .null, .null]) (K_TK HG) d_Lw_law_0 (w_c_Lw_8 HG) (w_i_TK HG) (w_n_TK HG) (by decide) (by omega) (by omega) ?_
  have g0 : (z_new h 12 k_tk0).2.2 h.1 = some k_tk0 := va_up_self _ _ _
  have g3 : (z_new h 12 k_tk0).1 = h.1 + 1 := rfl
  have g4 : (z_new h 12 k_tk0).2.1 = h.2.1 + 12 := rfl
  show z_V G m_Lw_law (d + 8) 3 _ _ (z_new h 12 k_tk0) _
  generalize z_new h 12 k_tk0 = hA at g0 g3 g4 ⊢
  refine z_dup d_Lw_law_3 rfl ?_
  refine z_callI (dY := d + 7) d_Lw_law_4 rfl (by omega) (Y_Lw_56 HG) (Nat.le_of_ble_eq_true rfl) ((c_TK_init (d := d) HG g0 g3 (by omega) (by omega)).deep (by omega)) (fun v hB qq => ?_) (fun X hB qq => by obtain ⟨q1, -⟩ := qq; cases q1)
  obtain ⟨q1, b1, b2, bK, bF⟩ := qq
  cases q1
  refine z_astore_n d_Lw_law_7 rfl (by decide) ?_
  refine z_newo (fs := [.int 0, .null, .null, .int 0, .null, .int 0, .int 0, .null, .int 0, .null, .int 0, .null, .null, .null, .null, .null]) (K_Md HG) d_Lw_law_8 (w_c_Lw_57 HG) (w_i_Md HG) (w_n_Md HG) (by decide) (by omega) (by omega) ?_
  have m0 : (z_new hB 16 k_md0).2.2 (h.1 + 118) = some k_md0 := by
    show va_up hB.2.2 hB.1 _ (h.1 + 118) = _
    rw [b1]
    exact va_up_self _ _ _
  have m2 : ∀ y, y ≠ h.1 + 118 → (z_new hB 16 k_md0).2.2 y = hB.2.2 y := fun y hy => va_up_ne _ _ (by omega)
  have m3 : (z_new hB 16 k_md0).1 = h.1 + 118 + 1 := by
    show hB.1 + 1 = _
    omega
  have m4 : (z_new hB 16 k_md0).2.1 = hB.2.1 + 16 := rfl
  rw [b1]
  show z_V G m_Lw_law (d + 8) 11 _ _ (z_new hB 16 k_md0) _
  generalize z_new hB 16 k_md0 = hC at m0 m2 m3 m4 ⊢
  refine z_dup d_Lw_law_11 rfl ?_
  refine z_callI (dY := d + 7) d_Lw_law_12 rfl (by omega) (Y_Lw_59 HG) (Nat.le_of_ble_eq_true rfl) ((c_Md_init (d := d) HG m0 m3 (by omega) (by omega)).deep (by omega)) (fun v hD qq => ?_) (fun X hD qq => by obtain ⟨q1, -⟩ := qq; cases q1)
  obtain ⟨q1, e1, e2, eM, eF⟩ := qq
  cases q1
  refine z_astore_n d_Lw_law_15 rfl (by decide) ?_
  refine z_iconst (v := nI 1) d_Lw_law_16 (by decide) ?_
  refine z_nwl (N := 1) HG d_Lw_law_17 (by omega) (by omega) (by omega) (fun hE f1 f2 f3 f4 => ?_)
  rw [e1] at f1 f3 f4 ⊢
  refine z_astore_n d_Lw_law_19 rfl (by decide) ?_
  refine z_iconst (v := nI 0) d_Lw_law_20 (by decide) ?_
  refine z_istore d_Lw_law_21 (by decide) ?_
  refine z_fg (lw_lo G h.1 0) ⟨rfl, rfl, rfl, rfl, rfl, trivial⟩ ?_
  refine l_law HG hL hQ 512 0 hE ([], [], [], []) (by omega) (by omega) ⟨bK.keep (fun y hy => (f4 y (by omega)).trans ((eF y (by omega)).trans (m2 y (by omega)))), pok.zero, ⟨_, _, eM.keep (fun y hy => f4 y (by omega)), mK.zero⟩, ⟨_, f3⟩, by omega, by omega⟩
end LL
