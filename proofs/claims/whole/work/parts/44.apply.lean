/-! apply -/
theorem p_wf_body {n : Nat} {l a : List Nat} (h : p_wf n [0] l) (h4 : l.getD 0 0 = 4) (ha : p_wf n [0] a) : p_wf n [0] (p_put a [0] (l.drop (1 + p_end 1 (l.drop 1)))) := by
  cases l with
  | nil => cases h4
  | cons v l =>
    have hv : v = 4 := h4
    subst hv
    have h2 : p_wf n ([0] ++ [1]) l := h.2
    have h3 := (p_wf_split h2).2
    have e : (4 :: l).drop (1 + p_end 1 ((4 :: l).drop 1)) = l.drop (p_end ([0] : List Nat).length l) := by
      rw [Nat.add_comm]
      rfl
    rw [e]
    exact p_wf_put ha (p_wf_sh1.mp h3)
theorem p_wf_pos {n : Nat} {l : List Nat} (h : p_wf n [0] l) : 1 ≤ l.length := by
  cases l with
  | nil => exact absurd h (by simp [p_wf])
  | cons v l => simp
section KA
variable {G : z_G} {h : z_H} {d o : Nat} {K : pK}
theorem KAt.kfr {h' : z_H} {r : Nat} (H : KAt G h o K) (hr : scR r) (k : k_fr (o + 5) (o + r) h h') (hs : k_sc G (o + 5) h') (hx : ∃ n f, rowAt G h' (o + r) n f) : KAt G h' o K := by
  obtain ⟨a1, a2, a3, a4, a5, a6, ⟨x, a7⟩, a8⟩ := H
  have hr' := hr
  unfold scR at hr'
  have kk : ∀ y, y < o + 12 ∨ o + 15 < y → y ≠ o + r → y ≠ o + r + 1 → h'.2.2 y = h.2.2 y := fun y y1 y2 y3 => k.2.2 y (by omega) y2 y3
  refine ⟨a1.keep (fun y hy => kk y (by omega) (by omega) (by omega)), (kk o (by omega) (by omega) (by omega)).trans a2, a3.keep (fun y hy => kk y (by omega) (by omega) (by omega)), a4.keep (fun y hy => kk y (by omega) (by omega) (by omega)), a5.keep (kk _ (by omega) (by omega) (by omega)) (fun y hy => kk y (by omega) (by omega) (by omega)), ?_, ⟨x, a7.kfr (show k_out (o + 5) (o + r) by unfold k_out; omega) k hs⟩, a8.keep (fun y hy => kk y (by omega) (by omega) (by omega))⟩
  intro r2 hr2
  by_cases e : r2 = r
  · subst e
    obtain ⟨n, f, hx⟩ := hx
    exact ⟨n, f, hx, fun l e => by cases e⟩
  · have hr2' := hr2
    unfold scR at hr2'
    exact (a6 r2 hr2).keep (kk _ (by omega) (by omega) (by omega)) (kk _ (by omega) (by omega) (by omega))
theorem k_fr.ft {h' : z_H} {r : Nat} (hr : scR r) (k : k_fr (o + 5) (o + r) h h') : k_ft o h h' := by
  unfold scR at hr
  exact ⟨k.1, k.2.1, fun y hy => k.2.2 y (by omega) (by omega) (by omega)⟩
def k_apply (K : pK) : String ⊕ (Option Value × pK) := match K.1 with
  | A :: F :: js => if A.1 = K.2.1.length ∧ F.1 = K.2.1.length then (match p_norm K.2.2.2 51 F.2.2 with
      | none => .inl z_AE
      | some zf => if zf.2.getD 0 0 = 4 then (match p_norm K.2.2.2 51 A.2.2 with
          | none => .inl z_AE
          | some za => if za.2 = (zf.2.drop 1).take (p_end 1 (zf.2.drop 1)) then
              (if 1 + F.2.1.length + A.2.1.length ≤ 40 ∧ (p_put A.2.1 [0] (zf.2.drop (1 + p_end 1 (zf.2.drop 1)))).length ≤ 40 then .inr (none, ((K.2.1.length, 2 :: (F.2.1 ++ A.2.1), p_put A.2.1 [0] (zf.2.drop (1 + p_end 1 (zf.2.drop 1)))) :: js, K.2)) else .inl z_AE)
              else .inl z_IAE) else .inl z_IAE) else .inl z_ISE
  | _ => .inl z_ISE
theorem c_TK_apply (HG : z_ok G) (hrm : z_rm G h) (H : KAt G h o K) (P : pok K) : z_C G m_TK_apply (d + 6) [.ref o] h (tk_post G o K h (k_apply K)) := by
  obtain ⟨l1, l2, l3⟩ := H.len
  have hP4 := pok.e4 H P
  refine z_C.of (Nat.le_of_ble_eq_true rfl) ?_
  refine z_aload_n d_TK_apply_0 rfl rfl ?_
  refine z_iconst (v := nI 0) d_TK_apply_1 (by decide) ?_
  refine z_callVg (as := [.int (nI 0)]) (dY := d + 2) d_TK_apply_2 rfl (by omega) (Y_TK_99 HG) rfl H.2.1 (cl_TK HG) (Nat.le_of_ble_eq_true rfl) (c_TK_present HG hrm H.2.1 H.1 H.2.2.1 hP4 l2 (k := 0) (by omega)) (fun hc h' hh => ?_) (fun hc h' hh => ?_)
  · subst hh
    refine z_astore_n d_TK_apply_5 rfl (by decide) ?_
    refine z_aload_n d_TK_apply_6 rfl rfl ?_
    refine z_iconst (v := nI 1) d_TK_apply_7 (by decide) ?_
    refine z_callVg (as := [.int (nI 1)]) (dY := d + 2) d_TK_apply_8 rfl (by omega) (Y_TK_99 HG) rfl H.2.1 (cl_TK HG) (Nat.le_of_ble_eq_true rfl) (c_TK_present HG hrm H.2.1 H.1 H.2.2.1 hP4 l2 (k := 1) (by omega)) (fun hc1 h1 hh1 => ?_) (fun hc1 h1 hh1 => ?_)
    · subst hh1
      obtain ⟨js, cs, ks, Rs⟩ := K
      cases js with
      | nil =>
        obtain ⟨J, e, -⟩ := hc
        cases e
      | cons A js =>
        cases js with
        | nil =>
          obtain ⟨J, e, -⟩ := hc1
          cases e
        | cons F js =>
          have hcA : A.1 = cs.length := p_pres0.mp hc
          have hcF : F.1 = cs.length := by
            obtain ⟨J, e1, e2⟩ := hc1
            cases e1
            exact e2
          have l1' : js.length + 1 + 1 ≤ 6 := l1
          have l2' : cs.length ≤ 4 := l2
          have eK : k_apply (A :: F :: js, cs, ks, Rs) = if A.1 = cs.length ∧ F.1 = cs.length then (match p_norm Rs 51 F.2.2 with
            | none => .inl z_AE
            | some zf => if zf.2.getD 0 0 = 4 then (match p_norm Rs 51 A.2.2 with
              | none => .inl z_AE
              | some za => if za.2 = (zf.2.drop 1).take (p_end 1 (zf.2.drop 1)) then
                  (if 1 + F.2.1.length + A.2.1.length ≤ 40 ∧ (p_put A.2.1 [0] (zf.2.drop (1 + p_end 1 (zf.2.drop 1)))).length ≤ 40 then .inr (none, ((cs.length, 2 :: (F.2.1 ++ A.2.1), p_put A.2.1 [0] (zf.2.drop (1 + p_end 1 (zf.2.drop 1)))) :: js, cs, ks, Rs)) else .inl z_AE)
                  else .inl z_IAE) else .inl z_IAE) else .inl z_ISE := rfl
          rw [eK, if_pos ⟨hcA, hcF⟩]
          have hA : jdAt G h1 (k_ju o (js.length + 1)) (some A) := H.2.2.1.get (k := 0) (J := A) rfl
          have hF : jdAt G h1 (k_ju o js.length) (some F) := H.2.2.1.get (k := 1) (J := F) rfl
          have ho : h1.2.2 o = some (k_tk o (js.length + 1 + 1) cs.length ks.length) := H.2.1
          obtain ⟨pa1, pa2, pa3⟩ := P.1 A List.mem_cons_self
          obtain ⟨pb1, pb2, pb3⟩ := P.1 F (List.mem_cons_of_mem _ List.mem_cons_self)
          rw [hcA] at pa2 pa3
          rw [hcF] at pb2 pb3
          have hua : o + 64 ≤ k_ju o (js.length + 1) ∧ k_ju o (js.length + 1) + 4 ≤ o + 93 := by unfold k_ju; omega
          have hub : o + 64 ≤ k_ju o js.length ∧ k_ju o js.length + 4 ≤ o + 93 := by unfold k_ju; omega
          have huab : k_ju o js.length + 5 = k_ju o (js.length + 1) := by unfold k_ju; omega
          show z_V G m_TK_apply (d + 6) 11 ((1, .ref (k_ju o (js.length + 1))) :: _) (.ref (k_ju o js.length) :: []) h1 _
          obtain ⟨ff, rf, hlf⟩ := rowL.get hF.2.2
          obtain ⟨x0, HR⟩ := H.2.2.2.2.2.2.1
          obtain ⟨a, b, nb, fx, fb', g, fr', hab, hq, -⟩ := HR
          refine z_astore_n d_TK_apply_11 rfl (by decide) ?_
          refine z_aload_n d_TK_apply_12 rfl rfl ?_
          refine z_getf (L_TK_41K HG) (by decide) (L_TK_41 HG) d_TK_apply_13 ho (by rfl) ?_
          refine z_aload_n d_TK_apply_16 rfl rfl ?_
          refine z_getf (L_TK_71K HG) (by decide) (L_TK_71 HG) d_TK_apply_17 hF.ob (by rfl) ?_
          refine z_aload_n d_TK_apply_20 rfl rfl ?_
          refine z_getf (L_TK_46K HG) (by decide) (L_TK_46 HG) d_TK_apply_21 ho (by rfl) ?_
          cases hzf : p_norm Rs 51 F.2.2 with
          | none =>
            refine z_callV2x (dY := d + 5) d_TK_apply_24 rfl (by omega) (Y_TK_103 HG) hq (cl_Rw HG) (Nat.le_of_ble_eq_true rfl) (c_nmX HG hrm H P l2' (rr := 56) (by unfold scR; omega) (by omega) pb3 rf hlf hzf) (fun h2 hh2 => ?_)
            exact ⟨rfl, hh2⟩
          | some zf =>
            refine z_callV2q (dY := d + 5) d_TK_apply_24 rfl (by omega) (Y_TK_103 HG) hq (cl_Rw HG) (Nat.le_of_ble_eq_true rfl) (c_nm HG hrm H P l2' (rr := 56) (by unfold scR; omega) (by omega) pb3 rf hlf hzf) (fun h2 hh2 => ?_)
            obtain ⟨H2, kf2, ⟨f56, r56, hl56⟩, -⟩ := hh2
            obtain ⟨wf1, wf2, -⟩ := p_norm_wf P.2.2.2 pb3 hlf.len hzf
            have wpos := p_wf_pos wf1
            have hA2 : jdAt G h2 (k_ju o (js.length + 1)) (some A) := H2.2.2.1.get (k := 0) (J := A) rfl
            have ho2 : h2.2.2 o = some (k_tk o (js.length + 1 + 1) cs.length ks.length) := H2.2.1
            obtain ⟨fa2, ra2, hla2⟩ := rowL.get hA2.2.2
            obtain ⟨x02, HR2⟩ := H2.2.2.2.2.2.2.1
            obtain ⟨a2, b2, nb2, fx2, fb2, g2, fr2, hab2, hq2, -⟩ := HR2
            refine z_pop d_TK_apply_27 rfl ?_
            refine z_aload_n d_TK_apply_28 rfl rfl ?_
            refine z_getf (L_TK_46K HG) (by decide) (L_TK_46 HG) d_TK_apply_29 ho2 (by rfl) ?_
            refine z_iconst (v := nI 0) d_TK_apply_32 (by decide) ?_
            refine z_callV1r (dY := d) d_TK_apply_33 rfl (by omega) (Y_TK_107 HG) r56.1 (cl_Row HG) (Nat.le_of_ble_eq_true rfl) (c_Row_at HG r56 hl56.len (nI 0)) ?_
            rw [k_at_in f56 (by omega) hl56.len, hl56.eq (by omega)]
            have hv0 := hl56.lt (i := 0) (by omega)
            refine z_iconst (v := nI 4) d_TK_apply_36 (by decide) ?_
            simp only []
            refine z_icmp_eq (tgt := 48) d_TK_apply_37 rfl (fun c1 => ?_) (fun c1 => ?_)
            · rw [nI_eq (by omega) (by omega)] at c1
              rw [if_pos c1]
              refine z_aload_n d_TK_apply_48 rfl rfl ?_
              refine z_getf (L_TK_41K HG) (by decide) (L_TK_41 HG) d_TK_apply_49 ho2 (by rfl) ?_
              refine z_aload_n d_TK_apply_52 rfl rfl ?_
              refine z_getf (L_TK_71K HG) (by decide) (L_TK_71 HG) d_TK_apply_53 hA2.ob (by rfl) ?_
              refine z_aload_n d_TK_apply_56 rfl rfl ?_
              refine z_getf (L_TK_50K HG) (by decide) (L_TK_50 HG) d_TK_apply_57 ho2 (by rfl) ?_
              cases hza : p_norm Rs 51 A.2.2 with
              | none =>
                refine z_callV2x (dY := d + 5) d_TK_apply_60 rfl (by omega) (Y_TK_103 HG) hq2 (cl_Rw HG) (Nat.le_of_ble_eq_true rfl) (c_nmX HG (kf2.rm hrm) H2 P l2' (rr := 58) (by unfold scR; omega) (by omega) pa3 ra2 hla2 hza) (fun h3 hh3 => ?_)
                obtain ⟨h4, e4, H4, kf4⟩ := hh3
                exact ⟨rfl, h4, e4, H4, kf2.tr kf4⟩
              | some za =>
                refine z_callV2q (dY := d + 5) d_TK_apply_60 rfl (by omega) (Y_TK_103 HG) hq2 (cl_Rw HG) (Nat.le_of_ble_eq_true rfl) (c_nm HG (kf2.rm hrm) H2 P l2' (rr := 58) (by unfold scR; omega) (by omega) pa3 ra2 hla2 hza) (fun h3 hh3 => ?_)
                obtain ⟨H3, kf3, ⟨f58, r58, hl58⟩, kB⟩ := hh3
                have kf3 := kf2.tr kf3
                have ho3 : h3.2.2 o = some (k_tk o (js.length + 1 + 1) cs.length ks.length) := H3.2.1
                have r56' : rowAt G h3 (o + 56) zf.2.length f56 := ⟨(kB _ (by omega) (by omega) (by omega)).trans r56.1, (kB _ (by omega) (by omega) (by omega)).trans r56.2⟩
                have hbe : 1 + p_end 1 (zf.2.drop 1) ≤ zf.2.length := p_end_drop wpos
                refine z_pop d_TK_apply_63 rfl ?_
                refine z_aload_n d_TK_apply_64 rfl rfl ?_
                refine z_getf (L_TK_46K HG) (by decide) (L_TK_46 HG) d_TK_apply_65 ho3 (by rfl) ?_
                refine z_iconst (v := nI 1) d_TK_apply_68 (by decide) ?_
                refine z_callV1r (dY := d + 1) d_TK_apply_69 rfl (by omega) (Y_TK_114 HG) r56'.1 (cl_Row HG) (Nat.le_of_ble_eq_true rfl) (c_Row_endOf HG r56' hl56 (a := 1) wpos) ?_
                have wB := p_wf_body wf1 c1 pa2
                have eB : 1 + p_end 1 (zf.2.drop 1) - 1 = p_end 1 (zf.2.drop 1) := by omega
                have hge1 : 1 ≤ 1 + p_end 1 (zf.2.drop 1) := by omega
                generalize hbs : 1 + p_end 1 (zf.2.drop 1) = bs at hbe wB eB hge1 ⊢
                rw [← eB]
                refine z_istore_n d_TK_apply_72 rfl (by decide) ?_
                refine z_aload_n d_TK_apply_73 rfl rfl ?_
                refine z_getf (L_TK_50K HG) (by decide) (L_TK_50 HG) d_TK_apply_74 ho3 (by rfl) ?_
                refine z_aload_n d_TK_apply_77 rfl rfl ?_
                refine z_getf (L_TK_46K HG) (by decide) (L_TK_46 HG) d_TK_apply_78 ho3 (by rfl) ?_
                refine z_iconst (v := nI 1) d_TK_apply_81 (by decide) ?_
                refine z_iload_n d_TK_apply_82 rfl rfl ?_
                refine z_callV3r (dY := d + 1) d_TK_apply_83 rfl (by omega) (Y_TK_117 HG) r58.1 (cl_Row HG) (Nat.le_of_ble_eq_true rfl) (c_Row_isPart HG r58 hl58 r56' hl56 (a := 1) (b := bs) hge1 hbe) ?_
                simp only []
                by_cases hp : za.2 = (zf.2.drop 1).take (bs - 1)
                · rw [if_pos hp, if_pos hp]
                  refine z_if_ne (tgt := 97) d_TK_apply_86 rfl (fun c2 => ?_) (fun c2 => absurd c2 (by decide))
                  have hA3 : jdAt G h3 (k_ju o (js.length + 1)) (some A) := H3.2.2.1.get (k := 0) (J := A) rfl
                  have hF3 : jdAt G h3 (k_ju o js.length) (some F) := H3.2.2.1.get (k := 1) (J := F) rfl
                  obtain ⟨fta, rta, hlta⟩ := rowL.get hA3.2.1
                  obtain ⟨ftf, rtf, hltf⟩ := rowL.get hF3.2.1
                  obtain ⟨n60, f60, r60, -⟩ := H3.2.2.2.2.2.1 60 (by unfold scR; omega)
                  refine z_aload_n d_TK_apply_97 rfl rfl ?_
                  refine z_getf (L_TK_53K HG) (by decide) (L_TK_53 HG) d_TK_apply_98 ho3 (by rfl) ?_
                  refine z_iconst (v := nI 2) d_TK_apply_101 (by decide) ?_
                  refine z_aload_n d_TK_apply_102 rfl rfl ?_
                  refine z_getf (L_TK_64K HG) (by decide) (L_TK_64 HG) d_TK_apply_103 hF3.ob (by rfl) ?_
                  refine z_aload_n d_TK_apply_106 rfl rfl ?_
                  refine z_getf (L_TK_64K HG) (by decide) (L_TK_64 HG) d_TK_apply_107 hA3.ob (by rfl) ?_
                  refine z_callV3e (dY := d + 2) d_TK_apply_110 rfl (by omega) (Y_TK_121 HG) r60.1 (cl_Row HG) (Nat.le_of_ble_eq_true rfl) (c2_join HG (v := 2) (kf3.rm hrm) r60 rtf hltf rta hlta (by unfold k_ne; omega) (by unfold k_ne; omega)) (fun hc4 h4 hh4 => ?_) (fun hc4 h4 hh4 => ?_)
                  · have H4 : KAt G h4 o (A :: F :: js, cs, ks, Rs) := by
                      subst hh4
                      exact H3.sc (by unfold scR; omega)
                    have r60' : rowAt G h4 (o + 60) (2 :: (F.2.1 ++ A.2.1)).length (k_app f60 0 (2 :: (F.2.1 ++ A.2.1))) := by
                      subst hh4
                      rw [show (2 :: (F.2.1 ++ A.2.1)).length = 1 + F.2.1.length + A.2.1.length by simp; omega]
                      exact rset_at ..
                    have kf4 : k_ft o h1 h4 := by
                      subst hh4
                      exact kf3.tr (k_ft.rset (by omega))
                    have r56'' : rowAt G h4 (o + 56) zf.2.length f56 := by
                      subst hh4
                      exact rset_row _ _ r56' (by omega) (by omega) (by omega)
                    clear hh4
                    have ho4 : h4.2.2 o = some (k_tk o (js.length + 1 + 1) cs.length ks.length) := H4.2.1
                    obtain ⟨n62, f62, r62, -⟩ := H4.2.2.2.2.2.1 62 (by unfold scR; omega)
                    refine z_aload_n d_TK_apply_113 rfl rfl ?_
                    refine z_getf (L_TK_56K HG) (by decide) (L_TK_56 HG) d_TK_apply_114 ho4 (by rfl) ?_
                    refine z_callV0v (dY := d) d_TK_apply_117 rfl (by omega) (Y_TK_88 HG) r62.1 (cl_Row HG) (Nat.le_of_ble_eq_true rfl) (c_Row_clear HG r62) ?_
                    have H5 : KAt G (rset G h4 (o + 62) 0 f62) o (A :: F :: js, cs, ks, Rs) := H4.sc (by unfold scR; omega)
                    have r62' := rset_at G h4 (o + 62) 0 f62
                    have r60'' := rset_row (r := o + 62) 0 f62 r60' (by omega) (by omega) (by omega)
                    have r56c := rset_row (r := o + 62) 0 f62 r56'' (by omega) (by omega) (by omega)
                    have kf5 : k_ft o h1 (rset G h4 (o + 62) 0 f62) := kf4.tr (k_ft.rset (by omega))
                    generalize rset G h4 (o + 62) 0 f62 = h5 at H5 r62' r60'' r56c kf5 ⊢
                    have ho5 : h5.2.2 o = some (k_tk o (js.length + 1 + 1) cs.length ks.length) := H5.2.1
                    have hA5 : jdAt G h5 (k_ju o (js.length + 1)) (some A) := H5.2.2.1.get (k := 0) (J := A) rfl
                    obtain ⟨fta5, rta5, hlta5⟩ := rowL.get hA5.2.1
                    obtain ⟨x05, HR5⟩ := H5.2.2.2.2.2.2.1
                    obtain ⟨a5, b5, nb5, fx5, fb5, g5, fr5, hab5, hq5, -, -, -, hsc5, -⟩ := HR5
                    refine z_aload_n d_TK_apply_120 rfl rfl ?_
                    refine z_getf (L_TK_41K HG) (by decide) (L_TK_41 HG) d_TK_apply_121 ho5 (by rfl) ?_
                    refine z_aload_n d_TK_apply_124 rfl rfl ?_
                    refine z_getf (L_TK_64K HG) (by decide) (L_TK_64 HG) d_TK_apply_125 hA5.ob (by rfl) ?_
                    refine z_iconst (v := nI 0) d_TK_apply_128 (by decide) ?_
                    refine z_aload_n d_TK_apply_129 rfl rfl ?_
                    refine z_getf (L_TK_46K HG) (by decide) (L_TK_46 HG) d_TK_apply_130 ho5 (by rfl) ?_
                    refine z_iload_n d_TK_apply_133 rfl rfl ?_
                    refine z_aload_n d_TK_apply_134 rfl rfl ?_
                    refine z_getf (L_TK_56K HG) (by decide) (L_TK_56 HG) d_TK_apply_135 ho5 (by rfl) ?_
                    refine z_callV5e (dY := d + 2) d_TK_apply_138 rfl (by omega) (Y_TK_125 HG) hq5 (cl_Rw HG) (Nat.le_of_ble_eq_true rfl) (c2_put HG (kf5.rm hrm) hlta5 hl56 (a := 0) (b := bs) (show k_rr (o + 5) (o + 62) by unfold k_rr; omega) (show k_rr (o + 5) (k_ju o (js.length + 1) + 1) by unfold k_rr; omega) (show k_rr (o + 5) (o + 56) by unfold k_rr; omega) (by unfold k_ne; omega) (by unfold k_ne; omega) (by omega) hbe hq5 hsc5 rta5 r56c r62' (by omega)) (fun hc6 h6 hh6 => ?_) (fun hc6 h6 hh6 => ?_)
                    · rw [List.drop_zero, Nat.zero_add] at hc6 hh6
                      obtain ⟨kfr6, hsc6, r62c⟩ := hh6
                      rw [if_pos ⟨hc4, hc6⟩]
                      have H6 := H5.kfr (by unfold scR; omega) kfr6 hsc6 ⟨_, _, r62c⟩
                      have kf6 := kf5.tr (k_fr.ft (by unfold scR; omega) kfr6)
                      have r60c : rowAt G h6 (o + 60) (2 :: (F.2.1 ++ A.2.1)).length (k_app f60 0 (2 :: (F.2.1 ++ A.2.1))) := kfr6.row (by unfold k_rr; omega) (by unfold k_ne; omega) r60''
                      have hl60 := rl_join (f := f60) (v := 2) (by omega) hltf hlta hc4
                      have hl62 : rl (k_app f62 0 (p_put A.2.1 [0] (zf.2.drop bs))) (p_put A.2.1 [0] (zf.2.drop bs)) := p_wf_rl wB l2' hc6
                      generalize p_put A.2.1 [0] (zf.2.drop bs) = y at *
                      generalize 2 :: (F.2.1 ++ A.2.1) = t at *
                      have ho6 : h6.2.2 o = some (k_tk o (js.length + 1 + 1) cs.length ks.length) := H6.2.1
                      have hF6 : jdAt G h6 (k_ju o js.length) (some F) := H6.2.2.1.get (k := 1) (J := F) rfl
                      have hgen := fun (h' : z_H) (J' : pJ) => KAt.gen (h' := h') (J := J') H6 H6.2.2.1.pop.pop (by omega) H6.2.2.2.1
                      generalize k_ju o js.length = u at *
                      obtain ⟨ft6, rt6, -⟩ := rowL.get hF6.2.1
                      obtain ⟨fy6, ry6, -⟩ := rowL.get hF6.2.2
                      refine z_aload_n d_TK_apply_141 rfl rfl ?_
                      refine z_getf (L_TK_64K HG) (by decide) (L_TK_64 HG) d_TK_apply_142 hF6.ob (by rfl) ?_
                      refine z_aload_n d_TK_apply_145 rfl rfl ?_
                      refine z_getf (L_TK_53K HG) (by decide) (L_TK_53 HG) d_TK_apply_146 ho6 (by rfl) ?_
                      refine z_callV1v (dY := d) d_TK_apply_149 rfl (by omega) (Y_TK_81 HG) rt6.1 (cl_Row HG) (Nat.le_of_ble_eq_true rfl) (c_Row_copy HG rt6 r60c hl60 (by omega) (by omega) (by omega)) ?_
                      have r1c := rset_at G h6 (u + 1) t.length (k_app ft6 0 t)
                      have kC : ∀ y, y < u + 1 ∨ u + 2 < y → (rset G h6 (u + 1) t.length (k_app ft6 0 t)).2.2 y = h6.2.2 y := fun y hy => rset_out (by omega)
                      have kf7 : k_ft o h1 (rset G h6 (u + 1) t.length (k_app ft6 0 t)) := kf6.tr (k_ft.rset (by omega))
                      generalize rset G h6 (u + 1) t.length (k_app ft6 0 t) = h7 at r1c kC kf7 ⊢
                      have ry7 : rowAt G h7 (u + 3) F.2.2.length fy6 := ⟨(kC _ (by omega)).trans ry6.1, (kC _ (by omega)).trans ry6.2⟩
                      have r62d : rowAt G h7 (o + 62) y.length (k_app f62 0 y) := ⟨(kC _ (by omega)).trans r62c.1, (kC _ (by omega)).trans r62c.2⟩
                      refine z_aload_n d_TK_apply_152 rfl rfl ?_
                      refine z_getf (L_TK_71K HG) (by decide) (L_TK_71 HG) d_TK_apply_153 ((kC u (by omega)).trans hF6.ob) (by rfl) ?_
                      refine z_aload_n d_TK_apply_156 rfl rfl ?_
                      refine z_getf (L_TK_56K HG) (by decide) (L_TK_56 HG) d_TK_apply_157 ((kC o (by omega)).trans ho6) (by rfl) ?_
                      refine z_callV1v (dY := d) d_TK_apply_160 rfl (by omega) (Y_TK_81 HG) ry7.1 (cl_Row HG) (Nat.le_of_ble_eq_true rfl) (c_Row_copy HG ry7 r62d hl62 (by omega) (by omega) (by omega)) ?_
                      have r2c := rset_at G h7 (u + 3) y.length (k_app fy6 0 y)
                      have r1d := rset_row (r := u + 3) y.length (k_app fy6 0 y) r1c (by omega) (by omega) (by omega)
                      have kD : ∀ z, z < u + 1 ∨ u + 4 < z → (rset G h7 (u + 3) y.length (k_app fy6 0 y)).2.2 z = h6.2.2 z := fun z hz => (rset_out (by omega)).trans (kC z (by omega))
                      have kf8 : k_ft o h1 (rset G h7 (u + 3) y.length (k_app fy6 0 y)) := kf7.tr (k_ft.rset (by omega))
                      generalize rset G h7 (u + 3) y.length (k_app fy6 0 y) = h8 at r2c r1d kD kf8 ⊢
                      have ho8 := (kD o (by omega)).trans ho6
                      refine z_aload_n d_TK_apply_163 rfl rfl ?_
                      refine z_dup d_TK_apply_164 rfl ?_
                      refine z_getf (L_TK_15K HG) (by decide) (L_TK_15 HG) d_TK_apply_165 ho8 (by rfl) ?_
                      refine z_iconst (v := nI 1) d_TK_apply_168 (by decide) ?_
                      refine z_isub d_TK_apply_169 ?_
                      rw [pk_sub (by omega)]
                      refine z_putf (L_TK_15K HG) (by decide) (L_TK_15 HG) rfl d_TK_apply_170 ho8 rfl rfl (Nat.le_of_ble_eq_true rfl) ?_
                      refine z_return d_TK_apply_173 rfl ⟨rfl, hgen _ _ (fun z z1 z2 => (z_set_ne _ _ z1).trans (kD z (by omega))) (z_set_at ..) ⟨⟨cs.length, (z_set_ne _ _ (by omega)).trans ((kD u (by omega)).trans ?_), fun J e => by cases e; rfl⟩, rowL.mk (z_set_row _ r1d (by omega) (by omega)) (rl_copy hl60), rowL.mk (z_set_row _ r2c (by omega) (by omega)) (rl_copy hl62)⟩, kf8.tr (k_ft.set _ (by omega))⟩
                      rw [← hcF]
                      exact hF6.ob
                    · rw [List.drop_zero, Nat.zero_add] at hc6
                      rw [if_neg (fun hh => hc6 hh.2)]
                      obtain ⟨h7, e7, kfr7, hsc7, f7, r7⟩ := hh6
                      exact ⟨rfl, h7, e7, H5.kfr (by unfold scR; omega) kfr7 hsc7 ⟨_, _, r7⟩, kf5.tr (k_fr.ft (by unfold scR; omega) kfr7)⟩
                  · rw [if_neg (fun hh => hc4 hh.1)]
                    obtain ⟨f', hh4⟩ := hh4
                    exact ⟨rfl, _, hh4, H3.sc (by unfold scR; omega), kf3.tr (k_ft.rset (by omega))⟩
                · rw [if_neg hp, if_neg hp]
                  refine z_if_ne (tgt := 97) d_TK_apply_86 rfl (fun c2 => absurd nI_0 c2) (fun c2 => ?_)
                  exact z_throw d_TK_apply_89 d_TK_apply_92 d_TK_apply_93 d_TK_apply_96 rfl (by decide +kernel) (t_TK_111 HG) (kf3.rm hrm).1 (kf3.rm hrm).2 (by decide) ⟨rfl, h3, rfl, H3, kf3⟩
            · rw [nI_eq (by omega) (by omega)] at c1
              rw [if_neg c1]
              exact z_throw d_TK_apply_40 d_TK_apply_43 d_TK_apply_44 d_TK_apply_47 rfl (by decide +kernel) (t_TK_111 HG) (kf2.rm hrm).1 (kf2.rm hrm).2 (by decide) ⟨rfl, h2, rfl, H2, kf2⟩
    · have eK : k_apply K = .inl z_ISE := by
        obtain ⟨js, K2⟩ := K
        cases js with
        | nil => rfl
        | cons A js =>
          cases js with
          | nil => rfl
          | cons F js =>
            show (if A.1 = _ ∧ F.1 = _ then _ else _) = _
            rw [if_neg (fun hh => hc1 ⟨F, rfl, hh.2⟩)]
      rw [eK]
      exact ⟨rfl, h', hh1, H, k_ft.rf⟩
  · have eK : k_apply K = .inl z_ISE := by
      obtain ⟨js, K2⟩ := K
      cases js with
      | nil => rfl
      | cons A js =>
        cases js with
        | nil => rfl
        | cons F js =>
          show (if A.1 = _ ∧ F.1 = _ then _ else _) = _
          rw [if_neg (fun hh => hc ⟨A, rfl, hh.1⟩)]
    rw [eK]
    exact ⟨rfl, h, hh, H, k_ft.rf⟩
end KA
