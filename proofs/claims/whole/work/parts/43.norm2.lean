/-! normal, same -/
section KN
variable {G : z_G} {h : z_H} {d o : Nat} {K : pK}
theorem c_nm (HG : z_ok G) {n s rr : Nat} {fs : Nat → Int32} {x : List Nat} {z : Nat × List Nat} (hrm : z_rm G h) (H : KAt G h o K) (P : pok K) (hn : n ≤ 4) (hr : scR rr) (hso : o + 63 < s) (hw : p_wf n [0] x) (hs : rowAt G h s x.length fs) (hls : rl fs x) (hz : p_norm K.2.2.2 51 x = some z) :
    z_C G m_Rw_normalize (d + 5) [.ref (o + 5), .ref s, .ref (o + rr)] h (z_pq (some (.int (nI z.1))) (fun h' => KAt G h' o K ∧ k_ft o h h' ∧ (∃ f, rowAt G h' (o + rr) z.2.length f ∧ rl f z.2) ∧ ∀ y, y < o + 5 ∨ o + 15 < y → y ≠ o + rr → y ≠ o + rr + 1 → h'.2.2 y = h.2.2 y)) := by
  obtain ⟨n0, f0, r0, -⟩ := H.2.2.2.2.2.1 rr hr
  obtain ⟨x0, HR⟩ := H.2.2.2.2.2.2.1
  have hr' := hr
  unfold scR at hr'
  refine (c_Rw_normalize HG hn P.2.2.2 (show k_out (o + 5) (o + rr) by unfold k_out; omega) (show k_out (o + 5) s by unfold k_out; omega) hrm HR hw hs hls r0).mono (fun r h' hh => ?_)
  rw [hz] at hh
  obtain ⟨e1, x', h1, e2, e3, e4⟩ := hh
  rw [Nat.zero_add] at e1
  obtain ⟨w1, w2, w3⟩ := p_norm_wf P.2.2.2 hw hls.len hz
  have HK := (H.fq e4 e3).sc (n := z.2.length) (f := k_app f0 0 z.2) hr
  subst e2
  exact ⟨e1, HK, e4.ft.tr (k_ft.rset (by omega)), ⟨_, rset_at .., p_wf_rl w1 hn w2⟩, fun y y1 y2 y3 => (rset_ne G h1 _ _ y2 y3).trans (e4.2.2 y (by omega))⟩
theorem c_nmX (HG : z_ok G) {n s rr : Nat} {fs : Nat → Int32} {x : List Nat} (hrm : z_rm G h) (H : KAt G h o K) (P : pok K) (hn : n ≤ 4) (hr : scR rr) (hso : o + 63 < s) (hw : p_wf n [0] x) (hs : rowAt G h s x.length fs) (hls : rl fs x) (hz : p_norm K.2.2.2 51 x = none) :
    z_C G m_Rw_normalize (d + 5) [.ref (o + 5), .ref s, .ref (o + rr)] h (z_xq z_AE (fun h' => ∃ h1, h' = z_exc h1 ∧ KAt G h1 o K ∧ k_ft o h h1)) := by
  obtain ⟨n0, f0, r0, -⟩ := H.2.2.2.2.2.1 rr hr
  obtain ⟨x0, HR⟩ := H.2.2.2.2.2.2.1
  have hr' := hr
  unfold scR at hr'
  refine (c_Rw_normalize HG hn P.2.2.2 (show k_out (o + 5) (o + rr) by unfold k_out; omega) (show k_out (o + 5) s by unfold k_out; omega) hrm HR hw hs hls r0).mono (fun r h' hh => ?_)
  rw [hz] at hh
  obtain ⟨e1, x', h1, e2, e3, e4⟩ := hh
  exact ⟨e1, h1, e2, H.fq e4 e3, e4.ft⟩
def k_normal (K : pK) : String ⊕ (Option Value × pK) := match K.1 with
  | [] => .inl z_ISE
  | J :: js => match p_norm K.2.2.2 51 J.2.1 with
    | none => .inl z_AE
    | some z => .inr (some (.int (nI z.1)), ((J.1, z.2, J.2.2) :: js, K.2))
theorem c_TK_normal (HG : z_ok G) (hrm : z_rm G h) (H : KAt G h o K) (P : pok K) : z_C G m_TK_normal (d + 6) [.ref o] h (tk_post G o K h (k_normal K)) := by
  obtain ⟨l1, l2, l3⟩ := H.len
  refine z_C.of (Nat.le_of_ble_eq_true rfl) ?_
  refine z_aload_n d_TK_normal_0 rfl rfl ?_
  refine z_iconst (v := nI 0) d_TK_normal_1 (by decide) ?_
  refine z_callVg (as := [.int (nI 0)]) (dY := d + 1) d_TK_normal_2 rfl (by omega) (Y_TK_163 HG) rfl H.2.1 (cl_TK HG) (Nat.le_of_ble_eq_true rfl) (c_TK_needed HG hrm H.2.1 H.1 l1 (k := 0) (by omega)) (fun hc h' hh => ?_) (fun hc h' hh => ?_)
  · subst hh
    obtain ⟨js, cs, ks, Rs⟩ := K
    cases js with
    | nil => exact absurd hc (by simp)
    | cons J js =>
      have l1' : js.length + 1 ≤ 6 := l1
      have l2' : cs.length ≤ 4 := l2
      have eK : k_normal (J :: js, cs, ks, Rs) = match p_norm Rs 51 J.2.1 with
        | none => .inl z_AE
        | some z => .inr (some (.int (nI z.1)), ((J.1, z.2, J.2.2) :: js, cs, ks, Rs)) := rfl
      rw [eK]
      have hJ : jdAt G h' (k_ju o js.length) (some J) := H.2.2.1.get (k := 0) (J := J) rfl
      have ho : h'.2.2 o = some (k_tk o (js.length + 1) cs.length ks.length) := H.2.1
      obtain ⟨pj1, pj2, pj3⟩ := P.1 J List.mem_cons_self
      change J.1 ≤ cs.length at pj1
      have hu : o + 64 ≤ k_ju o js.length ∧ k_ju o js.length + 4 ≤ o + 93 := by unfold k_ju; omega
      show z_V G m_TK_normal (d + 6) 5 _ (.ref (k_ju o js.length) :: []) h' _
      obtain ⟨ft, rt, hlt⟩ := rowL.get hJ.2.1
      obtain ⟨fy, ry, hly⟩ := rowL.get hJ.2.2
      obtain ⟨x0, HR⟩ := H.2.2.2.2.2.2.1
      obtain ⟨a, b, nb, fx, fb, g, fr', hab, hq, -⟩ := HR
      refine z_astore_n d_TK_normal_5 rfl (by decide) ?_
      refine z_aload_n d_TK_normal_6 rfl rfl ?_
      refine z_getf (L_TK_41K HG) (by decide) (L_TK_41 HG) d_TK_normal_7 ho (by rfl) ?_
      refine z_aload_n d_TK_normal_10 rfl rfl ?_
      refine z_getf (L_TK_64K HG) (by decide) (L_TK_64 HG) d_TK_normal_11 hJ.ob (by rfl) ?_
      refine z_aload_n d_TK_normal_14 rfl rfl ?_
      refine z_getf (L_TK_53K HG) (by decide) (L_TK_53 HG) d_TK_normal_15 ho (by rfl) ?_
      cases hz : p_norm Rs 51 J.2.1 with
      | none =>
        refine z_callV2x (dY := d + 5) d_TK_normal_18 rfl (by omega) (Y_TK_103 HG) hq (cl_Rw HG) (Nat.le_of_ble_eq_true rfl) (c_nmX HG hrm H P (show J.1 ≤ 4 by omega) (rr := 60) (by unfold scR; omega) (by omega) pj2 rt hlt hz) (fun h1 hh1 => ?_)
        exact ⟨rfl, hh1⟩
      | some z =>
        refine z_callV2q (dY := d + 5) d_TK_normal_18 rfl (by omega) (Y_TK_103 HG) hq (cl_Rw HG) (Nat.le_of_ble_eq_true rfl) (c_nm HG hrm H P (show J.1 ≤ 4 by omega) (rr := 60) (by unfold scR; omega) (by omega) pj2 rt hlt hz) (fun h1 hh1 => ?_)
        obtain ⟨H1, kf1, ⟨f60, r60, hl60⟩, kA⟩ := hh1
        have hJ1 : jdAt G h1 (k_ju o js.length) (some J) := H1.2.2.1.get (k := 0) (J := J) rfl
        have ho1 : h1.2.2 o = some (k_tk o (js.length + 1) cs.length ks.length) := H1.2.1
        obtain ⟨ft1, rt1, hlt1⟩ := rowL.get hJ1.2.1
        obtain ⟨fy1, ry1, hly1⟩ := rowL.get hJ1.2.2
        refine z_istore_n d_TK_normal_21 rfl (by decide) ?_
        refine z_aload_n d_TK_normal_22 rfl rfl ?_
        refine z_getf (L_TK_64K HG) (by decide) (L_TK_64 HG) d_TK_normal_23 hJ1.ob (by rfl) ?_
        refine z_aload_n d_TK_normal_26 rfl rfl ?_
        refine z_getf (L_TK_53K HG) (by decide) (L_TK_53 HG) d_TK_normal_27 ho1 (by rfl) ?_
        refine z_callV1v (dY := d) d_TK_normal_30 rfl (by omega) (Y_TK_81 HG) rt1.1 (cl_Row HG) (Nat.le_of_ble_eq_true rfl) (c_Row_copy HG rt1 r60 hl60 (by omega) (by omega) (by omega)) ?_
        refine z_iload_n d_TK_normal_33 rfl rfl ?_
        exact z_ireturn d_TK_normal_34 rfl rfl ⟨rfl, KAt.gen H1 H1.2.2.1.pop (by omega) H1.2.2.2.1 (fun y y1 y2 => rset_out (by omega)) ((rset_out (by omega)).trans ho1) ⟨⟨_, (rset_out (by omega)).trans hJ1.ob, fun J e => by cases e; rfl⟩, rowL.mk (rset_at ..) (rl_copy hl60), rowL.mk (rset_row _ _ ry1 (by omega) (by omega) (by omega)) hly1⟩, kf1.tr (k_ft.rset (by omega))⟩
  · have eK : k_normal K = .inl z_ISE := by
      obtain ⟨js, K2⟩ := K
      cases js with
      | nil => rfl
      | cons J js => exact absurd (Nat.succ_pos _) hc
    rw [eK]
    exact ⟨rfl, h, hh, H, k_ft.rf⟩
def k_same (K : pK) : String ⊕ (Option Value × pK) := match K.1 with
  | A :: B :: _ => if A.1 = B.1 then (match p_norm K.2.2.2 51 B.2.1 with
      | none => .inl z_AE
      | some zb => match p_norm K.2.2.2 51 A.2.1 with
        | none => .inl z_AE
        | some za => .inr (some (.int (if za.2 = zb.2 then nI 1 else nI 0)), K)) else .inl z_ISE
  | _ => .inl z_ISE
theorem c_TK_same (HG : z_ok G) (hrm : z_rm G h) (H : KAt G h o K) (P : pok K) : z_C G m_TK_same (d + 6) [.ref o] h (tk_post G o K h (k_same K)) := by
  obtain ⟨l1, l2, l3⟩ := H.len
  refine z_C.of (Nat.le_of_ble_eq_true rfl) ?_
  refine z_aload_n d_TK_same_0 rfl rfl ?_
  refine z_iconst (v := nI 0) d_TK_same_1 (by decide) ?_
  refine z_callVg (as := [.int (nI 0)]) (dY := d + 1) d_TK_same_2 rfl (by omega) (Y_TK_163 HG) rfl H.2.1 (cl_TK HG) (Nat.le_of_ble_eq_true rfl) (c_TK_needed HG hrm H.2.1 H.1 l1 (k := 0) (by omega)) (fun hc h' hh => ?_) (fun hc h' hh => ?_)
  · subst hh
    refine z_astore_n d_TK_same_5 rfl (by decide) ?_
    refine z_aload_n d_TK_same_6 rfl rfl ?_
    refine z_iconst (v := nI 1) d_TK_same_7 (by decide) ?_
    refine z_callVg (as := [.int (nI 1)]) (dY := d + 1) d_TK_same_8 rfl (by omega) (Y_TK_163 HG) rfl H.2.1 (cl_TK HG) (Nat.le_of_ble_eq_true rfl) (c_TK_needed HG hrm H.2.1 H.1 l1 (k := 1) (by omega)) (fun hc1 h1 hh1 => ?_) (fun hc1 h1 hh1 => ?_)
    · subst hh1
      obtain ⟨js, cs, ks, Rs⟩ := K
      cases js with
      | nil => exact absurd hc (by simp)
      | cons A js =>
        cases js with
        | nil => exact absurd hc1 (by simp)
        | cons B js =>
          have l1' : js.length + 1 + 1 ≤ 6 := l1
          have l2' : cs.length ≤ 4 := l2
          have eK : k_same (A :: B :: js, cs, ks, Rs) = if A.1 = B.1 then (match p_norm Rs 51 B.2.1 with
            | none => .inl z_AE
            | some zb => match p_norm Rs 51 A.2.1 with
              | none => .inl z_AE
              | some za => .inr (some (.int (if za.2 = zb.2 then nI 1 else nI 0)), (A :: B :: js, cs, ks, Rs))) else .inl z_ISE := rfl
          rw [eK]
          have hA : jdAt G h1 (k_ju o (js.length + 1)) (some A) := H.2.2.1.get (k := 0) (J := A) rfl
          have hB : jdAt G h1 (k_ju o js.length) (some B) := H.2.2.1.get (k := 1) (J := B) rfl
          have ho : h1.2.2 o = some (k_tk o (js.length + 1 + 1) cs.length ks.length) := H.2.1
          obtain ⟨pa1, pa2, pa3⟩ := P.1 A List.mem_cons_self
          obtain ⟨pb1, pb2, pb3⟩ := P.1 B (List.mem_cons_of_mem _ List.mem_cons_self)
          change A.1 ≤ cs.length at pa1
          change B.1 ≤ cs.length at pb1
          have hua : o + 64 ≤ k_ju o (js.length + 1) ∧ k_ju o (js.length + 1) + 4 ≤ o + 93 := by unfold k_ju; omega
          have hub : o + 64 ≤ k_ju o js.length ∧ k_ju o js.length + 4 ≤ o + 93 := by unfold k_ju; omega
          show z_V G m_TK_same (d + 6) 11 ((1, .ref (k_ju o (js.length + 1))) :: _) (.ref (k_ju o js.length) :: []) h1 _
          obtain ⟨fa, ra, hla⟩ := rowL.get hA.2.1
          obtain ⟨fb, rb, hlb⟩ := rowL.get hB.2.1
          obtain ⟨x0, HR⟩ := H.2.2.2.2.2.2.1
          obtain ⟨a, b, nb, fx, fb', g, fr', hab, hq, -⟩ := HR
          refine z_astore_n d_TK_same_11 rfl (by decide) ?_
          refine z_aload_n d_TK_same_12 rfl rfl ?_
          refine z_getf (L_TK_166K HG) (by decide) (L_TK_166 HG) d_TK_same_13 hA.ob (by rfl) ?_
          refine z_aload_n d_TK_same_16 rfl rfl ?_
          refine z_getf (L_TK_166K HG) (by decide) (L_TK_166 HG) d_TK_same_17 hB.ob (by rfl) ?_
          refine z_icmp_eq (tgt := 31) d_TK_same_20 rfl (fun c1 => ?_) (fun c1 => ?_)
          · rw [nI_eq (by omega) (by omega)] at c1
            rw [if_pos c1]
            refine z_aload_n d_TK_same_31 rfl rfl ?_
            refine z_getf (L_TK_41K HG) (by decide) (L_TK_41 HG) d_TK_same_32 ho (by rfl) ?_
            refine z_aload_n d_TK_same_35 rfl rfl ?_
            refine z_getf (L_TK_64K HG) (by decide) (L_TK_64 HG) d_TK_same_36 hB.ob (by rfl) ?_
            refine z_aload_n d_TK_same_39 rfl rfl ?_
            refine z_getf (L_TK_46K HG) (by decide) (L_TK_46 HG) d_TK_same_40 ho (by rfl) ?_
            cases hzb : p_norm Rs 51 B.2.1 with
            | none =>
              refine z_callV2x (dY := d + 5) d_TK_same_43 rfl (by omega) (Y_TK_103 HG) hq (cl_Rw HG) (Nat.le_of_ble_eq_true rfl) (c_nmX HG hrm H P (show B.1 ≤ 4 by omega) (rr := 56) (by unfold scR; omega) (by omega) pb2 rb hlb hzb) (fun h2 hh2 => ?_)
              exact ⟨rfl, hh2⟩
            | some zb =>
              refine z_callV2q (dY := d + 5) d_TK_same_43 rfl (by omega) (Y_TK_103 HG) hq (cl_Rw HG) (Nat.le_of_ble_eq_true rfl) (c_nm HG hrm H P (show B.1 ≤ 4 by omega) (rr := 56) (by unfold scR; omega) (by omega) pb2 rb hlb hzb) (fun h2 hh2 => ?_)
              obtain ⟨H2, kf2, ⟨f56, r56, hl56⟩, kA⟩ := hh2
              have hA2 : jdAt G h2 (k_ju o (js.length + 1)) (some A) := H2.2.2.1.get (k := 0) (J := A) rfl
              have ho2 : h2.2.2 o = some (k_tk o (js.length + 1 + 1) cs.length ks.length) := H2.2.1
              obtain ⟨fa2, ra2, hla2⟩ := rowL.get hA2.2.1
              obtain ⟨x02, HR2⟩ := H2.2.2.2.2.2.2.1
              obtain ⟨a2, b2, nb2, fx2, fb2, g2, fr2, hab2, hq2, -⟩ := HR2
              refine z_pop d_TK_same_46 rfl ?_
              refine z_aload_n d_TK_same_47 rfl rfl ?_
              refine z_getf (L_TK_41K HG) (by decide) (L_TK_41 HG) d_TK_same_48 ho2 (by rfl) ?_
              refine z_aload_n d_TK_same_51 rfl rfl ?_
              refine z_getf (L_TK_64K HG) (by decide) (L_TK_64 HG) d_TK_same_52 hA2.ob (by rfl) ?_
              refine z_aload_n d_TK_same_55 rfl rfl ?_
              refine z_getf (L_TK_50K HG) (by decide) (L_TK_50 HG) d_TK_same_56 ho2 (by rfl) ?_
              simp only []
              cases hza : p_norm Rs 51 A.2.1 with
              | none =>
                refine z_callV2x (dY := d + 5) d_TK_same_59 rfl (by omega) (Y_TK_103 HG) hq2 (cl_Rw HG) (Nat.le_of_ble_eq_true rfl) (c_nmX HG (kf2.rm hrm) H2 P (show A.1 ≤ 4 by omega) (rr := 58) (by unfold scR; omega) (by omega) pa2 ra2 hla2 hza) (fun h3 hh3 => ?_)
                obtain ⟨h4, e4, H4, kf4⟩ := hh3
                exact ⟨rfl, h4, e4, H4, kf2.tr kf4⟩
              | some za =>
                refine z_callV2q (dY := d + 5) d_TK_same_59 rfl (by omega) (Y_TK_103 HG) hq2 (cl_Rw HG) (Nat.le_of_ble_eq_true rfl) (c_nm HG (kf2.rm hrm) H2 P (show A.1 ≤ 4 by omega) (rr := 58) (by unfold scR; omega) (by omega) pa2 ra2 hla2 hza) (fun h3 hh3 => ?_)
                obtain ⟨H3, kf3, ⟨f58, r58, hl58⟩, kB⟩ := hh3
                have ho3 : h3.2.2 o = some (k_tk o (js.length + 1 + 1) cs.length ks.length) := H3.2.1
                have r56' : rowAt G h3 (o + 56) zb.2.length f56 := ⟨(kB _ (by omega) (by omega) (by omega)).trans r56.1, (kB _ (by omega) (by omega) (by omega)).trans r56.2⟩
                refine z_pop d_TK_same_62 rfl ?_
                refine z_aload_n d_TK_same_63 rfl rfl ?_
                refine z_getf (L_TK_50K HG) (by decide) (L_TK_50 HG) d_TK_same_64 ho3 (by rfl) ?_
                refine z_aload_n d_TK_same_67 rfl rfl ?_
                refine z_getf (L_TK_46K HG) (by decide) (L_TK_46 HG) d_TK_same_68 ho3 (by rfl) ?_
                refine z_callV1r (dY := d + 2) d_TK_same_71 rfl (by omega) (Y_TK_156 HG) r58.1 (cl_Row HG) (Nat.le_of_ble_eq_true rfl) (c_Row_equalsRow HG r58 hl58 r56' hl56) ?_
                refine z_ireturn d_TK_same_74 rfl ?_ ⟨rfl, H3, kf2.tr kf3⟩
                split <;> rfl
          · rw [nI_eq (by omega) (by omega)] at c1
            rw [if_neg c1]
            exact z_throw d_TK_same_23 d_TK_same_26 d_TK_same_27 d_TK_same_30 rfl (by decide +kernel) (t_TK_146 HG) hrm.1 hrm.2 (by decide) ⟨rfl, h1, rfl, H, k_ft.rf⟩
    · have eK : k_same K = .inl z_ISE := by
        obtain ⟨js, K2⟩ := K
        cases js with
        | nil => rfl
        | cons J js =>
          cases js with
          | nil => rfl
          | cons J2 js => exact absurd (show 1 < js.length + 1 + 1 by omega) hc1
      rw [eK]
      exact ⟨rfl, h', hh1, H, k_ft.rf⟩
  · have eK : k_same K = .inl z_ISE := by
      obtain ⟨js, K2⟩ := K
      cases js with
      | nil => rfl
      | cons J js => exact absurd (Nat.succ_pos _) hc
    rw [eK]
    exact ⟨rfl, h, hh, H, k_ft.rf⟩
end KN
