/-! Rewriter.normalize, addRule -/
theorem k_fq.in {q : Nat} {h h' : z_H} (k : k_fq q h h') {y : Nat} (hy : y < q ∨ q + 10 < y) : h'.2.2 y = h.2.2 y := k.2.2 y hy
/-- a row beside the Rewriter and its rules -/
def k_out (q r : Nat) : Prop := r + 1 < q ∨ q + 50 < r
theorem RwN.keep {G : z_G} {h h' : z_H} {q : Nat} {Rs : List (List Nat × List Nat × Nat)} {x : List Nat} (H : RwN G h q Rs x) (k : ∀ y, q ≤ y ∧ y ≤ q + 50 → h'.2.2 y = h.2.2 y) : RwN G h' q Rs x := by
  obtain ⟨a, b, nb, fx, fb, g0, fr, hab, h1, h2, h3, h4, ⟨⟨n7, g7, h7⟩, n9, g9, h9⟩, h6, h8, h10, h11⟩ := H
  refine ⟨a, b, nb, fx, fb, g0, fr, hab, (k _ (by omega)).trans h1, (k _ (by omega)).trans h2, h3, (k _ (by omega)).trans h4, ⟨⟨n7, g7, (k _ (by omega)).trans h7.1, (k _ (by omega)).trans h7.2⟩, n9, g9, (k _ (by omega)).trans h9.1, (k _ (by omega)).trans h9.2⟩, ⟨(k _ (by omega)).trans h6.1, (k _ (by omega)).trans h6.2⟩, h8, ⟨(k _ (by omega)).trans h10.1, (k _ (by omega)).trans h10.2⟩, h11.1, fun j R hj => ⟨(h11.2 j R hj).1, ?_⟩⟩
  have hj8 := l_gi' hj
  have h8 := h11.1
  obtain ⟨e1, ⟨f, e2, e3⟩, f', e4, e5⟩ := (h11.2 j R hj).2
  unfold k_rq at *
  exact ⟨(k _ (by omega)).trans e1, ⟨f, ⟨(k _ (by omega)).trans e2.1, (k _ (by omega)).trans e2.2⟩, e3⟩, f', ⟨(k _ (by omega)).trans e4.1, (k _ (by omega)).trans e4.2⟩, e5⟩
theorem RwN.rset {G : z_G} {h : z_H} {q r n : Nat} {f : Nat → Int32} {Rs : List (List Nat × List Nat × Nat)} {x : List Nat} (H : RwN G h q Rs x) (hr : k_out q r) : RwN G (rset G h r n f) q Rs x := by
  unfold k_out at hr
  exact H.keep (fun y hy => rset_ne G h n f (by omega) (by omega))
section NM
variable {G : z_G} {d q n r nr s : Nat} {fs fr : Nat → Int32} {x : List Nat} {Rs : List (List Nat × List Nat × Nat)}
def nm_post (G : z_G) (q : Nat) (Rs : List (List Nat × List Nat × Nat)) (r : Nat) (fr : Nat → Int32) (k : Nat) (h : z_H) : Option (Nat × List Nat) → z_R → z_H → Prop
  | some z, o, h' => o = .inl (some (.int (nI (k + z.1)))) ∧ ∃ x' h1, h' = rset G h1 r z.2.length (k_app fr 0 z.2) ∧ RwN G h1 q Rs x' ∧ k_fq q h h1
  | none, o, h' => o = .inr z_AE ∧ ∃ x' h1, h' = z_exc h1 ∧ RwN G h1 q Rs x' ∧ k_fq q h h1
theorem l_norm (HG : z_ok G) (hn : n ≤ 4) (hok : p_rsok Rs) (ho : k_out q r) : ∀ (c k : Nat) (x : List Nat) (h : z_H), k + c = 51 → p_wf n [0] x → z_rm G h → RwN G h q Rs x → rowAt G h r nr fr →
    z_V G m_Rw_normalize (d + 5) 10 [(0, .ref q), (2, .ref r), (3, .int (nI k))] [] h (nm_post G q Rs r fr k h (p_norm Rs c x)) := by
  unfold k_out at ho
  intro c
  induction c with
  | zero =>
    intro k x h hk hw hrm H hr
    refine z_iload_n d_Rw_normalize_10 rfl rfl ?_
    refine z_bipush (v := nI 50) d_Rw_normalize_11 (by decide +kernel) ?_
    refine z_icmp_gt (tgt := 39) d_Rw_normalize_13 rfl (fun c1 => ?_) (fun c1 => ?_)
    · exact z_throw d_Rw_normalize_39 d_Rw_normalize_42 d_Rw_normalize_43 d_Rw_normalize_46 rfl (by decide +kernel) (t_Rw_63 HG) hrm.1 hrm.2 (by decide) ⟨rfl, x, h, rfl, H, k_fq.rf⟩
    · rw [nI_ltI (by omega) (by omega)] at c1
      omega
  | succ c ih =>
    intro k x h hk hw hrm H hr
    obtain ⟨a, b, nb, fx, fb, g, fr', hab, hq, h1, hfr, h6, hsc, ha, hx, hb, hR⟩ := id H
    refine z_iload_n d_Rw_normalize_10 rfl rfl ?_
    refine z_bipush (v := nI 50) d_Rw_normalize_11 (by decide +kernel) ?_
    refine z_icmp_gt (tgt := 39) d_Rw_normalize_13 rfl (fun c1 => ?_) (fun c1 => ?_)
    · rw [nI_ltI (by omega) (by omega)] at c1
      omega
    · refine z_aload_n d_Rw_normalize_16 rfl rfl ?_
      have ep : p_norm Rs (c + 1) x = match p_step Rs x with
        | none => some (0, x)
        | some y => if y.length ≤ 40 then (p_norm Rs c y).map (fun z => (z.1 + 1, z.2)) else none := rfl
      rw [ep]
      refine z_callV (as := []) (dY := d + 4) d_Rw_normalize_17 rfl (by omega) (Y_Rw_59 HG) rfl hq (cl_Rw HG) (Nat.le_of_ble_eq_true rfl) (c_Rw_step HG hn hw hok hrm H) (fun v h' hh => ?_) (fun X h' hh => ?_)
      · cases hs : p_step Rs x with
        | none =>
          rw [hs] at hh
          obtain ⟨e1, H2, kf⟩ := hh
          cases e1
          refine z_if_ne (tgt := 33) d_Rw_normalize_20 rfl (fun c2 => absurd nI_0 c2) (fun c2 => ?_)
          obtain ⟨a2, b2, nb2, fx2, fb2, g2, fr2, hab2, hq2, h12, hfr2, h62, hsc2, ha2, hx2, hb2, hR2⟩ := id H2
          have hr2 := kf.row (by omega) hr
          refine z_aload_n d_Rw_normalize_23 rfl rfl ?_
          refine z_aload_n d_Rw_normalize_24 rfl rfl ?_
          refine z_getf (L_Rw_24K HG) (by decide) (L_Rw_24 HG) d_Rw_normalize_25 hq2 (by rfl) ?_
          refine z_callV1v (dY := d) d_Rw_normalize_28 rfl (by omega) (Y_Rw_49 HG) hr2.1 (cl_Row HG) (Nat.le_of_ble_eq_true rfl) (c_Row_copy HG hr2 ha2 hx2 (by omega) (by omega) (by omega)) ?_
          refine z_iload_n d_Rw_normalize_31 rfl rfl ?_
          exact z_ireturn d_Rw_normalize_32 rfl rfl ⟨rfl, x, h', rfl, H2, kf⟩
        | some y =>
          rw [hs] at hh
          rcases hh with ⟨a1, a2, H2, kf⟩ | ⟨a1, a2, -⟩
          · cases a2
            refine z_if_ne (tgt := 33) d_Rw_normalize_20 rfl (fun c2 => ?_) (fun c2 => absurd c2 (by decide))
            refine z_iinc (v := nI (k + 1)) d_Rw_normalize_33 rfl (i_inc k) (by decide) ?_
            refine z_goto (tgt := 10) d_Rw_normalize_36 rfl ?_
            refine z_fg [(0, .ref q), (2, .ref r), (3, .int (nI (k + 1)))] ⟨rfl, rfl, rfl, trivial⟩ ?_
            refine (ih (k + 1) y h' (by omega) (p_step_wf hw hok hs) (kf.rm hrm) H2 (kf.row (by omega) hr)).mono (fun o h2 hh => ?_)
            simp only []
            rw [if_pos a1]
            cases hz : p_norm Rs c y with
            | none =>
              rw [hz] at hh
              obtain ⟨e1, x', h3, e2, e3, e4⟩ := hh
              exact ⟨e1, x', h3, e2, e3, kf.tr e4⟩
            | some z =>
              rw [hz] at hh
              obtain ⟨e1, x', h3, e2, e3, e4⟩ := hh
              rw [Nat.add_right_comm] at e1
              exact ⟨e1, x', h3, e2, e3, kf.tr e4⟩
          · cases a2
      · cases hs : p_step Rs x with
        | none =>
          rw [hs] at hh
          cases hh.1
        | some y =>
          rw [hs] at hh
          rcases hh with ⟨a1, a2, -⟩ | ⟨a1, a2, h3, a3, a4, a5⟩
          · cases a2
          · cases a2
            simp only []
            rw [if_neg a1]
            exact ⟨rfl, x, h3, a3, a4, a5⟩
theorem c_Rw_normalize (HG : z_ok G) (hn : n ≤ 4) (hok : p_rsok Rs) {x0 : List Nat} {h : z_H} (ho : k_out q r) (hso : k_out q s) (hrm : z_rm G h) (H : RwN G h q Rs x0) (hw : p_wf n [0] x) (hs : rowAt G h s x.length fs) (hls : rl fs x) (hr : rowAt G h r nr fr) :
    z_C G m_Rw_normalize (d + 5) [.ref q, .ref s, .ref r] h (nm_post G q Rs r fr 0 h (p_norm Rs 51 x)) := by
  obtain ⟨a, b, nb, fx, fb, g, fr', hab, hq, h1, hfr, h6, hsc, ha, hx, hb, hR⟩ := id H
  have hso' := hso
  have ho' := ho
  unfold k_out at hso' ho'
  have hl := hls.len
  refine z_C.of (Nat.le_of_ble_eq_true rfl) ?_
  refine z_aload_n d_Rw_normalize_0 rfl rfl ?_
  refine z_getf (L_Rw_24K HG) (by decide) (L_Rw_24 HG) d_Rw_normalize_1 hq (by rfl) ?_
  refine z_aload_n d_Rw_normalize_4 rfl rfl ?_
  refine z_callV1v (dY := d) d_Rw_normalize_5 rfl (by omega) (Y_Rw_49 HG) ha.1 (cl_Row HG) (Nat.le_of_ble_eq_true rfl) (c_Row_copy HG ha hs hls (by omega) (by omega) (by omega)) ?_
  refine z_iconst (v := nI 0) d_Rw_normalize_8 (by decide) ?_
  refine z_istore_n d_Rw_normalize_9 rfl (by decide) ?_
  refine z_fg [(0, .ref q), (2, .ref r), (3, .int (nI 0))] ⟨rfl, rfl, rfl, trivial⟩ ?_
  have rb : k_rr q a := by unfold k_rr; omega
  have rb2 : k_rr q b := by unfold k_rr; omega
  have e : k_ne b a := by unfold k_ne; omega
  have kfr : k_fr q a h (rset G h a x.length (k_app fx 0 x)) := k_fr.rset
  have kf : k_fq q h (rset G h a x.length (k_app fx 0 x)) := kfr.fq (by omega)
  have H2 : RwN G (rset G h a x.length (k_app fx 0 x)) q Rs x :=
    ⟨a, b, nb, k_app fx 0 x, fb, g, fr', hab, kfr.rw rb hq, (kfr.2.2 (q + 1) (by omega) (by omega) (by omega)).trans h1, hfr, (kfr.2.2 (q + 6) (by omega) (by omega) (by omega)).trans h6, hsc.rset rb, rset_at .., p_wf_rl hw hn hl, kfr.row rb2 e hb, hR.fq kf⟩
  refine (l_norm HG hn hok ho 51 0 x _ rfl hw (kf.rm hrm) H2 (kf.row (by omega) hr)).mono (fun o h' hh => ?_)
  cases hz : p_norm Rs 51 x with
  | none =>
    rw [hz] at hh
    obtain ⟨e1, x', h3, e2, e3, e4⟩ := hh
    exact ⟨e1, x', h3, e2, e3, kf.tr e4⟩
  | some z =>
    rw [hz] at hh
    obtain ⟨e1, x', h3, e2, e3, e4⟩ := hh
    exact ⟨e1, x', h3, e2, e3, kf.tr e4⟩
end NM
