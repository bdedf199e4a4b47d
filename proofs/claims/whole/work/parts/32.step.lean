/-! Rewriter.step -/
/-- the Rewriter with its rules, the row now is x -/
def RwN (G : z_G) (h : z_H) (q : Nat) (Rs : List (List Nat × List Nat × Nat)) (x : List Nat) : Prop :=
  ∃ (a b nb : Nat) (fx fb : Nat → Int32) (g : Nat → Nat) (fr : Nat → Option Nat), (a = q + 2 ∧ b = q + 4 ∨ a = q + 4 ∧ b = q + 2) ∧ h.2.2 q = some (k_rw q Rs.length a b) ∧ h.2.2 (q + 1) = some (k_rls G fr) ∧ k_rok q fr ∧ h.2.2 (q + 6) = some (k_ms G g) ∧ k_sc G q h ∧ rowAt G h a x.length fx ∧ rl fx x ∧ rowAt G h b nb fb ∧ rusAt G h q Rs
/-- beside the Rewriter's own cells nothing has changed -/
def k_fq (q : Nat) (h h' : z_H) : Prop := h'.1 = h.1 ∧ h'.2.1 = h.2.1 ∧ ∀ y : Nat, y < q ∨ q + 10 < y → h'.2.2 y = h.2.2 y
theorem k_fq.rf {q : Nat} {h : z_H} : k_fq q h h := ⟨rfl, rfl, fun _ _ => rfl⟩
theorem k_fq.tr {q : Nat} {h h1 h2 : z_H} (a : k_fq q h h1) (b : k_fq q h1 h2) : k_fq q h h2 := ⟨b.1.trans a.1, b.2.1.trans a.2.1, fun x h1 => (b.2.2 x h1).trans (a.2.2 x h1)⟩
theorem k_fq.rm {G : z_G} {q : Nat} {h h1 : z_H} (a : k_fq q h h1) (H : z_rm G h) : z_rm G h1 := by
  unfold z_rm
  rw [a.1, a.2.1]
  exact H
theorem k_fr.fq {q b : Nat} {h h1 : z_H} (H : k_fr q b h h1) (hb : b = q + 2 ∨ b = q + 4) : k_fq q h h1 := ⟨H.1, H.2.1, fun y hy => H.2.2 y (by omega) (by omega) (by omega)⟩
theorem k_fq.set {q c : Nat} {h : z_H} (v : va_E) (hc : q ≤ c ∧ c ≤ q + 10) : k_fq q h (z_set h c v) := ⟨rfl, rfl, fun y hy => z_set_ne h v (by omega)⟩
theorem k_fq.row {G : z_G} {q s n : Nat} {f : Nat → Int32} {h h1 : z_H} (k : k_fq q h h1) (hs : s + 1 < q ∨ q + 10 < s) (H : rowAt G h s n f) : rowAt G h1 s n f :=
  ⟨(k.2.2 s (by omega)).trans H.1, (k.2.2 (s + 1) (by omega)).trans H.2⟩
theorem rusAt.fq {G : z_G} {h h1 : z_H} {q : Nat} {Rs : List (List Nat × List Nat × Nat)} (H : rusAt G h q Rs) (k : k_fq q h h1) : rusAt G h1 q Rs := by
  refine ⟨H.1, fun j R hj => ⟨(H.2 j R hj).1, ?_⟩⟩
  obtain ⟨h1, ⟨f, h2, h3⟩, f', h4, h5⟩ := (H.2 j R hj).2
  unfold k_rq at *
  exact ⟨(k.2.2 _ (by omega)).trans h1, ⟨f, k.row (by omega) h2, h3⟩, f', k.row (by omega) h4, h5⟩
theorem RwN.ms {G : z_G} {h : z_H} {q : Nat} {Rs : List (List Nat × List Nat × Nat)} {x : List Nat} (H : RwN G h q Rs x) (g : Nat → Nat) : RwN G (z_set h (q + 6) (k_ms G g)) q Rs x := by
  obtain ⟨a, b, nb, fx, fb, g0, fr, hab, h1, h2, h3, h4, ⟨⟨n7, g7, h7⟩, n9, g9, h9⟩, h6, h8, h10, h11⟩ := H
  refine ⟨a, b, nb, fx, fb, g, fr, hab, (z_set_ne _ _ (by omega)).trans h1, (z_set_ne _ _ (by omega)).trans h2, h3, z_set_at .., ⟨⟨n7, g7, ?_, ?_⟩, n9, g9, ?_, ?_⟩, z_set_row _ h6 (by omega) (by omega), h8, z_set_row _ h10 (by omega) (by omega), h11.fq (k_fq.set _ (by omega))⟩
  · exact (z_set_ne _ _ (by omega)).trans h7.1
  · exact (z_set_ne _ _ (by omega)).trans h7.2
  · exact (z_set_ne _ _ (by omega)).trans h9.1
  · exact (z_set_ne _ _ (by omega)).trans h9.2
theorem l_gi' {α : Type} {x : List α} {i : Nat} {v : α} (h : x[i]? = some v) : i < x.length := by
  apply Nat.lt_of_not_le
  intro hh
  rw [List.getElem?_eq_none hh] at h
  cases h
section SP
variable {G : z_G} {d q n : Nat} {x : List Nat} {Rs : List (List Nat × List Nat × Nat)}
/-- a redex is done: the rows change places -/
theorem RwN.done {h h1 : z_H} {a b : Nat} {fx fb : Nat → Int32} {g : Nat → Nat} {fr : Nat → Option Nat} {y : List Nat} (hab : a = q + 2 ∧ b = q + 4 ∨ a = q + 4 ∧ b = q + 2) (h1' : h.2.2 (q + 1) = some (k_rls G fr)) (hfr : k_rok q fr) (h6 : h.2.2 (q + 6) = some (k_ms G g)) (ha : rowAt G h a x.length fx) (hR : rusAt G h q Rs)
    (hf : k_fr q b h h1) (hs : k_sc G q h1) (hr : rowAt G h1 b y.length (k_app fb 0 y)) (hy : rl (k_app fb 0 y) y) : RwN G (z_set h1 q (k_rw q Rs.length b a)) q Rs y ∧ k_fq q h (z_set h1 q (k_rw q Rs.length b a)) := by
  have hb : b = q + 2 ∨ b = q + 4 := by omega
  have hq := (hf.fq hb).tr (k_fq.set (h := h1) (k_rw q Rs.length b a) (show q ≤ q ∧ q ≤ q + 10 by omega))
  obtain ⟨⟨n7, g7, h7⟩, n9, g9, h9⟩ := hs
  have ra : k_rr q a := by unfold k_rr; omega
  have e : k_ne a b := by unfold k_ne; omega
  refine ⟨⟨b, a, x.length, k_app fb 0 y, fx, g, fr, by omega, z_set_at .., ?_, hfr, ?_, ⟨⟨n7, g7, ?_, ?_⟩, n9, g9, ?_, ?_⟩, z_set_row _ hr (by omega) (by omega), hy, z_set_row _ (hf.row ra e ha) (by omega) (by omega), hR.fq hq⟩, hq⟩
  · exact (z_set_ne _ _ (by omega)).trans ((hf.2.2 (q + 1) (by omega) (by omega) (by omega)).trans h1')
  · exact (z_set_ne _ _ (by omega)).trans ((hf.2.2 (q + 6) (by omega) (by omega) (by omega)).trans h6)
  · exact (z_set_ne _ _ (by omega)).trans h7.1
  · exact (z_set_ne _ _ (by omega)).trans h7.2
  · exact (z_set_ne _ _ (by omega)).trans h9.1
  · exact (z_set_ne _ _ (by omega)).trans h9.2
theorem RwN.fail {h h' : z_H} {a b : Nat} {fx : Nat → Int32} {g : Nat → Nat} {fr : Nat → Option Nat} (hab : a = q + 2 ∧ b = q + 4 ∨ a = q + 4 ∧ b = q + 2) (hq : h.2.2 q = some (k_rw q Rs.length a b)) (h1' : h.2.2 (q + 1) = some (k_rls G fr)) (hfr : k_rok q fr) (h6 : h.2.2 (q + 6) = some (k_ms G g)) (ha : rowAt G h a x.length fx) (hx : rl fx x) (hR : rusAt G h q Rs)
    (H : k_xc G q b h h') : ∃ h1, h' = z_exc h1 ∧ RwN G h1 q Rs x ∧ k_fq q h h1 := by
  have hb : b = q + 2 ∨ b = q + 4 := by omega
  obtain ⟨h1, e1, hf, hs, f, hr⟩ := H
  have ra : k_rr q a := by unfold k_rr; omega
  have rb : k_rr q b := by unfold k_rr; omega
  have e : k_ne a b := by unfold k_ne; omega
  exact ⟨h1, e1, ⟨a, b, 40, fx, f, g, fr, hab, hf.rw rb hq, (hf.2.2 (q + 1) (by omega) (by omega) (by omega)).trans h1', hfr, (hf.2.2 (q + 6) (by omega) (by omega) (by omega)).trans h6, hs, hf.row ra e ha, hx, hr, hR.fq (hf.fq hb)⟩, hf.fq hb⟩
def st_post (G : z_G) (q : Nat) (Rs : List (List Nat × List Nat × Nat)) (x : List Nat) (h : z_H) : Option (List Nat) → z_R → z_H → Prop
  | none, r, h' => r = .inl (some (.int (nI 0))) ∧ RwN G h' q Rs x ∧ k_fq q h h'
  | some y, r, h' => (y.length ≤ 40 ∧ r = .inl (some (.int (nI 1))) ∧ RwN G h' q Rs y ∧ k_fq q h h') ∨ (¬ y.length ≤ 40 ∧ r = .inr z_AE ∧ ∃ h1, h' = z_exc h1 ∧ RwN G h1 q Rs x ∧ k_fq q h h1)
theorem st_post.tr {h h1 h' : z_H} {r : z_R} (k : k_fq q h h1) : ∀ {o : Option (List Nat)}, st_post G q Rs x h1 o r h' → st_post G q Rs x h o r h'
  | none, H => ⟨H.1, H.2.1, k.tr H.2.2⟩
  | some y, H => by
    rcases H with ⟨a1, a2, a3, a4⟩ | ⟨a1, a2, h2, a3, a4, a5⟩
    · exact Or.inl ⟨a1, a2, a3, k.tr a4⟩
    · exact Or.inr ⟨a1, a2, h2, a3, a4, k.tr a5⟩
theorem l_step (HG : z_ok G) (hn : n ≤ 4) (hw : p_wf n [0] x) (hok : p_rsok Rs) : ∀ (c i : Nat) (h : z_H), i + c = x.length → z_rm G h → RwN G h q Rs x →
    z_V G m_Rw_step (d + 4) 2 [(0, .ref q), (1, .int (nI i))] [] h (st_post G q Rs x h (p_scan Rs x c i)) := by
  intro c
  induction c with
  | zero =>
    intro i h hi hrm H
    obtain ⟨a, b, nb, fx, fb, g, fr, hab, hq, h1, hfr, h6, hsc, ha, hx, hb, hR⟩ := id H
    have hx40 := hx.len
    refine z_iload_n d_Rw_step_2 rfl rfl ?_
    refine z_aload_n d_Rw_step_3 rfl rfl ?_
    refine z_getf (L_Rw_24K HG) (by decide) (L_Rw_24 HG) d_Rw_step_4 hq (by rfl) ?_
    refine z_getf (L_Rw_66K HG) (by decide) (L_Rw_66 HG) d_Rw_step_7 ha.1 (by rfl) ?_
    refine z_icmp_ge (tgt := 76) d_Rw_step_10 rfl (fun c1 => ?_) (fun c1 => ?_)
    · refine z_iconst (v := nI 0) d_Rw_step_76 (by decide) ?_
      exact z_ireturn d_Rw_step_77 rfl rfl ⟨rfl, H, k_fq.rf⟩
    · rw [nI_leI (by omega) (by omega)] at c1
      omega
  | succ c ih =>
    intro i h hi hrm H
    obtain ⟨a, b, nb, fx, fb, g, fr, hab, hq, h1, hfr, h6, hsc, ha, hx, hb, hR⟩ := id H
    have hx40 := hx.len
    have hil : i < x.length := by omega
    have ra : k_rr q a := by unfold k_rr; omega
    have rb : k_rr q b := by unfold k_rr; omega
    have e : k_ne a b := by unfold k_ne; omega
    have hb24 : b = q + 2 ∨ b = q + 4 := by omega
    have ep : p_scan Rs x (c + 1) i = (p_here Rs x i).or (p_scan Rs x c (i + 1)) := rfl
    rw [ep]
    have sec : ¬ (x[i]? = some 2 ∧ x[i + 1]? = some 3) → z_V G m_Rw_step (d + 4) 46 [(0, .ref q), (1, .int (nI i))] [] h (st_post G q Rs x h ((p_here Rs x i).or (p_scan Rs x c (i + 1)))) := by
      intro hno
      unfold p_here
      rw [if_neg hno]
      refine z_aload_n d_Rw_step_46 rfl rfl ?_
      refine z_iload_n d_Rw_step_47 rfl rfl ?_
      refine z_callV (as := [.int (nI i)]) (dY := d + 3) d_Rw_step_48 rfl (by omega) (Y_Rw_77 HG) rfl hq (cl_Rw HG) (Nat.le_of_ble_eq_true rfl) (c_Rw_firstMatch HG hx ra hfr (Nat.le_of_lt hil) hq h1 h6 ha hR) (fun v h' hh => ?_) (fun X h' hh => ?_)
      · rcases hh with ⟨f1, f2, g', f3⟩ | ⟨k', R, g0, f1, f2, f3, f4, f5⟩
        · cases f2
          subst f3
          rw [f1]
          refine z_istore_n d_Rw_step_51 rfl (by decide) ?_
          refine z_iload_n d_Rw_step_52 rfl rfl ?_
          refine z_iconst (v := -1) d_Rw_step_53 (by decide) ?_
          refine z_icmp_eq (tgt := 70) d_Rw_step_54 rfl (fun c2 => ?_) (fun c2 => absurd rfl c2)
          refine z_iinc (v := nI (i + 1)) d_Rw_step_70 rfl (i_inc i) (by decide) ?_
          refine z_goto (tgt := 2) d_Rw_step_73 rfl ?_
          refine z_fg [(0, .ref q), (1, .int (nI (i + 1)))] ⟨rfl, rfl, trivial⟩ ?_
          have kf : k_fq q h (z_set h (q + 6) (k_ms G g')) := k_fq.set _ (by omega)
          exact (ih (i + 1) _ (by omega) (kf.rm hrm) (H.ms g')).mono (fun r h' hh => st_post.tr kf hh)
        · cases f4
          subst f5
          rw [f2]
          have hRm : R ∈ Rs := List.mem_of_getElem? f1
          have hk8 : k' < 8 := by
            have := l_gi' f1
            have := hR.1
            omega
          obtain ⟨w1, w2⟩ := p_rule_wf hw hil (hok R hRm) f3
          have eg := p_rule_g (g' := fun _ => 0) (hok R hRm) f3
          have kf : k_fq q h (z_set h (q + 6) (k_ms G (p_match R.2.2 x R.1 i g0).2)) := k_fq.set _ (by omega)
          have H2 := H.ms (p_match R.2.2 x R.1 i g0).2
          obtain ⟨a2, b2, nb2, fx2, fb2, g2, fr2, hab2, hq2, h12, hfr2, h62, hsc2, ha2, hx2, hb2, hR2⟩ := id H2
          have h62' := z_set_at h (q + 6) (k_ms G (p_match R.2.2 x R.1 i g0).2)
          generalize z_set h (q + 6) (k_ms G (p_match R.2.2 x R.1 i g0).2) = hN at *
          have ra2 : k_rr q a2 := by unfold k_rr; omega
          have e2 : k_ne a2 b2 := by unfold k_ne; omega
          obtain ⟨hnv, hu, -, flr, hl1, hl2⟩ := hR2.2 k' R f1
          refine z_istore_n d_Rw_step_51 rfl (by decide) ?_
          refine z_iload_n d_Rw_step_52 rfl rfl ?_
          refine z_iconst (v := -1) d_Rw_step_53 (by decide) ?_
          refine z_icmp_eq (tgt := 70) d_Rw_step_54 rfl (fun c2 => absurd c2.symm (nI_m1 (by omega))) (fun c2 => ?_)
          refine z_aload_n d_Rw_step_57 rfl rfl ?_
          refine z_aload_n d_Rw_step_58 rfl rfl ?_
          refine z_getf (L_Rw_11K HG) (by decide) (L_Rw_11 HG) d_Rw_step_59 hq2 (by rfl) ?_
          refine z_iload_n d_Rw_step_62 rfl rfl ?_
          refine z_aald d_Rw_step_63 (ty5 HG) h12 (pk_in k' 8 (by omega)) (by rw [nI_clamp (by omega)]; exact hfr2 k' (by omega)) ?_
          refine z_iload_n d_Rw_step_64 rfl rfl ?_
          have hl41 := hx2.len
          refine z_callV2e (dY := d + 2) d_Rw_step_65 rfl (by omega) (Y_Rw_80 HG) hq2 (cl_Rw HG) (Nat.le_of_ble_eq_true rfl) (c2_doRule HG (kf.rm hrm) hx2 hl2 (by omega) ra2 e2 (by unfold k_rq; omega) hnv (fun j hj => ⟨rfl, w1 j hj⟩) (Nat.le_of_lt hil) hq2 h62' hu hsc2 ha2 hl1 hb2) (fun hc h3 hh3 => ?_) (fun hc h3 hh3 => ?_)
          · obtain ⟨h4, e4, k4, s4, r4⟩ := hh3
            subst e4
            refine z_iconst (v := nI 1) d_Rw_step_68 (by decide) ?_
            refine z_ireturn d_Rw_step_69 rfl rfl ?_
            have hd := RwN.done hab2 h12 hfr2 h62' ha2 hR2 k4 s4 r4 (p_wf_rl w2 hn hc)
            rw [eg] at hd hc
            exact Or.inl ⟨hc, rfl, hd.1, kf.tr hd.2⟩
          · rw [eg] at hc
            obtain ⟨h4, e4, k4, s4⟩ := RwN.fail hab2 hq2 h12 hfr2 h62' ha2 hx2 hR2 hh3
            exact Or.inr ⟨hc, rfl, h4, e4, k4, kf.tr s4⟩
      · rcases hh with ⟨-, f2, -⟩ | ⟨k', R, g0, -, -, -, f2, -⟩ <;> cases f2
    refine z_iload_n d_Rw_step_2 rfl rfl ?_
    refine z_aload_n d_Rw_step_3 rfl rfl ?_
    refine z_getf (L_Rw_24K HG) (by decide) (L_Rw_24 HG) d_Rw_step_4 hq (by rfl) ?_
    refine z_getf (L_Rw_66K HG) (by decide) (L_Rw_66 HG) d_Rw_step_7 ha.1 (by rfl) ?_
    refine z_icmp_ge (tgt := 76) d_Rw_step_10 rfl (fun c1 => ?_) (fun c1 => ?_)
    · rw [nI_leI (by omega) (by omega)] at c1
      omega
    · refine z_aload_n d_Rw_step_13 rfl rfl ?_
      refine z_getf (L_Rw_24K HG) (by decide) (L_Rw_24 HG) d_Rw_step_14 hq (by rfl) ?_
      refine z_iload_n d_Rw_step_17 rfl rfl ?_
      refine z_callV1r (dY := d) d_Rw_step_18 rfl (by omega) (Y_Rw_69 HG) ha.1 (cl_Row HG) (Nat.le_of_ble_eq_true rfl) (c_Row_at HG ha hx40 (nI i)) ?_
      have hv := hx.lt hil
      rw [k_at_in fx hil hx40, hx.eq hil]
      refine z_iconst (v := nI 2) d_Rw_step_21 (by decide) ?_
      refine z_icmp_ne (tgt := 46) d_Rw_step_22 rfl (fun c2 => ?_) (fun c2 => ?_)
      · rw [nI_eq (by omega) (by omega)] at c2
        exact sec (fun hh => c2 ((l_g? hil).mp hh.1))
      · rw [nI_eq (by omega) (by omega)] at c2
        have hx2 := (l_g? hil).mpr c2
        refine z_aload_n d_Rw_step_25 rfl rfl ?_
        refine z_getf (L_Rw_24K HG) (by decide) (L_Rw_24 HG) d_Rw_step_26 hq (by rfl) ?_
        refine z_iload_n d_Rw_step_29 rfl rfl ?_
        refine z_iconst (v := nI 1) d_Rw_step_30 (by decide) ?_
        refine z_iadd d_Rw_step_31 ?_
        rw [nI_add]
        refine z_callV1r (dY := d) d_Rw_step_32 rfl (by omega) (Y_Rw_69 HG) ha.1 (cl_Row HG) (Nat.le_of_ble_eq_true rfl) (c_Row_at HG ha hx40 (nI (i + 1))) ?_
        refine z_iconst (v := nI 3) d_Rw_step_35 (by decide) ?_
        by_cases hil2 : i + 1 < x.length
        · have hv2 := hx.lt hil2
          rw [k_at_in fx hil2 hx40, hx.eq hil2]
          refine z_icmp_ne (tgt := 46) d_Rw_step_36 rfl (fun c3 => ?_) (fun c3 => ?_)
          · rw [nI_eq (by omega) (by omega)] at c3
            exact sec (fun hh => c3 ((l_g? hil2).mp hh.2))
          · rw [nI_eq (by omega) (by omega)] at c3
            have hx3 := (l_g? hil2).mpr c3
            have eh : p_here Rs x i = some (p_beta x i) := by
              unfold p_here
              rw [if_pos ⟨hx2, hx3⟩]
            rw [eh]
            refine z_aload_n d_Rw_step_39 rfl rfl ?_
            refine z_iload_n d_Rw_step_40 rfl rfl ?_
            refine z_callV1e (dY := d + 3) d_Rw_step_41 rfl (by omega) (Y_Rw_73 HG) hq (cl_Rw HG) (Nat.le_of_ble_eq_true rfl) (c2_doLambda HG hrm hx ra rb e (by omega) hq hsc ha hb) (fun hc h3 hh3 => ?_) (fun hc h3 hh3 => ?_)
            · obtain ⟨h4, e4, k4, s4, r4⟩ := hh3
              subst e4
              refine z_iconst (v := nI 1) d_Rw_step_44 (by decide) ?_
              refine z_ireturn d_Rw_step_45 rfl rfl ?_
              have hd := RwN.done hab h1 hfr h6 ha hR k4 s4 r4 (p_wf_rl (p_wf_beta hw hx2 hx3) hn hc)
              exact Or.inl ⟨hc, rfl, hd.1, hd.2⟩
            · obtain ⟨h4, e4, k4, s4⟩ := RwN.fail hab hq h1 hfr h6 ha hx hR hh3
              exact Or.inr ⟨hc, rfl, h4, e4, k4, s4⟩
        · rw [k_at_out fx (by omega) (by omega)]
          refine z_icmp_ne (tgt := 46) d_Rw_step_36 rfl (fun c3 => ?_) (fun c3 => absurd c3 (nI_m1 (by omega)))
          exact sec (fun hh => absurd (l_gi hh.2) hil2)
theorem c_Rw_step (HG : z_ok G) (hn : n ≤ 4) (hw : p_wf n [0] x) (hok : p_rsok Rs) {h : z_H} (hrm : z_rm G h) (H : RwN G h q Rs x) : z_C G m_Rw_step (d + 4) [.ref q] h (st_post G q Rs x h (p_step Rs x)) := by
  refine z_C.of (Nat.le_of_ble_eq_true rfl) ?_
  refine z_iconst (v := nI 0) d_Rw_step_0 (by decide) ?_
  refine z_istore_n d_Rw_step_1 rfl (by decide) ?_
  refine z_fg [(0, .ref q), (1, .int (nI 0))] ⟨rfl, rfl, trivial⟩ ?_
  exact l_step HG hn hw hok x.length 0 h (by omega) hrm H
end SP
