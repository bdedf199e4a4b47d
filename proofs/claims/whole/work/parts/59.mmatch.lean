/-! the reference: matches, redex -/
section MM
variable {G : z_G} {h : z_H} {q d p n nv ru d0 : Nat} {s : Nat → Int32} {A : Nat → Nat → Int32} {x ll S' : List Nat}
theorem p_match_var {v i : Nat} {t : List Nat} {g : Nat → Nat} (hc : 100 ≤ v ∧ v < 100 + nv) : p_match nv x (v :: t) i g = p_match nv x t (i + p_end 1 (x.drop i)) (va_up g (v - 100) i) := by
  show (if 100 ≤ v ∧ v < 100 + nv then _ else _) = _
  rw [if_pos hc]
theorem p_match_same {v i : Nat} {t : List Nat} {g : Nat → Nat} (hc : ¬ (100 ≤ v ∧ v < 100 + nv)) (hx : x[i]? = some v) : p_match nv x (v :: t) i g = p_match nv x t (i + 1) g := by
  show (if 100 ≤ v ∧ v < 100 + nv then _ else if x[i]? = some v then _ else _) = _
  rw [if_neg hc, if_pos hx]
theorem p_match_no {v i : Nat} {t : List Nat} {g : Nat → Nat} (hc : ¬ (100 ≤ v ∧ v < 100 + nv)) (hx : ¬ x[i]? = some v) : p_match nv x (v :: t) i g = (false, g) := by
  show (if 100 ≤ v ∧ v < 100 + nv then _ else if x[i]? = some v then _ else _) = _
  rw [if_neg hc, if_neg hx]
theorem l_Md_matches (HG : z_ok G) (hru : ru < 8) (hnv : nv ≤ 4) (hv : ∀ v ∈ ll, v = 2 ∨ 10 ≤ v) : ∀ (c k i j0 : Nat) (g : Nat → Nat) (A : Nat → Nat → Int32), k + c = ll.length → i ≤ x.length → p_wf n (List.replicate j0 d0 ++ S') (x.drop i) → p_wf nv (List.replicate j0 0) (ll.drop k) → mrow A 40 x → mrow A (24 + ru) ll →
    z_V G m_Md_matches (d + 2) 5 [(0, .ref q), (1, .int (nI ru)), (3, .int (nI i)), (4, .int (nI k))] [] (md G h q s A) (m_post G h q (fun o s' A' => o = some (.int (if (p_match nv x (ll.drop k) i g).1 = true then nI 1 else nI 0)) ∧ s' = s ∧ m_ft A A' ∧ ((p_match nv x (ll.drop k) i g).1 = true → ∀ j, j < nv → (100 + j ∈ ll.drop k ∨ m_gt A x g j) → m_gt A' x (p_match nv x (ll.drop k) i g).2 j))) := by
  intro c
  induction c with
  | zero =>
    intro k i j0 g A hk hi hwx hwl hx hl
    have h40 := hl.len
    rw [List.drop_eq_nil_of_le (by omega)]
    refine z_iload d_Md_matches_5 rfl ?_
    refine z_aload_n d_Md_matches_7 rfl rfl ?_
    refine z_mg HG d_Md_matches_8 (L_Md_13 HG) (by decide) rfl ?_
    refine z_bipush (v := nI 24) d_Md_matches_11 (by decide +kernel) ?_
    refine z_iload_n d_Md_matches_13 rfl rfl ?_
    refine z_iadd d_Md_matches_14 ?_
    refine z_eqi (nI_add _ _) ?_
    refine z_ml HG 2 d_Md_matches_15 (by decide) (show _ < 43 by omega) hl.1 ?_
    refine z_icmp_ge (tgt := 94) d_Md_matches_16 rfl (fun c16 => ?_) (fun c16 => ?_)
    · rw [nI_leI (by omega) (by omega)] at c16
      refine z_iconst (v := nI 1) d_Md_matches_94 (by decide) ?_
      exact z_ireturn d_Md_matches_95 rfl rfl ⟨_, _, _, rfl, rfl, by rw [if_pos (show (p_match nv x [] i g).1 = true from rfl)], rfl, fun _ _ _ => rfl, fun _ j hj hh => hh.elim (fun h0 => absurd h0 (by simp)) id⟩
    · rw [nI_leI (by omega) (by omega)] at c16
      omega
  | succ c ih =>
    intro k i j0 g A hk hi hwx hwl hx hl
    have h40 := hl.len
    have hx40 := hx.len
    rw [l_dc (l := ll) (i := k) (by omega)] at hwl ⊢
    have hv1 : ll.getD k 0 = 2 ∨ 10 ≤ ll.getD k 0 := by
      refine hv _ ?_
      rw [List.getD_eq_getElem?_getD, List.getElem?_eq_getElem (by omega)]
      exact List.getElem_mem (by omega)
    obtain ⟨j1, rfl⟩ : ∃ j1, j0 = j1 + 1 := by
      cases j0 with
      | zero => exact hwl.elim
      | succ j1 => exact ⟨j1, rfl⟩
    rw [List.replicate_succ] at hwx hwl
    have hix : i < x.length := by
      apply Classical.byContradiction
      intro hh
      rw [List.drop_eq_nil_of_le (by omega)] at hwx
      cases hwx
    have hwl1 := hwl.1
    have hwl2 := hwl.2
    have hvlt := hl.lt (i := k) (by omega)
    have hle := hl.eq (i := k) (by omega)
    generalize ll.getD k 0 = v at hv1 hwl1 hwl2 hvlt hle ⊢
    refine z_iload d_Md_matches_5 rfl ?_
    refine z_aload_n d_Md_matches_7 rfl rfl ?_
    refine z_mg HG d_Md_matches_8 (L_Md_13 HG) (by decide) rfl ?_
    refine z_bipush (v := nI 24) d_Md_matches_11 (by decide +kernel) ?_
    refine z_iload_n d_Md_matches_13 rfl rfl ?_
    refine z_iadd d_Md_matches_14 ?_
    refine z_eqi (nI_add _ _) ?_
    refine z_ml HG 2 d_Md_matches_15 (by decide) (show _ < 43 by omega) hl.1 ?_
    refine z_icmp_ge (tgt := 94) d_Md_matches_16 rfl (fun c16 => ?_) (fun c16 => ?_)
    · rw [nI_leI (by omega) (by omega)] at c16
      omega
    · rw [nI_leI (by omega) (by omega)] at c16
      refine z_aload_n d_Md_matches_19 rfl rfl ?_
      refine z_bipush (v := nI 24) d_Md_matches_20 (by decide +kernel) ?_
      refine z_iload_n d_Md_matches_22 rfl rfl ?_
      refine z_iadd d_Md_matches_23 ?_
      refine z_eqi (nI_add _ _) ?_
      refine z_iload d_Md_matches_24 rfl ?_
      refine z_mr (as := [.int (nI (24 + ru)), .int (nI k)]) (dY := d) HG d_Md_matches_26 rfl (by omega) (Y_Md_49 HG) rfl rfl (Nat.le_of_ble_eq_true rfl) (c_Md_at HG (by omega) hle) ?_
      refine z_istore d_Md_matches_29 (by decide) ?_
      refine z_iload d_Md_matches_31 rfl ?_
      refine z_bipush (v := nI 100) d_Md_matches_33 (by decide +kernel) ?_
      refine z_icmp_lt (tgt := 71) d_Md_matches_35 rfl (fun c35 => ?_) (fun c35 => ?_)
      · rw [nI_ltI (by omega) (by omega)] at c35
        have hcn : ¬ (100 ≤ v ∧ v < 100 + nv) := by omega
        have hxi := hx.lt hix
        refine z_aload_n d_Md_matches_71 rfl rfl ?_
        refine z_bipush (v := nI 40) d_Md_matches_72 (by decide +kernel) ?_
        refine z_iload_n d_Md_matches_74 rfl rfl ?_
        refine z_mr (as := [.int (nI 40), .int (nI i)]) (dY := d) HG d_Md_matches_75 rfl (by omega) (Y_Md_49 HG) rfl rfl (Nat.le_of_ble_eq_true rfl) (c_Md_at (r := 40) HG (by omega) (hx.eq hix)) ?_
        refine z_iload d_Md_matches_78 rfl ?_
        refine z_icmp_eq (tgt := 85) d_Md_matches_80 rfl (fun c80 => ?_) (fun c80 => ?_)
        · rw [nI_eq (by omega) (by omega)] at c80
          refine z_iinc (v := nI (i + 1)) d_Md_matches_85 rfl (i_inc _) (by decide) ?_
          refine z_iinc (v := nI (k + 1)) d_Md_matches_88 rfl (i_inc _) (by decide) ?_
          refine z_goto (tgt := 5) d_Md_matches_91 rfl ?_
          refine z_fg [(0, .ref q), (1, .int (nI ru)), (3, .int (nI (i + 1))), (4, .int (nI (k + 1)))] ⟨rfl, rfl, rfl, rfl, trivial⟩ ?_
          have hxv : x[i]? = some v := (l_g? hix).mpr c80
          rw [p_match_same hcn hxv]
          rw [l_d2 hxv] at hwx
          have hwx2 : p_wf n (p_aw v d0 (List.replicate j1 d0 ++ S')) (x.drop (i + 1)) := hwx.2
          have IH : ∀ j2, p_wf n (List.replicate j2 d0 ++ S') (x.drop (i + 1)) → p_wf nv (List.replicate j2 0) (ll.drop (k + 1)) → _ := fun j2 u1 u2 => ih (k + 1) (i + 1) j2 g A (by omega) hix u1 u2 hx hl
          have fin : ∀ j2, p_wf n (List.replicate j2 d0 ++ S') (x.drop (i + 1)) → p_wf nv (List.replicate j2 0) (ll.drop (k + 1)) → z_V G m_Md_matches (d + 2) 5 [(0, .ref q), (1, .int (nI ru)), (3, .int (nI (i + 1))), (4, .int (nI (k + 1)))] [] (md G h q s A) (m_post G h q (fun o s' A' => o = some (.int (if (p_match nv x (ll.drop (k + 1)) (i + 1) g).1 = true then nI 1 else nI 0)) ∧ s' = s ∧ m_ft A A' ∧ ((p_match nv x (ll.drop (k + 1)) (i + 1) g).1 = true → ∀ j, j < nv → (100 + j ∈ v :: ll.drop (k + 1) ∨ m_gt A x g j) → m_gt A' x (p_match nv x (ll.drop (k + 1)) (i + 1) g).2 j))) := by
            intro j2 u1 u2
            refine z_Vm (IH j2 u1 u2) (fun o s' A' hh => ?_)
            obtain ⟨e1, e2, e3, e4⟩ := hh
            refine ⟨e1, e2, e3, fun hm j hj hjj => e4 hm j hj ?_⟩
            rcases hjj with hjj | hjj
            · left
              rcases List.mem_cons.mp hjj with hjj | hjj
              · omega
              · exact hjj
            · exact Or.inr hjj
          rcases hv1 with rfl | hv1
          · exact fin (j1 + 2) hwx2 hwl2
          · rw [p_aw_big (by omega)] at hwx2 hwl2
            exact fin j1 hwx2 hwl2
        · rw [nI_eq (by omega) (by omega)] at c80
          have hxv : ¬ x[i]? = some v := fun hh => c80 ((l_g? hix).mp hh)
          rw [p_match_no hcn hxv]
          refine z_iconst (v := nI 0) d_Md_matches_83 (by decide) ?_
          exact z_ireturn d_Md_matches_84 rfl rfl ⟨_, _, _, rfl, rfl, rfl, rfl, fun _ _ _ => rfl, fun hm => absurd hm (by simp)⟩
      · rw [nI_ltI (by omega) (by omega)] at c35
        have hcv : 100 ≤ v ∧ v < 100 + nv := by omega
        rw [p_match_var hcv]
        rw [p_aw_big (by omega)] at hwl2
        have sp := (p_wf_split (S1 := [d0]) (S2 := List.replicate j1 d0 ++ S') hwx).2
        rw [List.drop_drop] at sp
        have hed := p_end_drop (x := x) (i := i) hi
        refine z_aload_n d_Md_matches_38 rfl rfl ?_
        refine z_mg HG d_Md_matches_39 (L_Md_35 HG) (by decide) rfl ?_
        refine z_iload d_Md_matches_42 rfl ?_
        refine z_bipush (v := nI 100) d_Md_matches_44 (by decide +kernel) ?_
        refine z_isub d_Md_matches_46 ?_
        refine z_eqi (pk_sub (by omega)) ?_
        refine z_iload_n d_Md_matches_47 rfl rfl ?_
        refine z_ms HG 9 d_Md_matches_48 (by decide) (show _ < 4 by omega) ?_
        have a1 : ∀ j, j ≠ 9 → va_up A 9 (upd (A 9) (v - 100) (nI i)) j = A j := fun j hj => va_up_ne _ _ hj
        have a2 : va_up A 9 (upd (A 9) (v - 100) (nI i)) 9 = upd (A 9) (v - 100) (nI i) := va_up_self _ _ _
        generalize va_up A 9 (upd (A 9) (v - 100) (nI i)) = B at a1 a2 ⊢
        have hxB : mrow B 40 x := hx.eqv (a1 1 (by decide)) (a1 2 (by decide))
        refine z_aload_n d_Md_matches_49 rfl rfl ?_
        refine z_bipush (v := nI 40) d_Md_matches_50 (by decide +kernel) ?_
        refine z_iload_n d_Md_matches_52 rfl rfl ?_
        refine z_mr (as := [.int (nI 40), .int (nI i)]) (dY := d + 1) HG d_Md_matches_53 rfl (by omega) (Y_Md_68 HG) rfl rfl (Nat.le_of_ble_eq_true rfl) (c_Md_end (d := d) (r := 40) (S2 := List.replicate j1 d0 ++ S') HG (by omega) hxB (by omega) hwx) ?_
        refine z_istore_n d_Md_matches_56 rfl (by decide) ?_
        refine z_aload_n d_Md_matches_57 rfl rfl ?_
        refine z_mg HG d_Md_matches_58 (L_Md_38 HG) (by decide) rfl ?_
        refine z_iload d_Md_matches_61 rfl ?_
        refine z_bipush (v := nI 100) d_Md_matches_63 (by decide +kernel) ?_
        refine z_isub d_Md_matches_65 ?_
        refine z_eqi (pk_sub (by omega)) ?_
        refine z_iload_n d_Md_matches_66 rfl rfl ?_
        refine z_ms HG 10 d_Md_matches_67 (by decide) (show _ < 4 by omega) ?_
        refine z_goto (tgt := 88) d_Md_matches_68 rfl ?_
        refine z_iinc (v := nI (k + 1)) d_Md_matches_88 rfl (i_inc _) (by decide) ?_
        refine z_goto (tgt := 5) d_Md_matches_91 rfl ?_
        refine z_fg [(0, .ref q), (1, .int (nI ru)), (3, .int (nI (i + p_end 1 (x.drop i)))), (4, .int (nI (k + 1)))] ⟨rfl, rfl, rfl, rfl, trivial⟩ ?_
        have b1 : ∀ j, j ≠ 9 → j ≠ 10 → va_up B 10 (upd (B 10) (v - 100) (nI (i + p_end 1 (x.drop i)))) j = A j := fun j h1 h2 => (va_up_ne _ _ h2).trans (a1 j h1)
        have b2 : va_up B 10 (upd (B 10) (v - 100) (nI (i + p_end 1 (x.drop i)))) 9 = upd (A 9) (v - 100) (nI i) := (va_up_ne _ _ (by decide)).trans a2
        have b3 : va_up B 10 (upd (B 10) (v - 100) (nI (i + p_end 1 (x.drop i)))) 10 = upd (A 10) (v - 100) (nI (i + p_end 1 (x.drop i))) := by
          rw [va_up_self, a1 10 (by decide)]
        generalize va_up B 10 (upd (B 10) (v - 100) (nI (i + p_end 1 (x.drop i)))) = C at b1 b2 b3 ⊢
        refine z_Vm (ih (k + 1) (i + p_end 1 (x.drop i)) j1 (va_up g (v - 100) i) C (by omega) hed sp hwl2 (hx.eqv (b1 1 (by decide) (by decide)) (b1 2 (by decide) (by decide))) (hl.eqv (b1 1 (by decide) (by decide)) (b1 2 (by decide) (by decide)))) (fun o s' A' hh => ?_)
        obtain ⟨e1, e2, e3, e4⟩ := hh
        refine ⟨e1, e2, fun j h1 h2 => (e3 j h1 h2).trans (b1 j h1 h2), fun hm j hj hjj => e4 hm j hj ?_⟩
        unfold m_gt
        rw [b2, b3]
        by_cases hjv : j = v - 100
        · right
          rw [hjv, va_up_self]
          exact ⟨if_pos rfl, if_pos rfl⟩
        · rw [va_up_ne _ _ hjv]
          rcases hjj with hjj | hjj
          · left
            rcases List.mem_cons.mp hjj with hjj | hjj
            · omega
            · exact hjj
          · exact Or.inr ⟨(if_neg hjv).trans hjj.1, (if_neg hjv).trans hjj.2⟩
theorem c_Md_matches (HG : z_ok G) {R : List Nat × List Nat × Nat} (hru : ru < 8) (hp : p < x.length) (hw : p_wf n [0] x) (hR : p_rok R) (hx : mrow A 40 x) (hl : mrow A (24 + ru) R.1) : z_C G m_Md_matches (d + 2) [.ref q, .int (nI ru), .int (nI p)] (md G h q s A) (m_post G h q (fun o s' A' => o = some (.int (if (p_match R.2.2 x R.1 p (fun _ => 0)).1 = true then nI 1 else nI 0)) ∧ s' = s ∧ m_ft A A' ∧ ((p_match R.2.2 x R.1 p (fun _ => 0)).1 = true → ∀ j, j < R.2.2 → m_gt A' x (p_match R.2.2 x R.1 p (fun _ => 0)).2 j))) := by
  obtain ⟨r1, r2, r3, r4, r5⟩ := hR
  obtain ⟨k1, -⟩ := p_wf_at (i := p) hw (Nat.le_of_lt hp)
  have hne : x.drop p ≠ [] := by
    intro hh
    rw [List.drop_eq_getElem_cons hp] at hh
    cases hh
  obtain ⟨d0, S, e⟩ := p_wf_ne k1 hne
  rw [e] at k1
  refine z_C.of (Nat.le_of_ble_eq_true rfl) ?_
  refine z_iload_n d_Md_matches_0 rfl rfl ?_
  refine z_istore_n d_Md_matches_1 rfl (by decide) ?_
  refine z_iconst (v := nI 0) d_Md_matches_2 (by decide) ?_
  refine z_istore d_Md_matches_3 (by decide) ?_
  refine z_fg [(0, .ref q), (1, .int (nI ru)), (3, .int (nI p)), (4, .int (nI 0))] ⟨rfl, rfl, rfl, rfl, trivial⟩ ?_
  refine z_Vm (l_Md_matches (ll := R.1) (x := x) (d0 := d0) (S' := S) HG hru r5 r3 R.1.length 0 p 1 (fun _ => 0) A (by omega) (Nat.le_of_lt hp) k1 r1 hx hl) (fun o s' A' hh => ?_)
  rw [List.drop_zero] at hh
  obtain ⟨e1, e2, e3, e4⟩ := hh
  exact ⟨e1, e2, e3, fun hm j hj => e4 hm j hj (Or.inl (r4 j hj))⟩
/-- what redex says of the place p -/
def m_rx (Rs : List (List Nat × List Nat × Nat)) (x : List Nat) (p : Nat) (A' : Nat → Nat → Int32) (v : Int32) : Prop :=
  (v = (-1) ∧ x[p]? = some 2 ∧ x[p + 1]? = some 3) ∨ (v = (-2) ∧ ¬ (x[p]? = some 2 ∧ x[p + 1]? = some 3) ∧ p_first x p Rs = none) ∨ ∃ k R, v = nI k ∧ ¬ (x[p]? = some 2 ∧ x[p + 1]? = some 3) ∧ p_first x p Rs = some R ∧ Rs[k]? = some R ∧ ∀ j, j < R.2.2 → m_gt A' x (p_match R.2.2 x R.1 p (fun _ => 0)).2 j
theorem l_Md_redex (HG : z_ok G) {Rs : List (List Nat × List Nat × Nat)} (hp : p < x.length) (hw : p_wf n [0] x) (hR : p_rsok Rs) (hb : ¬ (x[p]? = some 2 ∧ x[p + 1]? = some 3)) (h8 : s 8 = nI Rs.length) : ∀ (c k : Nat) (A : Nat → Nat → Int32), k + c = Rs.length → p_first x p Rs = p_first x p (Rs.drop k) → mrow A 40 x → m_rs A Rs →
    z_V G m_Md_redex (d + 3) 28 [(0, .ref q), (1, .int (nI p)), (2, .int (nI k))] [] (md G h q s A) (m_post G h q (fun o s' A' => s' = s ∧ m_ft A A' ∧ ∃ v, o = some (.int v) ∧ m_rx Rs x p A' v)) := by
  intro c
  induction c with
  | zero =>
    intro k A hk hf hx hr
    have hr8 := hr.1
    refine z_iload_n d_Md_redex_28 rfl rfl ?_
    refine z_aload_n d_Md_redex_29 rfl rfl ?_
    refine z_mg HG d_Md_redex_30 (L_Md_75 HG) (by decide) rfl ?_
    refine z_eqi h8 ?_
    refine z_icmp_ge (tgt := 53) d_Md_redex_33 rfl (fun c33 => ?_) (fun c33 => ?_)
    · rw [nI_leI (by omega) (by omega)] at c33
      refine z_bipush (v := (-2)) d_Md_redex_53 (by decide +kernel) ?_
      exact z_ireturn d_Md_redex_55 rfl rfl ⟨_, _, _, rfl, rfl, rfl, fun _ _ _ => rfl, _, rfl, Or.inr (Or.inl ⟨rfl, hb, by rw [hf, List.drop_eq_nil_of_le (by omega)]; rfl⟩)⟩
    · rw [nI_leI (by omega) (by omega)] at c33
      omega
  | succ c ih =>
    intro k A hk hf hx hr
    have hr8 := hr.1
    have hx40 := hx.len
    have hkl : k < Rs.length := by omega
    have hg := List.getElem?_eq_getElem hkl
    have hRk : p_rok Rs[k] := hR _ (List.getElem_mem hkl)
    rw [List.drop_eq_getElem_cons hkl] at hf
    generalize Rs[k] = R at hg hRk hf
    have hrow := (hr.2 k R hg).1
    refine z_iload_n d_Md_redex_28 rfl rfl ?_
    refine z_aload_n d_Md_redex_29 rfl rfl ?_
    refine z_mg HG d_Md_redex_30 (L_Md_75 HG) (by decide) rfl ?_
    refine z_eqi h8 ?_
    refine z_icmp_ge (tgt := 53) d_Md_redex_33 rfl (fun c33 => ?_) (fun c33 => ?_)
    · rw [nI_leI (by omega) (by omega)] at c33
      omega
    · rw [nI_leI (by omega) (by omega)] at c33
      refine z_aload_n d_Md_redex_36 rfl rfl ?_
      refine z_iload_n d_Md_redex_37 rfl rfl ?_
      refine z_iload_n d_Md_redex_38 rfl rfl ?_
      refine z_mc (as := [.int (nI k), .int (nI p)]) (dY := d + 2) HG d_Md_redex_39 rfl (by omega) (Y_Md_78 HG) rfl rfl (Nat.le_of_ble_eq_true rfl) (c_Md_matches HG (by omega) hp hw hRk hx hrow) (fun v1 s1 A1 hp1 => ?_)
      obtain ⟨rfl, rfl, e3, e4⟩ := hp1
      refine z_if_eq (tgt := 47) d_Md_redex_42 rfl (fun c42 => ?_) (fun c42 => ?_)
      · have c42 := b_eq c42
        refine z_iinc (v := nI (k + 1)) d_Md_redex_47 rfl (i_inc _) (by decide) ?_
        refine z_goto (tgt := 28) d_Md_redex_50 rfl ?_
        refine z_fg [(0, .ref q), (1, .int (nI p)), (2, .int (nI (k + 1)))] ⟨rfl, rfl, rfl, trivial⟩ ?_
        refine z_Vm (ih (k + 1) A1 (by omega) ?_ (e3.row hx) (hr.sx e3.sx)) (fun o s' A' hh => ⟨hh.1, e3.tr hh.2.1, hh.2.2⟩)
        rw [hf]
        show (if (p_match R.2.2 x R.1 p (fun _ => 0)).1 = true then _ else _) = _
        rw [if_neg c42]
      · have c42 := b_ne c42
        refine z_iload_n d_Md_redex_45 rfl rfl ?_
        exact z_ireturn d_Md_redex_46 rfl rfl ⟨_, _, _, rfl, rfl, rfl, e3, _, rfl, Or.inr (Or.inr ⟨k, R, rfl, hb, by rw [hf]; exact if_pos c42, hg, e4 c42⟩)⟩
theorem c_Md_redex (HG : z_ok G) {Rs : List (List Nat × List Nat × Nat)} (hp : p < x.length) (hw : p_wf n [0] x) (hR : p_rsok Rs) (h8 : s 8 = nI Rs.length) (hx : mrow A 40 x) (hr : m_rs A Rs) : z_C G m_Md_redex (d + 3) [.ref q, .int (nI p)] (md G h q s A) (m_post G h q (fun o s' A' => s' = s ∧ m_ft A A' ∧ ∃ v, o = some (.int v) ∧ m_rx Rs x p A' v)) := by
  have hx40 := hx.len
  have hxp := hx.lt hp
  have fin : ¬ (x[p]? = some 2 ∧ x[p + 1]? = some 3) → z_V G m_Md_redex (d + 3) 26 [(0, .ref q), (1, .int (nI p))] [] (md G h q s A) (m_post G h q (fun o s' A' => s' = s ∧ m_ft A A' ∧ ∃ v, o = some (.int v) ∧ m_rx Rs x p A' v)) := by
    intro hb
    refine z_iconst (v := nI 0) d_Md_redex_26 (by decide) ?_
    refine z_istore_n d_Md_redex_27 rfl (by decide) ?_
    refine z_fg [(0, .ref q), (1, .int (nI p)), (2, .int (nI 0))] ⟨rfl, rfl, rfl, trivial⟩ ?_
    exact l_Md_redex HG hp hw hR hb h8 Rs.length 0 A (by omega) (by rw [List.drop_zero]) hx hr
  refine z_C.of (Nat.le_of_ble_eq_true rfl) ?_
  refine z_aload_n d_Md_redex_0 rfl rfl ?_
  refine z_bipush (v := nI 40) d_Md_redex_1 (by decide +kernel) ?_
  refine z_iload_n d_Md_redex_3 rfl rfl ?_
  refine z_mr (as := [.int (nI 40), .int (nI p)]) (dY := d) HG d_Md_redex_4 rfl (by omega) (Y_Md_49 HG) rfl rfl (Nat.le_of_ble_eq_true rfl) (c_Md_at (r := 40) HG (by omega) (hx.eq hp)) ?_
  refine z_iconst (v := nI 2) d_Md_redex_7 (by decide) ?_
  refine z_icmp_ne (tgt := 26) d_Md_redex_8 rfl (fun c8 => ?_) (fun c8 => ?_)
  · rw [nI_eq (by omega) (by omega)] at c8
    exact fin (fun hh => c8 ((l_g? hp).mp hh.1))
  · rw [nI_eq (by omega) (by omega)] at c8
    have h2 : x[p]? = some 2 := (l_g? hp).mpr c8
    have hp1 : p + 1 < x.length := by
      obtain ⟨k1, -⟩ := p_wf_at (i := p) hw (Nat.le_of_lt hp)
      rw [l_d2 h2] at k1
      obtain ⟨d1, S1, e⟩ := p_wf_ne k1 (by simp)
      rw [e] at k1
      apply Classical.byContradiction
      intro hh
      have k2 := k1.2
      rw [List.drop_eq_nil_of_le (by omega)] at k2
      cases k2
    have hxp1 := hx.lt hp1
    refine z_aload_n d_Md_redex_11 rfl rfl ?_
    refine z_bipush (v := nI 40) d_Md_redex_12 (by decide +kernel) ?_
    refine z_iload_n d_Md_redex_14 rfl rfl ?_
    refine z_iconst (v := nI 1) d_Md_redex_15 (by decide) ?_
    refine z_iadd d_Md_redex_16 ?_
    refine z_eqi (nI_add _ _) ?_
    refine z_mr (as := [.int (nI 40), .int (nI (p + 1))]) (dY := d) HG d_Md_redex_17 rfl (by omega) (Y_Md_49 HG) rfl rfl (Nat.le_of_ble_eq_true rfl) (c_Md_at (r := 40) HG (by omega) (hx.eq hp1)) ?_
    refine z_iconst (v := nI 3) d_Md_redex_20 (by decide) ?_
    refine z_icmp_ne (tgt := 26) d_Md_redex_21 rfl (fun c21 => ?_) (fun c21 => ?_)
    · rw [nI_eq (by omega) (by omega)] at c21
      exact fin (fun hh => c21 ((l_g? hp1).mp hh.2))
    · rw [nI_eq (by omega) (by omega)] at c21
      refine z_iconst (v := -1) d_Md_redex_24 (by decide) ?_
      exact z_ireturn d_Md_redex_25 rfl rfl ⟨_, _, _, rfl, rfl, rfl, fun _ _ _ => rfl, _, rfl, Or.inl ⟨rfl, h2, (l_g? hp1).mpr c21⟩⟩
end MM
