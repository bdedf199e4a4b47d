/-! the reference: depths, shifted terms, terms put for variable 0 -/
theorem nI_100 (b d : Nat) : nI 100 + nI (b + d) - nI b = nI (100 + d) := by
  rw [nI_add, pk_sub (by omega)]
  congr 1
  omega
theorem pk_bump {x y : Nat} (h : x = y) : nI x = nI y := congrArg nI h
/-- the depths that await, the latest on top -/
def m_pd (g : Nat → Int32) : List Nat → Prop
  | [] => True
  | d :: S => g S.length = nI d ∧ m_pd g S
theorem m_pd.upd {g : Nat → Int32} {x : Int32} : ∀ {S : List Nat} {j : Nat}, S.length ≤ j → m_pd g S → m_pd (upd g j x) S
  | [], _, _, _ => trivial
  | d :: S, j, hj, h => by
    have hj2 : S.length + 1 ≤ j := hj
    exact ⟨(if_neg (by omega)).trans h.1, m_pd.upd (by omega) h.2⟩
/-- depths were written to the array k, and to the awaited ones -/
def m_ms (k : Nat) (A A' : Nat → Nat → Int32) : Prop := ∀ j, j ≠ 8 → j ≠ k → A' j = A j
theorem m_ms.row {k r : Nat} {A A' : Nat → Nat → Int32} {l : List Nat} (H : m_ms k A A') (hk : k = 6 ∨ k = 7) (h : mrow A r l) : mrow A' r l := by
  unfold mrow
  rw [H 1 (by omega) (by omega), H 2 (by omega) (by omega)]
  exact h
section ME
variable {G : z_G} {h : z_H} {q d r p n : Nat} {s : Nat → Int32} {A : Nat → Nat → Int32} {l l' : List Nat}
theorem l_Md_measure (HG : z_ok G) (hr : r < 43) {t k : Nat} (ht : t = 0 ∧ k = 6 ∨ t = 1 ∧ k = 7) : ∀ (c i : Nat) (S : List Nat) (A : Nat → Nat → Int32), mrow A r l → i + c = l.length → S.length ≤ i + 1 → m_pd (A 8) S → p_wf n S (l.drop i) →
    z_V G m_Md_measure (d + 1) 12 [(0, .ref q), (1, .int (nI r)), (2, .int (nI t)), (3, .int (nI S.length)), (4, .int (nI i))] [] (md G h q s A) (m_post G h q (fun o s' A' => o = none ∧ s' = s ∧ m_ms k A A' ∧ (∀ y, y < i → A' k y = A k y) ∧ dpA (A' k) 0 i S (l.drop i))) := by
  intro c
  induction c with
  | zero =>
    intro i S A hl hi hS hg hw
    have h40 := hl.len
    refine z_iload d_Md_measure_12 rfl ?_
    refine z_aload_n d_Md_measure_14 rfl rfl ?_
    refine z_mg HG d_Md_measure_15 (L_Md_13 HG) (by decide) rfl ?_
    refine z_iload_n d_Md_measure_18 rfl rfl ?_
    refine z_ml HG 2 d_Md_measure_19 (by decide) (show _ < 43 by omega) hl.1 ?_
    refine z_icmp_ge (tgt := 116) d_Md_measure_20 rfl (fun c20 => ?_) (fun c20 => ?_)
    · rw [nI_leI (by omega) (by omega)] at c20
      exact z_return d_Md_measure_116 rfl ⟨_, _, _, rfl, rfl, rfl, rfl, fun _ _ _ => rfl, fun _ _ => rfl, by rw [List.drop_eq_nil_of_le (by omega)]; cases S <;> trivial⟩
    · rw [nI_leI (by omega) (by omega)] at c20
      omega
  | succ c ih =>
    intro i S A hl hi hS hg hw
    have h40 := hl.len
    rw [l_dc (l := l) (i := i) (by omega)] at hw ⊢
    obtain ⟨d0, S3, rfl⟩ : ∃ d0 S3, S = d0 :: S3 := by
      cases S with
      | nil => exact hw.elim
      | cons d0 S3 => exact ⟨d0, S3, rfl⟩
    have hS3 : S3.length + 1 ≤ i + 1 := hS
    have hlt := hl.lt (i := i) (by omega)
    have hw2 : p_wf n (p_aw (l.getD i 0) d0 S3) (l.drop (i + 1)) := hw.2
    have hpa : p_aw (l.getD i 0) d0 S3 = if p_two (l.getD i 0) = true then d0 :: (if l.getD i 0 = 2 then d0 else d0 + 1) :: S3 else S3 := rfl
    have hdp : ∀ f : Nat → Int32, f i = nI d0 → dpA f 0 (i + 1) (p_aw (l.getD i 0) d0 S3) (l.drop (i + 1)) → dpA f 0 i (d0 :: S3) (l.getD i 0 :: l.drop (i + 1)) := fun f h1 h2 => ⟨h1.trans (by rw [Nat.zero_add]), h2⟩
    refine z_iload d_Md_measure_12 rfl ?_
    refine z_aload_n d_Md_measure_14 rfl rfl ?_
    refine z_mg HG d_Md_measure_15 (L_Md_13 HG) (by decide) rfl ?_
    refine z_iload_n d_Md_measure_18 rfl rfl ?_
    refine z_ml HG 2 d_Md_measure_19 (by decide) (show _ < 43 by omega) hl.1 ?_
    refine z_icmp_ge (tgt := 116) d_Md_measure_20 rfl (fun c20 => ?_) (fun c20 => ?_)
    · rw [nI_leI (by omega) (by omega)] at c20
      omega
    · rw [nI_leI (by omega) (by omega)] at c20
      refine z_iinc (v := (nI S3.length)) d_Md_measure_23 rfl (pk_m1 _) (by decide) ?_
      refine z_aload_n d_Md_measure_26 rfl rfl ?_
      refine z_mg HG d_Md_measure_27 (L_Md_32 HG) (by decide) rfl ?_
      refine z_iload_n d_Md_measure_30 rfl rfl ?_
      refine z_ml HG 8 d_Md_measure_31 (by decide) (show _ < 48 by omega) hg.1 ?_
      refine z_istore d_Md_measure_32 (by decide) ?_
      refine z_aload_n d_Md_measure_34 rfl rfl ?_
      refine z_iload_n d_Md_measure_35 rfl rfl ?_
      refine z_iload d_Md_measure_36 rfl ?_
      refine z_mr (as := [.int (nI r), .int (nI i)]) (dY := d) HG d_Md_measure_38 rfl (by omega) (Y_Md_49 HG) rfl rfl (Nat.le_of_ble_eq_true rfl) (c_Md_at HG (by omega) (hl.eq (by omega))) ?_
      refine z_istore d_Md_measure_41 (by decide) ?_
      refine z_iload_n d_Md_measure_43 rfl rfl ?_
      refine z_if_eq (tgt := 59) d_Md_measure_44 rfl (fun c44 => ?_) (fun c44 => ?_)
      · rw [← nI_0, nI_eq (by omega) (by omega)] at c44
        obtain ⟨rfl, rfl⟩ : t = 0 ∧ k = 6 := by omega
        refine z_aload_n d_Md_measure_59 rfl rfl ?_
        refine z_mg HG d_Md_measure_60 (L_Md_26 HG) (by decide) rfl ?_
        refine z_iload d_Md_measure_63 rfl ?_
        refine z_iload d_Md_measure_65 rfl ?_
        refine z_ms HG 6 d_Md_measure_67 (by decide) (show _ < 40 by omega) ?_
        have ea : ∀ j, j ≠ 6 → va_up A 6 (upd (A 6) i (nI d0)) j = A j := fun j hj => va_up_ne _ _ hj
        have eb : va_up A 6 (upd (A 6) i (nI d0)) 6 = upd (A 6) i (nI d0) := va_up_self _ _ _
        generalize va_up A 6 (upd (A 6) i (nI d0)) = B at ea eb ⊢
        have hlB : mrow B r l := by
          unfold mrow
          rw [ea 1 (by omega), ea 2 (by omega)]
          exact hl
        have hgB : m_pd (B 8) S3 := by
          rw [ea 8 (by omega)]
          exact hg.2
        have eB : B 6 i = nI d0 := by
          rw [eb]
          exact if_pos rfl
        have eC : ∀ y, y < i → B 6 y = A 6 y := fun y hy => by
          rw [eb]
          exact if_neg (by omega)
        refine z_iload d_Md_measure_68 rfl ?_
        refine z_callS1r (dY := d) d_Md_measure_70 rfl (by omega) (Y_Md_60 HG) (Nat.le_of_ble_eq_true rfl) (c_Md_isPair HG hlt) ?_
        refine z_if_eq (tgt := 110) d_Md_measure_73 rfl (fun c73 => ?_) (fun c73 => ?_)
        · have c73 := b_eq c73
          refine z_iinc (v := nI (i + 1)) d_Md_measure_110 rfl (i_inc _) (by decide) ?_
          refine z_goto (tgt := 12) d_Md_measure_113 rfl ?_
          refine z_fg [(0, .ref q), (1, .int (nI r)), (2, .int (nI 0)), (3, .int (nI S3.length)), (4, .int (nI (i + 1)))] ⟨rfl, rfl, rfl, rfl, rfl, trivial⟩ ?_
          rw [if_neg c73] at hpa
          rw [hpa] at hw2
          refine z_Vm (ih (i + 1) S3 B hlB (by omega) (by omega) hgB hw2) (fun v s' A' hh => ?_)
          obtain ⟨h1, h2, h3, h4, h5⟩ := hh
          refine ⟨h1, h2, fun j j1 j2 => (h3 j j1 j2).trans (ea j j2), fun y hy => (h4 y (by omega)).trans (eC y hy), hdp _ ((h4 i (by omega)).trans eB) ?_⟩
          rw [hpa]
          exact h5
        · have c73 := b_ne c73
          refine z_aload_n d_Md_measure_76 rfl rfl ?_
          refine z_mg HG d_Md_measure_77 (L_Md_32 HG) (by decide) rfl ?_
          refine z_iload_n d_Md_measure_80 rfl rfl ?_
          refine z_iload d_Md_measure_81 rfl ?_
          refine z_iconst (v := nI 2) d_Md_measure_83 (by decide) ?_
          refine z_icmp_ne (tgt := 92) d_Md_measure_84 rfl (fun c84 => ?_) (fun c84 => ?_)
          · rw [nI_eq (by omega) (by omega)] at c84
            refine z_iload d_Md_measure_92 rfl ?_
            refine z_iconst (v := nI 1) d_Md_measure_94 (by decide) ?_
            refine z_iadd d_Md_measure_95 ?_
            refine z_eqi (nI_add _ _) ?_
            refine z_ms HG 8 d_Md_measure_96 (by decide) (show _ < 48 by omega) ?_
            refine z_aload_n d_Md_measure_97 rfl rfl ?_
            refine z_mg HG d_Md_measure_98 (L_Md_32 HG) (by decide) rfl ?_
            refine z_iload_n d_Md_measure_101 rfl rfl ?_
            refine z_iconst (v := nI 1) d_Md_measure_102 (by decide) ?_
            refine z_iadd d_Md_measure_103 ?_
            refine z_eqi (nI_add _ _) ?_
            refine z_iload d_Md_measure_104 rfl ?_
            refine z_ms HG 8 d_Md_measure_106 (by decide) (show _ < 48 by omega) ?_
            refine z_iinc (v := (nI (S3.length + 2))) d_Md_measure_107 rfl (by first | exact nI_add _ 2 | rfl) (by decide) ?_
            refine z_iinc (v := nI (i + 1)) d_Md_measure_110 rfl (i_inc _) (by decide) ?_
            refine z_goto (tgt := 12) d_Md_measure_113 rfl ?_
            refine z_fg [(0, .ref q), (1, .int (nI r)), (2, .int (nI 0)), (3, .int (nI (S3.length + 2))), (4, .int (nI (i + 1)))] ⟨rfl, rfl, rfl, rfl, rfl, trivial⟩ ?_
            rw [if_pos c73, if_neg c84] at hpa
            rw [hpa] at hw2
            have ec : ∀ j, j ≠ 8 → va_up (va_up B 8 (upd (B 8) S3.length (nI (d0 + 1)))) 8 (upd (va_up B 8 (upd (B 8) S3.length (nI (d0 + 1))) 8) (S3.length + 1) (nI d0)) j = B j := fun j hj => (va_up_ne _ _ hj).trans (va_up_ne _ _ hj)
            have ed : va_up (va_up B 8 (upd (B 8) S3.length (nI (d0 + 1)))) 8 (upd (va_up B 8 (upd (B 8) S3.length (nI (d0 + 1))) 8) (S3.length + 1) (nI d0)) 8 = upd (upd (B 8) S3.length (nI (d0 + 1))) (S3.length + 1) (nI d0) := by
              rw [va_up_self, va_up_self]
            generalize va_up (va_up B 8 (upd (B 8) S3.length (nI (d0 + 1)))) 8 (upd (va_up B 8 (upd (B 8) S3.length (nI (d0 + 1))) 8) (S3.length + 1) (nI d0)) = C at ec ed ⊢
            have hlC : mrow C r l := by
              unfold mrow
              rw [ec 1 (by omega), ec 2 (by omega)]
              exact hlB
            refine z_Vm (ih (i + 1) (d0 :: (d0 + 1) :: S3) C hlC (by omega) (by show S3.length + 2 ≤ i + 1 + 1; omega) (by rw [ed]; exact ⟨if_pos rfl, (if_neg (by omega)).trans (if_pos rfl), (hgB.upd (Nat.le_refl _)).upd (by omega)⟩) hw2) (fun v s' A' hh => ?_)
            obtain ⟨h1, h2, h3, h4, h5⟩ := hh
            refine ⟨h1, h2, fun j j1 j2 => (h3 j j1 j2).trans ((ec j j1).trans (ea j j2)), fun y hy => (h4 y (by omega)).trans ((congrFun (ec 6 (by omega)) y).trans (eC y hy)), hdp _ ((h4 i (by omega)).trans ((congrFun (ec 6 (by omega)) i).trans eB)) ?_⟩
            rw [hpa]
            exact h5
          · rw [nI_eq (by omega) (by omega)] at c84
            refine z_iload d_Md_measure_87 rfl ?_
            refine z_goto (tgt := 96) d_Md_measure_89 rfl ?_
            refine z_ms HG 8 d_Md_measure_96 (by decide) (show _ < 48 by omega) ?_
            refine z_aload_n d_Md_measure_97 rfl rfl ?_
            refine z_mg HG d_Md_measure_98 (L_Md_32 HG) (by decide) rfl ?_
            refine z_iload_n d_Md_measure_101 rfl rfl ?_
            refine z_iconst (v := nI 1) d_Md_measure_102 (by decide) ?_
            refine z_iadd d_Md_measure_103 ?_
            refine z_eqi (nI_add _ _) ?_
            refine z_iload d_Md_measure_104 rfl ?_
            refine z_ms HG 8 d_Md_measure_106 (by decide) (show _ < 48 by omega) ?_
            refine z_iinc (v := (nI (S3.length + 2))) d_Md_measure_107 rfl (by first | exact nI_add _ 2 | rfl) (by decide) ?_
            refine z_iinc (v := nI (i + 1)) d_Md_measure_110 rfl (i_inc _) (by decide) ?_
            refine z_goto (tgt := 12) d_Md_measure_113 rfl ?_
            refine z_fg [(0, .ref q), (1, .int (nI r)), (2, .int (nI 0)), (3, .int (nI (S3.length + 2))), (4, .int (nI (i + 1)))] ⟨rfl, rfl, rfl, rfl, rfl, trivial⟩ ?_
            rw [if_pos c73, if_pos c84] at hpa
            rw [hpa] at hw2
            have ec : ∀ j, j ≠ 8 → va_up (va_up B 8 (upd (B 8) S3.length (nI (d0)))) 8 (upd (va_up B 8 (upd (B 8) S3.length (nI (d0))) 8) (S3.length + 1) (nI d0)) j = B j := fun j hj => (va_up_ne _ _ hj).trans (va_up_ne _ _ hj)
            have ed : va_up (va_up B 8 (upd (B 8) S3.length (nI (d0)))) 8 (upd (va_up B 8 (upd (B 8) S3.length (nI (d0))) 8) (S3.length + 1) (nI d0)) 8 = upd (upd (B 8) S3.length (nI (d0))) (S3.length + 1) (nI d0) := by
              rw [va_up_self, va_up_self]
            generalize va_up (va_up B 8 (upd (B 8) S3.length (nI (d0)))) 8 (upd (va_up B 8 (upd (B 8) S3.length (nI (d0))) 8) (S3.length + 1) (nI d0)) = C at ec ed ⊢
            have hlC : mrow C r l := by
              unfold mrow
              rw [ec 1 (by omega), ec 2 (by omega)]
              exact hlB
            refine z_Vm (ih (i + 1) (d0 :: (d0) :: S3) C hlC (by omega) (by show S3.length + 2 ≤ i + 1 + 1; omega) (by rw [ed]; exact ⟨if_pos rfl, (if_neg (by omega)).trans (if_pos rfl), (hgB.upd (Nat.le_refl _)).upd (by omega)⟩) hw2) (fun v s' A' hh => ?_)
            obtain ⟨h1, h2, h3, h4, h5⟩ := hh
            refine ⟨h1, h2, fun j j1 j2 => (h3 j j1 j2).trans ((ec j j1).trans (ea j j2)), fun y hy => (h4 y (by omega)).trans ((congrFun (ec 6 (by omega)) y).trans (eC y hy)), hdp _ ((h4 i (by omega)).trans ((congrFun (ec 6 (by omega)) i).trans eB)) ?_⟩
            rw [hpa]
            exact h5
      · rw [← nI_0, nI_eq (by omega) (by omega)] at c44
        obtain ⟨rfl, rfl⟩ : t = 1 ∧ k = 7 := by omega
        refine z_aload_n d_Md_measure_47 rfl rfl ?_
        refine z_mg HG d_Md_measure_48 (L_Md_29 HG) (by decide) rfl ?_
        refine z_iload d_Md_measure_51 rfl ?_
        refine z_iload d_Md_measure_53 rfl ?_
        refine z_ms HG 7 d_Md_measure_55 (by decide) (show _ < 40 by omega) ?_
        refine z_goto (tgt := 68) d_Md_measure_56 rfl ?_
        have ea : ∀ j, j ≠ 7 → va_up A 7 (upd (A 7) i (nI d0)) j = A j := fun j hj => va_up_ne _ _ hj
        have eb : va_up A 7 (upd (A 7) i (nI d0)) 7 = upd (A 7) i (nI d0) := va_up_self _ _ _
        generalize va_up A 7 (upd (A 7) i (nI d0)) = B at ea eb ⊢
        have hlB : mrow B r l := by
          unfold mrow
          rw [ea 1 (by omega), ea 2 (by omega)]
          exact hl
        have hgB : m_pd (B 8) S3 := by
          rw [ea 8 (by omega)]
          exact hg.2
        have eB : B 7 i = nI d0 := by
          rw [eb]
          exact if_pos rfl
        have eC : ∀ y, y < i → B 7 y = A 7 y := fun y hy => by
          rw [eb]
          exact if_neg (by omega)
        refine z_iload d_Md_measure_68 rfl ?_
        refine z_callS1r (dY := d) d_Md_measure_70 rfl (by omega) (Y_Md_60 HG) (Nat.le_of_ble_eq_true rfl) (c_Md_isPair HG hlt) ?_
        refine z_if_eq (tgt := 110) d_Md_measure_73 rfl (fun c73 => ?_) (fun c73 => ?_)
        · have c73 := b_eq c73
          refine z_iinc (v := nI (i + 1)) d_Md_measure_110 rfl (i_inc _) (by decide) ?_
          refine z_goto (tgt := 12) d_Md_measure_113 rfl ?_
          refine z_fg [(0, .ref q), (1, .int (nI r)), (2, .int (nI 1)), (3, .int (nI S3.length)), (4, .int (nI (i + 1)))] ⟨rfl, rfl, rfl, rfl, rfl, trivial⟩ ?_
          rw [if_neg c73] at hpa
          rw [hpa] at hw2
          refine z_Vm (ih (i + 1) S3 B hlB (by omega) (by omega) hgB hw2) (fun v s' A' hh => ?_)
          obtain ⟨h1, h2, h3, h4, h5⟩ := hh
          refine ⟨h1, h2, fun j j1 j2 => (h3 j j1 j2).trans (ea j j2), fun y hy => (h4 y (by omega)).trans (eC y hy), hdp _ ((h4 i (by omega)).trans eB) ?_⟩
          rw [hpa]
          exact h5
        · have c73 := b_ne c73
          refine z_aload_n d_Md_measure_76 rfl rfl ?_
          refine z_mg HG d_Md_measure_77 (L_Md_32 HG) (by decide) rfl ?_
          refine z_iload_n d_Md_measure_80 rfl rfl ?_
          refine z_iload d_Md_measure_81 rfl ?_
          refine z_iconst (v := nI 2) d_Md_measure_83 (by decide) ?_
          refine z_icmp_ne (tgt := 92) d_Md_measure_84 rfl (fun c84 => ?_) (fun c84 => ?_)
          · rw [nI_eq (by omega) (by omega)] at c84
            refine z_iload d_Md_measure_92 rfl ?_
            refine z_iconst (v := nI 1) d_Md_measure_94 (by decide) ?_
            refine z_iadd d_Md_measure_95 ?_
            refine z_eqi (nI_add _ _) ?_
            refine z_ms HG 8 d_Md_measure_96 (by decide) (show _ < 48 by omega) ?_
            refine z_aload_n d_Md_measure_97 rfl rfl ?_
            refine z_mg HG d_Md_measure_98 (L_Md_32 HG) (by decide) rfl ?_
            refine z_iload_n d_Md_measure_101 rfl rfl ?_
            refine z_iconst (v := nI 1) d_Md_measure_102 (by decide) ?_
            refine z_iadd d_Md_measure_103 ?_
            refine z_eqi (nI_add _ _) ?_
            refine z_iload d_Md_measure_104 rfl ?_
            refine z_ms HG 8 d_Md_measure_106 (by decide) (show _ < 48 by omega) ?_
            refine z_iinc (v := (nI (S3.length + 2))) d_Md_measure_107 rfl (by first | exact nI_add _ 2 | rfl) (by decide) ?_
            refine z_iinc (v := nI (i + 1)) d_Md_measure_110 rfl (i_inc _) (by decide) ?_
            refine z_goto (tgt := 12) d_Md_measure_113 rfl ?_
            refine z_fg [(0, .ref q), (1, .int (nI r)), (2, .int (nI 1)), (3, .int (nI (S3.length + 2))), (4, .int (nI (i + 1)))] ⟨rfl, rfl, rfl, rfl, rfl, trivial⟩ ?_
            rw [if_pos c73, if_neg c84] at hpa
            rw [hpa] at hw2
            have ec : ∀ j, j ≠ 8 → va_up (va_up B 8 (upd (B 8) S3.length (nI (d0 + 1)))) 8 (upd (va_up B 8 (upd (B 8) S3.length (nI (d0 + 1))) 8) (S3.length + 1) (nI d0)) j = B j := fun j hj => (va_up_ne _ _ hj).trans (va_up_ne _ _ hj)
            have ed : va_up (va_up B 8 (upd (B 8) S3.length (nI (d0 + 1)))) 8 (upd (va_up B 8 (upd (B 8) S3.length (nI (d0 + 1))) 8) (S3.length + 1) (nI d0)) 8 = upd (upd (B 8) S3.length (nI (d0 + 1))) (S3.length + 1) (nI d0) := by
              rw [va_up_self, va_up_self]
            generalize va_up (va_up B 8 (upd (B 8) S3.length (nI (d0 + 1)))) 8 (upd (va_up B 8 (upd (B 8) S3.length (nI (d0 + 1))) 8) (S3.length + 1) (nI d0)) = C at ec ed ⊢
            have hlC : mrow C r l := by
              unfold mrow
              rw [ec 1 (by omega), ec 2 (by omega)]
              exact hlB
            refine z_Vm (ih (i + 1) (d0 :: (d0 + 1) :: S3) C hlC (by omega) (by show S3.length + 2 ≤ i + 1 + 1; omega) (by rw [ed]; exact ⟨if_pos rfl, (if_neg (by omega)).trans (if_pos rfl), (hgB.upd (Nat.le_refl _)).upd (by omega)⟩) hw2) (fun v s' A' hh => ?_)
            obtain ⟨h1, h2, h3, h4, h5⟩ := hh
            refine ⟨h1, h2, fun j j1 j2 => (h3 j j1 j2).trans ((ec j j1).trans (ea j j2)), fun y hy => (h4 y (by omega)).trans ((congrFun (ec 7 (by omega)) y).trans (eC y hy)), hdp _ ((h4 i (by omega)).trans ((congrFun (ec 7 (by omega)) i).trans eB)) ?_⟩
            rw [hpa]
            exact h5
          · rw [nI_eq (by omega) (by omega)] at c84
            refine z_iload d_Md_measure_87 rfl ?_
            refine z_goto (tgt := 96) d_Md_measure_89 rfl ?_
            refine z_ms HG 8 d_Md_measure_96 (by decide) (show _ < 48 by omega) ?_
            refine z_aload_n d_Md_measure_97 rfl rfl ?_
            refine z_mg HG d_Md_measure_98 (L_Md_32 HG) (by decide) rfl ?_
            refine z_iload_n d_Md_measure_101 rfl rfl ?_
            refine z_iconst (v := nI 1) d_Md_measure_102 (by decide) ?_
            refine z_iadd d_Md_measure_103 ?_
            refine z_eqi (nI_add _ _) ?_
            refine z_iload d_Md_measure_104 rfl ?_
            refine z_ms HG 8 d_Md_measure_106 (by decide) (show _ < 48 by omega) ?_
            refine z_iinc (v := (nI (S3.length + 2))) d_Md_measure_107 rfl (by first | exact nI_add _ 2 | rfl) (by decide) ?_
            refine z_iinc (v := nI (i + 1)) d_Md_measure_110 rfl (i_inc _) (by decide) ?_
            refine z_goto (tgt := 12) d_Md_measure_113 rfl ?_
            refine z_fg [(0, .ref q), (1, .int (nI r)), (2, .int (nI 1)), (3, .int (nI (S3.length + 2))), (4, .int (nI (i + 1)))] ⟨rfl, rfl, rfl, rfl, rfl, trivial⟩ ?_
            rw [if_pos c73, if_pos c84] at hpa
            rw [hpa] at hw2
            have ec : ∀ j, j ≠ 8 → va_up (va_up B 8 (upd (B 8) S3.length (nI (d0)))) 8 (upd (va_up B 8 (upd (B 8) S3.length (nI (d0))) 8) (S3.length + 1) (nI d0)) j = B j := fun j hj => (va_up_ne _ _ hj).trans (va_up_ne _ _ hj)
            have ed : va_up (va_up B 8 (upd (B 8) S3.length (nI (d0)))) 8 (upd (va_up B 8 (upd (B 8) S3.length (nI (d0))) 8) (S3.length + 1) (nI d0)) 8 = upd (upd (B 8) S3.length (nI (d0))) (S3.length + 1) (nI d0) := by
              rw [va_up_self, va_up_self]
            generalize va_up (va_up B 8 (upd (B 8) S3.length (nI (d0)))) 8 (upd (va_up B 8 (upd (B 8) S3.length (nI (d0))) 8) (S3.length + 1) (nI d0)) = C at ec ed ⊢
            have hlC : mrow C r l := by
              unfold mrow
              rw [ec 1 (by omega), ec 2 (by omega)]
              exact hlB
            refine z_Vm (ih (i + 1) (d0 :: (d0) :: S3) C hlC (by omega) (by show S3.length + 2 ≤ i + 1 + 1; omega) (by rw [ed]; exact ⟨if_pos rfl, (if_neg (by omega)).trans (if_pos rfl), (hgB.upd (Nat.le_refl _)).upd (by omega)⟩) hw2) (fun v s' A' hh => ?_)
            obtain ⟨h1, h2, h3, h4, h5⟩ := hh
            refine ⟨h1, h2, fun j j1 j2 => (h3 j j1 j2).trans ((ec j j1).trans (ea j j2)), fun y hy => (h4 y (by omega)).trans ((congrFun (ec 7 (by omega)) y).trans (eC y hy)), hdp _ ((h4 i (by omega)).trans ((congrFun (ec 7 (by omega)) i).trans eB)) ?_⟩
            rw [hpa]
            exact h5
theorem c_Md_measure (HG : z_ok G) (hr : r < 43) {t k : Nat} (ht : t = 0 ∧ k = 6 ∨ t = 1 ∧ k = 7) (hl : mrow A r l) (hw : p_wf n [0] l) : z_C G m_Md_measure (d + 1) [.ref q, .int (nI r), .int (nI t)] (md G h q s A) (m_post G h q (fun o s' A' => o = none ∧ s' = s ∧ m_ms k A A' ∧ dpA (A' k) 0 0 [0] l)) := by
  refine z_C.of (Nat.le_of_ble_eq_true rfl) ?_
  refine z_iconst (v := nI 1) d_Md_measure_0 (by decide) ?_
  refine z_istore_n d_Md_measure_1 rfl (by decide) ?_
  refine z_aload_n d_Md_measure_2 rfl rfl ?_
  refine z_mg HG d_Md_measure_3 (L_Md_32 HG) (by decide) rfl ?_
  refine z_iconst (v := nI 0) d_Md_measure_6 (by decide) ?_
  refine z_iconst (v := nI 0) d_Md_measure_7 (by decide) ?_
  refine z_ms HG 8 d_Md_measure_8 (by decide) (show _ < 48 by omega) ?_
  refine z_iconst (v := nI 0) d_Md_measure_9 (by decide) ?_
  refine z_istore d_Md_measure_10 (by decide) ?_
  have hl2 : mrow (va_up A 8 (upd (A 8) 0 (nI 0))) r l := by
    unfold mrow
    rw [va_up_ne _ _ (by decide), va_up_ne _ _ (by decide)]
    exact hl
  refine z_fg [(0, .ref q), (1, .int (nI r)), (2, .int (nI t)), (3, .int (nI 1)), (4, .int (nI 0))] ⟨rfl, rfl, rfl, rfl, rfl, trivial⟩ ?_
  refine z_Vm (l_Md_measure HG hr ht l.length 0 [0] _ hl2 (by omega) (by decide) ⟨by rw [va_up_self]; exact if_pos rfl, trivial⟩ hw) (fun v s' A' hh => ?_)
  obtain ⟨h1, h2, h3, -, h5⟩ := hh
  exact ⟨h1, h2, fun j j1 j2 => (h3 j j1 j2).trans (va_up_ne _ _ j1), h5⟩
theorem l_Md_addShifted (HG : z_ok G) {r2 b e k : Nat} (hr : r < 43) (hr2 : r2 < 43) (hne : r2 ≠ r) (hk : k < 100) (hp : p < 40) (he : e ≤ l'.length) (hb : l'.length ≤ 40) : ∀ (c i m : Nat) (S : List Nat) (l : List Nat) (s : Nat → Int32) (A : Nat → Nat → Int32), i + c = e → c = p_end S.length (l'.drop i) → mrow A r l → mrow A r2 l' → A 6 p = nI b → dpA (A 6) b i S (l'.drop i) → (∀ y ∈ S, y ≤ m) → m ≤ i → (∀ v ∈ l', v < 200) →
    z_V G m_Md_addShifted (d + 1) 3 [(0, .ref q), (1, .int (nI r)), (2, .int (nI r2)), (3, .int (nI p)), (4, .int (nI e)), (5, .int (nI k)), (6, .int (nI i))] [] (md G h q s A) (m_post G h q (fun o s' A' => o = none ∧ m_ad r l (p_lift k S (l'.drop i)) s A s' A')) := by
  intro c
  induction c with
  | zero =>
    intro i m S l s A hi hc hl hl2 hA hD hS hm hv
    refine z_iload d_Md_addShifted_3 rfl ?_
    refine z_iload d_Md_addShifted_5 rfl ?_
    refine z_icmp_ge (tgt := 62) d_Md_addShifted_7 rfl (fun c7 => ?_) (fun c7 => ?_)
    · rw [nI_leI (by omega) (by omega)] at c7
      exact z_return d_Md_addShifted_62 rfl ⟨_, _, _, rfl, rfl, rfl, by rw [List.eq_nil_of_length_eq_zero (l := p_lift k S (l'.drop i)) (by rw [p_lift_len]; exact hc.symm)]; exact m_ad.nil hl⟩
    · rw [nI_leI (by omega) (by omega)] at c7
      omega
  | succ c ih =>
    intro i m S l s A hi hc hl hl2 hA hD hS hm hv
    have h40' := hl.len
    have hv1 : l'.getD i 0 < 200 := by
      rw [List.getD_eq_getElem?_getD, List.getElem?_eq_getElem (by omega)]
      exact hv _ (List.getElem_mem (by omega))
    rw [l_dc (l := l') (i := i) (by omega)] at hc hD ⊢
    obtain ⟨d0, S3, rfl⟩ : ∃ d0 S3, S = d0 :: S3 := by
      cases S with
      | nil => cases hc
      | cons d0 S3 => exact ⟨d0, S3, rfl⟩
    have hd0 : d0 ≤ m := hS d0 List.mem_cons_self
    have hc2 : c = p_end (p_aw (l'.getD i 0) d0 S3).length (l'.drop (i + 1)) := by
      rw [p_aw_len]
      exact Nat.succ.inj hc
    have hm2 := p_aw_max (v := l'.getD i 0) hd0 (fun y hy => hS y (List.mem_cons_of_mem _ hy))
    refine z_iload d_Md_addShifted_3 rfl ?_
    refine z_iload d_Md_addShifted_5 rfl ?_
    refine z_icmp_ge (tgt := 62) d_Md_addShifted_7 rfl (fun c7 => ?_) (fun c7 => ?_)
    · rw [nI_leI (by omega) (by omega)] at c7
      omega
    · rw [nI_leI (by omega) (by omega)] at c7
      refine z_aload_n d_Md_addShifted_10 rfl rfl ?_
      refine z_iload_n d_Md_addShifted_11 rfl rfl ?_
      refine z_iload d_Md_addShifted_12 rfl ?_
      refine z_mr (as := [.int (nI r2), .int (nI i)]) (dY := d) HG d_Md_addShifted_14 rfl (by omega) (Y_Md_49 HG) rfl rfl (Nat.le_of_ble_eq_true rfl) (c_Md_at HG (by omega) (hl2.eq (by omega))) ?_
      refine z_istore d_Md_addShifted_17 (by decide) ?_
      refine z_aload_n d_Md_addShifted_19 rfl rfl ?_
      refine z_iload_n d_Md_addShifted_20 rfl rfl ?_
      refine z_iload d_Md_addShifted_21 rfl ?_
      refine z_bipush (v := nI 100) d_Md_addShifted_23 (by decide +kernel) ?_
      refine z_aload_n d_Md_addShifted_25 rfl rfl ?_
      refine z_mg HG d_Md_addShifted_26 (L_Md_26 HG) (by decide) rfl ?_
      refine z_iload d_Md_addShifted_29 rfl ?_
      refine z_ml HG 6 d_Md_addShifted_31 (by decide) (show _ < 40 by omega) hD.1 ?_
      refine z_iadd d_Md_addShifted_32 ?_
      refine z_eqi rfl ?_
      refine z_aload_n d_Md_addShifted_33 rfl rfl ?_
      refine z_mg HG d_Md_addShifted_34 (L_Md_26 HG) (by decide) rfl ?_
      refine z_iload_n d_Md_addShifted_37 rfl rfl ?_
      refine z_ml HG 6 d_Md_addShifted_38 (by decide) (show _ < 40 by omega) hA ?_
      refine z_isub d_Md_addShifted_39 ?_
      refine z_eqi (nI_100 b d0) ?_
      refine z_icmp_lt (tgt := 51) d_Md_addShifted_40 rfl (fun c40 => ?_) (fun c40 => ?_)
      · rw [nI_ltI (by omega) (by omega)] at c40
        refine z_iload d_Md_addShifted_51 rfl ?_
        have ev : (if 100 + d0 ≤ l'.getD i 0 then l'.getD i 0 + k else l'.getD i 0) = l'.getD i 0 := if_neg (by omega)
        show z_V _ _ _ _ _ _ _ (m_post G h q (fun o s' A' => o = none ∧ m_ad r l ((if 100 + d0 ≤ l'.getD i 0 then l'.getD i 0 + k else l'.getD i 0) :: p_lift k (p_aw (l'.getD i 0) d0 S3) (l'.drop (i + 1))) s A s' A'))
        rw [ev]
        refine z_mc (as := [.int (nI r), .int (nI (l'.getD i 0))]) (dY := d) HG d_Md_addShifted_53 rfl (by omega) (Y_Md_53 HG) rfl rfl (Nat.le_of_ble_eq_true rfl) (c_Md_add HG hr hl (by omega)) (fun v1 s1 A1 hp1 => ?_)
        obtain ⟨rfl, hp1⟩ := hp1
        refine z_iinc (v := nI (i + 1)) d_Md_addShifted_56 rfl (i_inc _) (by decide) ?_
        refine z_goto (tgt := 3) d_Md_addShifted_59 rfl ?_
        refine z_fg [(0, .ref q), (1, .int (nI r)), (2, .int (nI r2)), (3, .int (nI p)), (4, .int (nI e)), (5, .int (nI k)), (6, .int (nI (i + 1)))] ⟨rfl, rfl, rfl, rfl, rfl, rfl, rfl, trivial⟩ ?_
        have e6 := hp1.arr (k := 6) (by decide) (by decide)
        refine z_Vm (ih (i + 1) (m + 1) _ _ s1 A1 (by omega) hc2 hp1.row (hp1.keep hne hl2) (by rw [e6]; exact hA) (by rw [e6]; exact hD.2) hm2 (by omega) hv) (fun v s' A' hh => ⟨hh.1, ?_⟩)
        exact hp1.tr h40' hh.2
      · rw [nI_ltI (by omega) (by omega)] at c40
        refine z_iload d_Md_addShifted_43 rfl ?_
        refine z_iload d_Md_addShifted_45 rfl ?_
        refine z_iadd d_Md_addShifted_47 ?_
        refine z_eqi (nI_add _ _) ?_
        refine z_goto (tgt := 53) d_Md_addShifted_48 rfl ?_
        have ev : (if 100 + d0 ≤ l'.getD i 0 then l'.getD i 0 + k else l'.getD i 0) = (l'.getD i 0) + k := if_pos (by omega)
        show z_V _ _ _ _ _ _ _ (m_post G h q (fun o s' A' => o = none ∧ m_ad r l ((if 100 + d0 ≤ l'.getD i 0 then l'.getD i 0 + k else l'.getD i 0) :: p_lift k (p_aw (l'.getD i 0) d0 S3) (l'.drop (i + 1))) s A s' A'))
        rw [ev]
        refine z_mc (as := [.int (nI r), .int (nI ((l'.getD i 0) + k))]) (dY := d) HG d_Md_addShifted_53 rfl (by omega) (Y_Md_53 HG) rfl rfl (Nat.le_of_ble_eq_true rfl) (c_Md_add HG hr hl (by omega)) (fun v1 s1 A1 hp1 => ?_)
        obtain ⟨rfl, hp1⟩ := hp1
        refine z_iinc (v := nI (i + 1)) d_Md_addShifted_56 rfl (i_inc _) (by decide) ?_
        refine z_goto (tgt := 3) d_Md_addShifted_59 rfl ?_
        refine z_fg [(0, .ref q), (1, .int (nI r)), (2, .int (nI r2)), (3, .int (nI p)), (4, .int (nI e)), (5, .int (nI k)), (6, .int (nI (i + 1)))] ⟨rfl, rfl, rfl, rfl, rfl, rfl, rfl, trivial⟩ ?_
        have e6 := hp1.arr (k := 6) (by decide) (by decide)
        refine z_Vm (ih (i + 1) (m + 1) _ _ s1 A1 (by omega) hc2 hp1.row (hp1.keep hne hl2) (by rw [e6]; exact hA) (by rw [e6]; exact hD.2) hm2 (by omega) hv) (fun v s' A' hh => ⟨hh.1, ?_⟩)
        exact hp1.tr h40' hh.2
theorem c_Md_addShifted (HG : z_ok G) {r2 b e k : Nat} (hr : r < 43) (hr2 : r2 < 43) (hne : r2 ≠ r) (hk : k < 100) (hp : p < l'.length) (he : e = p + p_end 1 (l'.drop p)) (hl : mrow A r l) (hl2 : mrow A r2 l') (hA : A 6 p = nI b) (hD : dpA (A 6) b p [0] (l'.drop p)) (hv : ∀ v ∈ l', v < 200) : z_C G m_Md_addShifted (d + 1) [.ref q, .int (nI r), .int (nI r2), .int (nI p), .int (nI e), .int (nI k)] (md G h q s A) (m_post G h q (fun o s' A' => o = none ∧ m_ad r l (p_lift k [0] (l'.drop p)) s A s' A')) := by
  have h40 := hl2.len
  have hle := p_end_le (l'.drop p) 1
  rw [List.length_drop] at hle
  refine z_C.of (Nat.le_of_ble_eq_true rfl) ?_
  refine z_iload_n d_Md_addShifted_0 rfl rfl ?_
  refine z_istore d_Md_addShifted_1 (by decide) ?_
  refine z_fg [(0, .ref q), (1, .int (nI r)), (2, .int (nI r2)), (3, .int (nI p)), (4, .int (nI e)), (5, .int (nI k)), (6, .int (nI p))] ⟨rfl, rfl, rfl, rfl, rfl, rfl, rfl, trivial⟩ ?_
  exact l_Md_addShifted HG hr hr2 hne hk (by omega) (by omega) h40 (p_end 1 (l'.drop p)) p 0 [0] l s A he.symm rfl hl hl2 hA hD (fun y hy => by simp at hy; omega) (by omega) hv
theorem l_Md_addPut (HG : z_ok G) {r2 b c0 a e ba bb : Nat} (hr : r < 43) (hr2 : r2 < 43) (hne : r2 ≠ r) (hb : b < 40) (hc0 : c0 ≤ l'.length) (hl40 : l'.length ≤ 40) (ha : a < l'.length) (he : e = a + p_end 1 (l'.drop a)) : ∀ (c i m : Nat) (S : List Nat) (l : List Nat) (s : Nat → Int32) (A : Nat → Nat → Int32), i + c = c0 → c = p_end S.length (l'.drop i) → mrow A r l → mrow A r2 l' → A 6 a = nI ba → dpA (A 6) ba a [0] (l'.drop a) → A 6 b = nI bb → dpA (A 6) bb i S (l'.drop i) → (∀ y ∈ S, y ≤ m) → m ≤ i → (∀ v ∈ l', v < 200) →
    z_V G m_Md_addPut (d + 2) 3 [(0, .ref q), (1, .int (nI r)), (2, .int (nI r2)), (3, .int (nI b)), (4, .int (nI c0)), (5, .int (nI a)), (6, .int (nI e)), (7, .int (nI i))] [] (md G h q s A) (m_post G h q (fun o s' A' => o = none ∧ m_ad r l (p_put (l'.drop a) S (l'.drop i)) s A s' A')) := by
  intro c
  induction c with
  | zero =>
    intro i m S l s A hi hc hl hl2 hA hDA hB hD hS hm hv
    have e0 : p_put (l'.drop a) S (l'.drop i) = [] := by
      cases hS0 : S with
      | nil => exact p_put_stop _ _
      | cons d0 S3 =>
        cases hl0 : l'.drop i with
        | nil => exact p_put_nil _ _
        | cons v0 t0 =>
          rw [hS0, hl0] at hc
          cases hc
    refine z_iload d_Md_addPut_3 rfl ?_
    refine z_iload d_Md_addPut_5 rfl ?_
    refine z_icmp_ge (tgt := 95) d_Md_addPut_7 rfl (fun c7 => ?_) (fun c7 => ?_)
    · rw [nI_leI (by omega) (by omega)] at c7
      exact z_return d_Md_addPut_95 rfl ⟨_, _, _, rfl, rfl, rfl, by rw [e0]; exact m_ad.nil hl⟩
    · rw [nI_leI (by omega) (by omega)] at c7
      omega
  | succ c ih =>
    intro i m S l s A hi hc hl hl2 hA hDA hB hD hS hm hv
    have h40' := hl.len
    have hv1 : l'.getD i 0 < 200 := by
      rw [List.getD_eq_getElem?_getD, List.getElem?_eq_getElem (by omega)]
      exact hv _ (List.getElem_mem (by omega))
    rw [l_dc (l := l') (i := i) (by omega)] at hc hD ⊢
    obtain ⟨d0, S3, rfl⟩ : ∃ d0 S3, S = d0 :: S3 := by
      cases S with
      | nil => cases hc
      | cons d0 S3 => exact ⟨d0, S3, rfl⟩
    have hd0 : d0 ≤ m := hS d0 List.mem_cons_self
    have hc2 : c = p_end (p_aw (l'.getD i 0) d0 S3).length (l'.drop (i + 1)) := by
      rw [p_aw_len]
      exact Nat.succ.inj hc
    have hm2 := p_aw_max (v := l'.getD i 0) hd0 (fun y hy => hS y (List.mem_cons_of_mem _ hy))
    show z_V _ _ _ _ _ _ _ (m_post G h q (fun o s' A' => o = none ∧ m_ad r l ((if l'.getD i 0 = 100 + d0 then p_lift d0 [0] (l'.drop a) else if 100 + d0 < l'.getD i 0 then [l'.getD i 0 - 1] else [l'.getD i 0]) ++ p_put (l'.drop a) (p_aw (l'.getD i 0) d0 S3) (l'.drop (i + 1))) s A s' A'))
    refine z_iload d_Md_addPut_3 rfl ?_
    refine z_iload d_Md_addPut_5 rfl ?_
    refine z_icmp_ge (tgt := 95) d_Md_addPut_7 rfl (fun c7 => ?_) (fun c7 => ?_)
    · rw [nI_leI (by omega) (by omega)] at c7
      omega
    · rw [nI_leI (by omega) (by omega)] at c7
      refine z_aload_n d_Md_addPut_10 rfl rfl ?_
      refine z_iload_n d_Md_addPut_11 rfl rfl ?_
      refine z_iload d_Md_addPut_12 rfl ?_
      refine z_mr (as := [.int (nI r2), .int (nI i)]) (dY := d) HG d_Md_addPut_14 rfl (by omega) (Y_Md_49 HG) rfl rfl (Nat.le_of_ble_eq_true rfl) (c_Md_at HG (by omega) (hl2.eq (by omega))) ?_
      refine z_istore d_Md_addPut_17 (by decide) ?_
      refine z_bipush (v := nI 100) d_Md_addPut_19 (by decide +kernel) ?_
      refine z_aload_n d_Md_addPut_21 rfl rfl ?_
      refine z_mg HG d_Md_addPut_22 (L_Md_26 HG) (by decide) rfl ?_
      refine z_iload d_Md_addPut_25 rfl ?_
      refine z_ml HG 6 d_Md_addPut_27 (by decide) (show _ < 40 by omega) hD.1 ?_
      refine z_iadd d_Md_addPut_28 ?_
      refine z_eqi rfl ?_
      refine z_aload_n d_Md_addPut_29 rfl rfl ?_
      refine z_mg HG d_Md_addPut_30 (L_Md_26 HG) (by decide) rfl ?_
      refine z_iload_n d_Md_addPut_33 rfl rfl ?_
      refine z_ml HG 6 d_Md_addPut_34 (by decide) (show _ < 40 by omega) hB ?_
      refine z_isub d_Md_addPut_35 ?_
      refine z_eqi (nI_100 bb d0) ?_
      refine z_istore d_Md_addPut_36 (by decide) ?_
      refine z_iload d_Md_addPut_38 rfl ?_
      refine z_iload d_Md_addPut_40 rfl ?_
      refine z_icmp_ge (tgt := 55) d_Md_addPut_42 rfl (fun c42 => ?_) (fun c42 => ?_)
      · rw [nI_leI (by omega) (by omega)] at c42
        refine z_iload d_Md_addPut_55 rfl ?_
        refine z_iload d_Md_addPut_57 rfl ?_
        refine z_icmp_ne (tgt := 80) d_Md_addPut_59 rfl (fun c59 => ?_) (fun c59 => ?_)
        · rw [nI_eq (by omega) (by omega)] at c59
          rw [if_neg c59, if_pos (by omega)]
          refine z_aload_n d_Md_addPut_80 rfl rfl ?_
          refine z_iload_n d_Md_addPut_81 rfl rfl ?_
          refine z_iload d_Md_addPut_82 rfl ?_
          refine z_iconst (v := nI 1) d_Md_addPut_84 (by decide) ?_
          refine z_isub d_Md_addPut_85 ?_
          refine z_eqi (pk_sub (by omega)) ?_
          refine z_mc (as := [.int (nI r), .int (nI ((l'.getD i 0) - 1))]) (dY := d) HG d_Md_addPut_86 rfl (by omega) (Y_Md_53 HG) rfl rfl (Nat.le_of_ble_eq_true rfl) (c_Md_add HG hr hl (by omega)) (fun v1 s1 A1 hp1 => ?_)
          obtain ⟨rfl, hp1⟩ := hp1
          refine z_iinc (v := nI (i + 1)) d_Md_addPut_89 rfl (i_inc _) (by decide) ?_
          refine z_goto (tgt := 3) d_Md_addPut_92 rfl ?_
          refine z_fg [(0, .ref q), (1, .int (nI r)), (2, .int (nI r2)), (3, .int (nI b)), (4, .int (nI c0)), (5, .int (nI a)), (6, .int (nI e)), (7, .int (nI (i + 1)))] ⟨rfl, rfl, rfl, rfl, rfl, rfl, rfl, rfl, trivial⟩ ?_
          have e6 := hp1.arr (k := 6) (by decide) (by decide)
          refine z_Vm (ih (i + 1) (m + 1) _ _ s1 A1 (by omega) hc2 hp1.row (hp1.keep hne hl2) (by rw [e6]; exact hA) (by rw [e6]; exact hDA) (by rw [e6]; exact hB) (by rw [e6]; exact hD.2) hm2 (by omega) hv) (fun v s' A' hh => ⟨hh.1, ?_⟩)
          exact hp1.tr h40' hh.2
        · rw [nI_eq (by omega) (by omega)] at c59
          rw [if_pos c59]
          refine z_aload_n d_Md_addPut_62 rfl rfl ?_
          refine z_iload_n d_Md_addPut_63 rfl rfl ?_
          refine z_iload_n d_Md_addPut_64 rfl rfl ?_
          refine z_iload d_Md_addPut_65 rfl ?_
          refine z_iload d_Md_addPut_67 rfl ?_
          refine z_iload d_Md_addPut_69 rfl ?_
          refine z_bipush (v := nI 100) d_Md_addPut_71 (by decide +kernel) ?_
          refine z_isub d_Md_addPut_73 ?_
          refine z_eqi ((pk_sub (by omega)).trans (pk_bump (show _ = d0 by omega))) ?_
          refine z_mc (as := [.int (nI r), .int (nI r2), .int (nI a), .int (nI e), .int (nI d0)]) (dY := d + 1) HG d_Md_addPut_74 rfl (by omega) (Y_Md_64 HG) rfl rfl (Nat.le_of_ble_eq_true rfl) (c_Md_addShifted HG hr hr2 hne (by omega) ha he hl hl2 hA hDA hv) (fun v1 s1 A1 hp1 => ?_)
          obtain ⟨rfl, hp1⟩ := hp1
          refine z_goto (tgt := 89) d_Md_addPut_77 rfl ?_
          refine z_iinc (v := nI (i + 1)) d_Md_addPut_89 rfl (i_inc _) (by decide) ?_
          refine z_goto (tgt := 3) d_Md_addPut_92 rfl ?_
          refine z_fg [(0, .ref q), (1, .int (nI r)), (2, .int (nI r2)), (3, .int (nI b)), (4, .int (nI c0)), (5, .int (nI a)), (6, .int (nI e)), (7, .int (nI (i + 1)))] ⟨rfl, rfl, rfl, rfl, rfl, rfl, rfl, rfl, trivial⟩ ?_
          have e6 := hp1.arr (k := 6) (by decide) (by decide)
          refine z_Vm (ih (i + 1) (m + 1) _ _ s1 A1 (by omega) hc2 hp1.row (hp1.keep hne hl2) (by rw [e6]; exact hA) (by rw [e6]; exact hDA) (by rw [e6]; exact hB) (by rw [e6]; exact hD.2) hm2 (by omega) hv) (fun v s' A' hh => ⟨hh.1, ?_⟩)
          exact hp1.tr h40' hh.2
      · rw [nI_leI (by omega) (by omega)] at c42
        rw [if_neg (by omega), if_neg (by omega)]
        refine z_aload_n d_Md_addPut_45 rfl rfl ?_
        refine z_iload_n d_Md_addPut_46 rfl rfl ?_
        refine z_iload d_Md_addPut_47 rfl ?_
        refine z_mc (as := [.int (nI r), .int (nI (l'.getD i 0))]) (dY := d) HG d_Md_addPut_49 rfl (by omega) (Y_Md_53 HG) rfl rfl (Nat.le_of_ble_eq_true rfl) (c_Md_add HG hr hl (by omega)) (fun v1 s1 A1 hp1 => ?_)
        obtain ⟨rfl, hp1⟩ := hp1
        refine z_goto (tgt := 89) d_Md_addPut_52 rfl ?_
        refine z_iinc (v := nI (i + 1)) d_Md_addPut_89 rfl (i_inc _) (by decide) ?_
        refine z_goto (tgt := 3) d_Md_addPut_92 rfl ?_
        refine z_fg [(0, .ref q), (1, .int (nI r)), (2, .int (nI r2)), (3, .int (nI b)), (4, .int (nI c0)), (5, .int (nI a)), (6, .int (nI e)), (7, .int (nI (i + 1)))] ⟨rfl, rfl, rfl, rfl, rfl, rfl, rfl, rfl, trivial⟩ ?_
        have e6 := hp1.arr (k := 6) (by decide) (by decide)
        refine z_Vm (ih (i + 1) (m + 1) _ _ s1 A1 (by omega) hc2 hp1.row (hp1.keep hne hl2) (by rw [e6]; exact hA) (by rw [e6]; exact hDA) (by rw [e6]; exact hB) (by rw [e6]; exact hD.2) hm2 (by omega) hv) (fun v s' A' hh => ⟨hh.1, ?_⟩)
        exact hp1.tr h40' hh.2
theorem c_Md_addPut (HG : z_ok G) {r2 b c0 a e ba bb : Nat} (hr : r < 43) (hr2 : r2 < 43) (hne : r2 ≠ r) (hb : b < l'.length) (hc0 : c0 = b + p_end 1 (l'.drop b)) (ha : a < l'.length) (he : e = a + p_end 1 (l'.drop a)) (hl : mrow A r l) (hl2 : mrow A r2 l') (hA : A 6 a = nI ba) (hDA : dpA (A 6) ba a [0] (l'.drop a)) (hB : A 6 b = nI bb) (hDB : dpA (A 6) bb b [0] (l'.drop b)) (hv : ∀ v ∈ l', v < 200) : z_C G m_Md_addPut (d + 2) [.ref q, .int (nI r), .int (nI r2), .int (nI b), .int (nI c0), .int (nI a), .int (nI e)] (md G h q s A) (m_post G h q (fun o s' A' => o = none ∧ m_ad r l (p_put (l'.drop a) [0] (l'.drop b)) s A s' A')) := by
  have h40 := hl2.len
  have hle := p_end_le (l'.drop b) 1
  rw [List.length_drop] at hle
  refine z_C.of (Nat.le_of_ble_eq_true rfl) ?_
  refine z_iload_n d_Md_addPut_0 rfl rfl ?_
  refine z_istore d_Md_addPut_1 (by decide) ?_
  refine z_fg [(0, .ref q), (1, .int (nI r)), (2, .int (nI r2)), (3, .int (nI b)), (4, .int (nI c0)), (5, .int (nI a)), (6, .int (nI e)), (7, .int (nI b))] ⟨rfl, rfl, rfl, rfl, rfl, rfl, rfl, rfl, trivial⟩ ?_
  exact l_Md_addPut HG hr hr2 hne (by omega) (by omega) h40 ha he (p_end 1 (l'.drop b)) b 0 [0] l s A hc0.symm rfl hl hl2 hA hDA hB hDB (fun y hy => by simp at hy; omega) (by omega) hv
end ME
