/-! assume, declare, bind, lambda, product, normal, same -/
theorem rl_copy {f g : Nat → Int32} {l : List Nat} (h : rl f l) : rl (k_app g 0 l) l := ⟨h.1, fun i hi => ⟨by unfold k_app; rw [if_pos (by omega), Nat.sub_zero], (h.2 i hi).2⟩⟩
section KC
variable {G : z_G} {h : z_H} {d o : Nat} {K : pK}
theorem c2_join (HG : z_ok G) {r s s2 n v : Nat} {f fs fs2 : Nat → Int32} {ls ls2 : List Nat} (hrm : z_rm G h) (hr : rowAt G h r n f) (hs : rowAt G h s ls.length fs) (hls : rl fs ls) (hs2 : rowAt G h s2 ls2.length fs2) (hls2 : rl fs2 ls2) (e : k_ne s r) (e2 : k_ne s2 r) :
    z_C G m_Row_join (d + 2) [.ref r, .int (nI v), .ref s, .ref s2] h (z_eq2 (1 + ls.length + ls2.length ≤ 40) none (fun h' => h' = rset G h r (1 + ls.length + ls2.length) (k_app f 0 (v :: (ls ++ ls2)))) (fun h' => ∃ f', h' = z_exc (rset G h r 40 f'))) :=
  z_C.eq2 (fun hc => (c_Row_join HG hr hs hls hs2 hls2 e.1 e.2.1 e.2.2 e2.1 e2.2.1 e2.2.2 hc).pq) (fun hc => c_Row_joinX HG hrm hr hs hls hs2 hls2 e.1 e.2.1 e.2.2 e2.1 e2.2.1 e2.2.2 (by omega))
theorem KAt.gen {h' : z_H} {J : pJ} {js : List pJ} {cs : List (List Nat)} (H : KAt G h o K) (hj : jsAt G h o js) (hl : js.length < 6) (hc : csAt G h o cs) (k : ∀ y, y ≠ o → (y < k_ju o js.length ∨ k_ju o js.length + 4 < y) → h'.2.2 y = h.2.2 y) (ho : h'.2.2 o = some (k_tk o (js.length + 1) cs.length K.2.2.1.length)) (HJ : jdAt G h' (k_ju o js.length) (some J)) : KAt G h' o (J :: js, cs, K.2.2) := by
  obtain ⟨h1, -, h3, h4, h5, h6, ⟨x, h7⟩, h8⟩ := H
  have hu : o + 64 ≤ k_ju o js.length ∧ k_ju o js.length + 4 ≤ o + 93 := by unfold k_ju; omega
  exact ⟨h1.keep (fun y hy => k y (by omega) (by omega)), ho, hj.push hl (fun y hy hy2 => k y (by omega) hy2) HJ, hc.keep (fun y hy => k y (by omega) (by omega)), h5.keep (k _ (by omega) (by omega)) (fun y hy => k y (by omega) (by omega)), h6.keep (fun y hy => k y (by omega) (by omega)), ⟨x, h7.keep (fun y hy => k y (by omega) (by omega))⟩, h8.keep (fun y hy => k y (by omega) (by omega))⟩
theorem KAt.fq {h1 : z_H} {x : List Nat} (H : KAt G h o K) (k : k_fq (o + 5) h h1) (HR : RwN G h1 (o + 5) K.2.2.2 x) : KAt G h1 o K := by
  obtain ⟨a1, a2, a3, a4, a5, a6, -, a8⟩ := H
  exact ⟨a1.keep (fun y hy => k.2.2 y (by omega)), (k.2.2 o (by omega)).trans a2, a3.keep (fun y hy => k.2.2 y (by omega)), a4.keep (fun y hy => k.2.2 y (by omega)), a5.keep (k.2.2 _ (by omega)) (fun y hy => k.2.2 y (by omega)), a6.keep (fun y hy => k.2.2 y (by omega)), ⟨x, HR⟩, a8.fq k⟩
theorem KAt.sc {r n : Nat} {f : Nat → Int32} (H : KAt G h o K) (hr : scR r) : KAt G (rset G h (o + r) n f) o K := by
  obtain ⟨a1, a2, a3, a4, a5, a6, ⟨x, a7⟩, a8⟩ := H
  have hr' := hr
  unfold scR at hr'
  exact ⟨a1.keep (fun y hy => rset_out (by omega)), (rset_out (by omega)).trans a2, a3.keep (fun y hy => rset_out (by omega)), a4.keep (fun y hy => rset_out (by omega)), a5.keep (rset_out (by omega)) (fun y hy => rset_out (by omega)), a6.rset hr, ⟨x, a7.rset (by unfold k_out; omega)⟩, a8.keep (fun y hy => rset_out (by omega))⟩
def k_assume (K : pK) : String ⊕ (Option Value × pK) := match K.1 with
  | [] => .inl z_ISE
  | J :: js => if J.1 = K.2.1.length then (if K.2.1.length = 4 then .inl z_UOE else if J.2.2 = [0] then .inr (none, (js, J.2.1 :: K.2.1, K.2.2)) else .inl z_IAE) else .inl z_ISE
theorem p_pres0 {js : List pJ} {J : pJ} {ne : Nat} : p_pres (J :: js) ne 0 ↔ J.1 = ne := by
  constructor
  · rintro ⟨J', h1, h2⟩
    cases h1
    exact h2
  · intro h
    exact ⟨J, rfl, h⟩
theorem c_TK_assume (HG : z_ok G) (hrm : z_rm G h) (H : KAt G h o K) (P : pok K) : z_C G m_TK_assume (d + 3) [.ref o] h (tk_post G o K h (k_assume K)) := by
  obtain ⟨l1, l2, l3⟩ := H.len
  refine z_C.of (Nat.le_of_ble_eq_true rfl) ?_
  refine z_aload_n d_TK_assume_0 rfl rfl ?_
  refine z_iconst (v := nI 0) d_TK_assume_1 (by decide) ?_
  refine z_callVg (as := [.int (nI 0)]) (dY := d + 2) d_TK_assume_2 rfl (by omega) (Y_TK_99 HG) rfl H.2.1 (cl_TK HG) (Nat.le_of_ble_eq_true rfl) (c_TK_present HG hrm H.2.1 H.1 H.2.2.1 (pok.e4 H P) l2 (k := 0) (by omega)) (fun hc h' hh => ?_) (fun hc h' hh => ?_)
  · subst hh
    obtain ⟨js, cs, K2⟩ := K
    cases js with
    | nil =>
      obtain ⟨J, e, -⟩ := hc
      cases e
    | cons J js =>
      rw [p_pres0] at hc
      have hc : J.1 = cs.length := hc
      have l1' : js.length + 1 ≤ 6 := l1
      have l2' : cs.length ≤ 4 := l2
      have eK : k_assume (J :: js, cs, K2) = if J.1 = cs.length then (if cs.length = 4 then .inl z_UOE else if J.2.2 = [0] then .inr (none, (js, J.2.1 :: cs, K2)) else .inl z_IAE) else .inl z_ISE := rfl
      rw [eK, if_pos hc]
      have hJ := H.2.2.1.get (k := 0) (J := J) rfl
      have ho := H.2.1
      show z_V G m_TK_assume (d + 3) 5 _ (.ref (k_ju o (js.length + 1 - 1 - 0)) :: []) h' _
      change jdAt G h' (k_ju o (js.length + 1 - 1 - 0)) (some J) at hJ
      change h'.2.2 o = some (k_tk o (js.length + 1) cs.length K2.1.length) at ho
      have hu : o + 64 ≤ k_ju o (js.length + 1 - 1 - 0) ∧ k_ju o (js.length + 1 - 1 - 0) + 4 ≤ o + 93 := by unfold k_ju; omega
      generalize k_ju o (js.length + 1 - 1 - 0) = u at *
      obtain ⟨ft, rt, hlt⟩ := rowL.get hJ.2.1
      obtain ⟨fy, ry, hly⟩ := rowL.get hJ.2.2
      refine z_astore_n d_TK_assume_5 rfl (by decide) ?_
      refine z_aload_n d_TK_assume_6 rfl rfl ?_
      refine z_getf (L_TK_25K HG) (by decide) (L_TK_25 HG) d_TK_assume_7 ho (by rfl) ?_
      refine z_iconst (v := nI 4) d_TK_assume_10 (by decide) ?_
      refine z_icmp_ne (tgt := 22) d_TK_assume_11 rfl (fun c1 => ?_) (fun c1 => ?_)
      · rw [nI_eq (by omega) (by omega)] at c1
        rw [if_neg c1]
        refine z_aload_n d_TK_assume_22 rfl rfl ?_
        refine z_getf (L_TK_71K HG) (by decide) (L_TK_71 HG) d_TK_assume_23 hJ.ob (by rfl) ?_
        refine z_iconst (v := nI 0) d_TK_assume_26 (by decide) ?_
        refine z_callV1r (dY := d) d_TK_assume_27 rfl (by omega) (Y_TK_132 HG) ry.1 (cl_Row HG) (Nat.le_of_ble_eq_true rfl) (c_Row_is HG ry hly.len (nI 0)) ?_
        simp only [l_is hly (show 0 < 1000 by omega)]
        by_cases hk : J.2.2 = [0]
        · rw [if_pos hk, if_pos hk]
          refine z_if_ne (tgt := 41) d_TK_assume_30 rfl (fun c2 => ?_) (fun c2 => absurd c2 (by decide))
          obtain ⟨-, ⟨f, h2, hf⟩, -⟩ := H.1
          obtain ⟨n0, f0, rc, -⟩ := H.2.2.2.1.2 cs.length (by omega)
          have hw : o + 94 ≤ k_cu o cs.length ∧ k_cu o cs.length + 1 ≤ o + 101 := by unfold k_cu; omega
          have hfc := hf cs.length (by omega)
          have hcp := fun (h1 : z_H) (c : List Nat) => csAt.push (h' := h1) (c := c) H.2.2.2.1 (by omega : cs.length < 4)
          generalize k_cu o cs.length = w at *
          refine z_aload_n d_TK_assume_41 rfl rfl ?_
          refine z_getf (L_TK_21K HG) (by decide) (L_TK_21 HG) d_TK_assume_42 ho (by rfl) ?_
          refine z_aload_n d_TK_assume_45 rfl rfl ?_
          refine z_getf (L_TK_25K HG) (by decide) (L_TK_25 HG) d_TK_assume_46 ho (by rfl) ?_
          refine z_aald (x := w) d_TK_assume_49 (ty3 HG) h2 (pk_in cs.length 4 (by omega)) (by rw [nI_clamp (by omega)]; exact hfc) ?_
          refine z_aload_n d_TK_assume_50 rfl rfl ?_
          refine z_getf (L_TK_64K HG) (by decide) (L_TK_64 HG) d_TK_assume_51 hJ.ob (by rfl) ?_
          refine z_callV1v (dY := d) d_TK_assume_54 rfl (by omega) (Y_TK_81 HG) rc.1 (cl_Row HG) (Nat.le_of_ble_eq_true rfl) (c_Row_copy HG rc rt hlt (by omega) (by omega) (by omega)) ?_
          have rcc := rset_at G h' w J.2.1.length (k_app f0 0 J.2.1)
          have kA : ∀ y, y < w ∨ w + 1 < y → (rset G h' w J.2.1.length (k_app f0 0 J.2.1)).2.2 y = h'.2.2 y := fun y hy => rset_out hy
          have kft : k_ft o h' (rset G h' w J.2.1.length (k_app f0 0 J.2.1)) := k_ft.rset (by omega)
          generalize rset G h' w J.2.1.length (k_app f0 0 J.2.1) = h1 at rcc kA kft ⊢
          have ho1 := (kA o (by omega)).trans ho
          refine z_aload_n d_TK_assume_57 rfl rfl ?_
          refine z_dup d_TK_assume_58 rfl ?_
          refine z_getf (L_TK_25K HG) (by decide) (L_TK_25 HG) d_TK_assume_59 ho1 (by rfl) ?_
          refine z_iconst (v := nI 1) d_TK_assume_62 (by decide) ?_
          refine z_iadd d_TK_assume_63 ?_
          rw [nI_add]
          refine z_putf (L_TK_25K HG) (by decide) (L_TK_25 HG) rfl d_TK_assume_64 ho1 rfl rfl (Nat.le_of_ble_eq_true rfl) ?_
          have ho2 := z_set_at h1 o (k_tk o (js.length + 1) (cs.length + 1) K2.1.length)
          show z_V G m_TK_assume (d + 3) 67 _ _ (z_set h1 o (k_tk o (js.length + 1) (cs.length + 1) K2.1.length)) _
          refine z_aload_n d_TK_assume_67 rfl rfl ?_
          refine z_dup d_TK_assume_68 rfl ?_
          refine z_getf (L_TK_15K HG) (by decide) (L_TK_15 HG) d_TK_assume_69 ho2 (by rfl) ?_
          refine z_iconst (v := nI 1) d_TK_assume_72 (by decide) ?_
          refine z_isub d_TK_assume_73 ?_
          rw [pk_sub (by omega)]
          refine z_putf (L_TK_15K HG) (by decide) (L_TK_15 HG) rfl d_TK_assume_74 ho2 rfl rfl (Nat.le_of_ble_eq_true rfl) ?_
          show z_V G m_TK_assume (d + 3) 77 _ _ (z_set (z_set h1 o (k_tk o (js.length + 1) (cs.length + 1) K2.1.length)) o (k_tk o js.length (cs.length + 1) K2.1.length)) _
          rw [z_set_set]
          obtain ⟨b1, -, b3, b4, b5, b6, ⟨x, b7⟩, b8⟩ := H
          have kB : ∀ y, y ≠ o → y < w ∨ w + 1 < y → (z_set h1 o (k_tk o js.length (cs.length + 1) K2.1.length)).2.2 y = h'.2.2 y := fun y y1 y2 => (z_set_ne _ _ y1).trans (kA y y2)
          exact z_return d_TK_assume_77 rfl ⟨rfl, ⟨b1.keep (fun y hy => kB y (by omega) (by omega)), z_set_at .., b3.pop.keep (fun y hy => kB y (by omega) (by omega)), hcp _ _ (fun y y1 y2 => kB y (by omega) (by omega)) (rowL.mk (z_set_row _ rcc (by omega) (by omega)) (rl_copy hlt)), b5.keep (kB _ (by omega) (by omega)) (fun y hy => kB y (by omega) (by omega)), b6.keep (fun y hy => kB y (by omega) (by omega)), ⟨x, b7.keep (fun y hy => kB y (by omega) (by omega))⟩, b8.keep (fun y hy => kB y (by omega) (by omega))⟩, kft.tr (k_ft.set _ (by omega))⟩
        · rw [if_neg hk, if_neg hk]
          refine z_if_ne (tgt := 41) d_TK_assume_30 rfl (fun c2 => absurd nI_0 c2) (fun c2 => ?_)
          exact z_throw d_TK_assume_33 d_TK_assume_36 d_TK_assume_37 d_TK_assume_40 rfl (by decide +kernel) (t_TK_111 HG) hrm.1 hrm.2 (by decide) ⟨rfl, h', rfl, H, k_ft.rf⟩
      · rw [nI_eq (by omega) (by omega)] at c1
        rw [if_pos c1]
        exact z_throw d_TK_assume_14 d_TK_assume_17 d_TK_assume_18 d_TK_assume_21 rfl (by decide +kernel) (t_TK_129 HG) hrm.1 hrm.2 (by decide) ⟨rfl, h', rfl, H, k_ft.rf⟩
  · have eK : k_assume K = .inl z_ISE := by
      obtain ⟨js, cs, K2⟩ := K
      cases js with
      | nil => rfl
      | cons J js =>
        rw [p_pres0] at hc
        show (if J.1 = cs.length then _ else _) = _
        rw [if_neg hc]
    rw [eK]
    exact ⟨rfl, h, hh, H, k_ft.rf⟩
end KC
