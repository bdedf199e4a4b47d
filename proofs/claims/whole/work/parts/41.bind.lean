/-! bind, lambda, product -/
section KB
variable {G : z_G} {h : z_H} {d o : Nat} {J : pJ} {js : List pJ} {c : List Nat} {cs : List (List Nat)} {K2 : List (List Nat × Bool) × List pR}
theorem c_TK_bind (HG : z_ok G) {t y : List Nat} {ft fy : Nat → Int32} (H : KAt G h o (J :: js, c :: cs, K2)) (ht : rowAt G h (o + 60) t.length ft) (hlt : rl ft t) (hy : rowAt G h (o + 62) y.length fy) (hly : rl fy y) :
    z_C G m_TK_bind (d + 1) [.ref o, .ref (k_ju o js.length)] h (z_pq none (fun h' => KAt G h' o ((cs.length, t, y) :: js, cs, K2) ∧ k_ft o h h')) := by
  obtain ⟨l1, l2, l3⟩ := H.len
  have l1' : js.length + 1 ≤ 6 := l1
  have l2' : cs.length + 1 ≤ 4 := l2
  have hJ : jdAt G h (k_ju o js.length) (some J) := H.2.2.1.get (k := 0) (J := J) rfl
  have ho : h.2.2 o = some (k_tk o (js.length + 1) (cs.length + 1) K2.1.length) := H.2.1
  have hu : o + 64 ≤ k_ju o js.length ∧ k_ju o js.length + 4 ≤ o + 93 := by unfold k_ju; omega
  have hgen := fun (h' : z_H) (J' : pJ) => KAt.gen (h' := h') (J := J') H H.2.2.1.pop (by omega) H.2.2.2.1.pop
  generalize k_ju o js.length = u at *
  obtain ⟨n1, f1, r1, -⟩ := hJ.2.1
  obtain ⟨n2, f2, r2, -⟩ := hJ.2.2
  refine z_C.of (Nat.le_of_ble_eq_true rfl) ?_
  refine z_aload_n d_TK_bind_0 rfl rfl ?_
  refine z_dup d_TK_bind_1 rfl ?_
  refine z_getf (L_TK_25K HG) (by decide) (L_TK_25 HG) d_TK_bind_2 ho (by rfl) ?_
  refine z_iconst (v := nI 1) d_TK_bind_5 (by decide) ?_
  refine z_isub d_TK_bind_6 ?_
  rw [pk_sub (by omega)]
  refine z_putf (L_TK_25K HG) (by decide) (L_TK_25 HG) rfl d_TK_bind_7 ho rfl rfl (Nat.le_of_ble_eq_true rfl) ?_
  show z_V G m_TK_bind (d + 1) 10 _ _ (z_set h o (k_tk o (js.length + 1) cs.length K2.1.length)) _
  have ho1 := z_set_at h o (k_tk o (js.length + 1) cs.length K2.1.length)
  have kA : ∀ y, y ≠ o → (z_set h o (k_tk o (js.length + 1) cs.length K2.1.length)).2.2 y = h.2.2 y := fun y hy => z_set_ne _ _ hy
  have kf1 : k_ft o h (z_set h o (k_tk o (js.length + 1) cs.length K2.1.length)) := k_ft.set _ (by omega)
  generalize z_set h o (k_tk o (js.length + 1) cs.length K2.1.length) = h1 at ho1 kA kf1 ⊢
  refine z_aload_n d_TK_bind_10 rfl rfl ?_
  refine z_aload_n d_TK_bind_11 rfl rfl ?_
  refine z_getf (L_TK_25K HG) (by decide) (L_TK_25 HG) d_TK_bind_12 ho1 (by rfl) ?_
  refine z_putf (L_TK_166K HG) (by decide) (L_TK_166 HG) rfl d_TK_bind_15 ((kA u (by omega)).trans hJ.ob) rfl rfl (Nat.le_of_ble_eq_true rfl) ?_
  show z_V G m_TK_bind (d + 1) 18 _ _ (z_set h1 u (k_jd u cs.length)) _
  have hu2 := z_set_at h1 u (k_jd u cs.length)
  have ho2 : (z_set h1 u (k_jd u cs.length)).2.2 o = _ := (z_set_ne _ _ (by omega)).trans ho1
  have kB : ∀ y, y ≠ o → y ≠ u → (z_set h1 u (k_jd u cs.length)).2.2 y = h.2.2 y := fun y y1 y2 => (z_set_ne _ _ y2).trans (kA y y1)
  have kf2 : k_ft o h (z_set h1 u (k_jd u cs.length)) := kf1.tr (k_ft.set _ (by omega))
  generalize z_set h1 u (k_jd u cs.length) = h2 at hu2 ho2 kB kf2 ⊢
  have r1' : rowAt G h2 (u + 1) n1 f1 := ⟨(kB _ (by omega) (by omega)).trans r1.1, (kB _ (by omega) (by omega)).trans r1.2⟩
  have ht' : rowAt G h2 (o + 60) t.length ft := ⟨(kB _ (by omega) (by omega)).trans ht.1, (kB _ (by omega) (by omega)).trans ht.2⟩
  refine z_aload_n d_TK_bind_18 rfl rfl ?_
  refine z_getf (L_TK_64K HG) (by decide) (L_TK_64 HG) d_TK_bind_19 hu2 (by rfl) ?_
  refine z_aload_n d_TK_bind_22 rfl rfl ?_
  refine z_getf (L_TK_53K HG) (by decide) (L_TK_53 HG) d_TK_bind_23 ho2 (by rfl) ?_
  refine z_callV1v (dY := d) d_TK_bind_26 rfl (by omega) (Y_TK_81 HG) r1'.1 (cl_Row HG) (Nat.le_of_ble_eq_true rfl) (c_Row_copy HG r1' ht' hlt (by omega) (by omega) (by omega)) ?_
  have r1c := rset_at G h2 (u + 1) t.length (k_app f1 0 t)
  have kC : ∀ y, y < u + 1 ∨ u + 2 < y → (rset G h2 (u + 1) t.length (k_app f1 0 t)).2.2 y = h2.2.2 y := fun y hy => rset_out (by omega)
  have kf3 : k_ft o h (rset G h2 (u + 1) t.length (k_app f1 0 t)) := kf2.tr (k_ft.rset (by omega))
  generalize rset G h2 (u + 1) t.length (k_app f1 0 t) = h3 at r1c kC kf3 ⊢
  have r2' : rowAt G h3 (u + 3) n2 f2 := ⟨(kC _ (by omega)).trans ((kB _ (by omega) (by omega)).trans r2.1), (kC _ (by omega)).trans ((kB _ (by omega) (by omega)).trans r2.2)⟩
  have hy' : rowAt G h3 (o + 62) y.length fy := ⟨(kC _ (by omega)).trans ((kB _ (by omega) (by omega)).trans hy.1), (kC _ (by omega)).trans ((kB _ (by omega) (by omega)).trans hy.2)⟩
  refine z_aload_n d_TK_bind_29 rfl rfl ?_
  refine z_getf (L_TK_71K HG) (by decide) (L_TK_71 HG) d_TK_bind_30 ((kC u (by omega)).trans hu2) (by rfl) ?_
  refine z_aload_n d_TK_bind_33 rfl rfl ?_
  refine z_getf (L_TK_56K HG) (by decide) (L_TK_56 HG) d_TK_bind_34 ((kC o (by omega)).trans ho2) (by rfl) ?_
  refine z_callV1v (dY := d) d_TK_bind_37 rfl (by omega) (Y_TK_81 HG) r2'.1 (cl_Row HG) (Nat.le_of_ble_eq_true rfl) (c_Row_copy HG r2' hy' hly (by omega) (by omega) (by omega)) ?_
  refine z_return d_TK_bind_40 rfl ⟨rfl, hgen _ _ (fun y y1 y2 => (rset_out (by omega)).trans ((kC y (by omega)).trans (kB y y1 (by omega)))) ((rset_out (by omega)).trans ((kC o (by omega)).trans ho2)) ⟨⟨_, (rset_out (by omega)).trans ((kC u (by omega)).trans hu2), fun J e => by cases e; rfl⟩, rowL.mk (rset_row _ _ r1c (by omega) (by omega) (by omega)) (rl_copy hlt), rowL.mk (rset_at ..) (rl_copy hly)⟩, kf3.tr (k_ft.rset (by omega))⟩
end KB
theorem p_only_cons {js : List pJ} {ne : Nat} (h : p_only js ne) : ∃ J js', js = J :: js' ∧ J.1 = ne := by
  obtain ⟨⟨J, h1, h2⟩, -⟩ := h
  cases js with
  | nil => cases h1
  | cons J' js =>
    cases h1
    exact ⟨J, js, rfl, h2⟩
theorem rl_join {f fs fs2 : Nat → Int32} {v : Nat} {ls ls2 : List Nat} (hv : v < 1000) (h1 : rl fs ls) (h2 : rl fs2 ls2) (hl : 1 + ls.length + ls2.length ≤ 40) : rl (k_app f 0 (v :: (ls ++ ls2))) (v :: (ls ++ ls2)) := by
  have h0 : rl f [] := ⟨by simp, fun i hi => absurd hi (by simp)⟩
  refine rl_app (l1 := []) h0 (by simp only [List.length_nil, List.length_cons, List.length_append]; omega) (fun w hw => ?_)
  rcases List.mem_cons.mp hw with rfl | hw
  · exact hv
  · rcases List.mem_append.mp hw with hw | hw
    · obtain ⟨i, hi, rfl⟩ := List.getElem_of_mem hw
      have := h1.lt hi
      rw [List.getD_eq_getElem?_getD, List.getElem?_eq_getElem hi] at this
      exact this
    · obtain ⟨i, hi, rfl⟩ := List.getElem_of_mem hw
      have := h2.lt hi
      rw [List.getD_eq_getElem?_getD, List.getElem?_eq_getElem hi] at this
      exact this
section KLP
variable {G : z_G} {h : z_H} {d o : Nat} {K : pK}
def k_lambda (K : pK) : String ⊕ (Option Value × pK) := match K with
  | (J :: js, c :: cs, K2) => if J.1 = cs.length + 1 ∧ p_cnt (J :: js) (cs.length + 1) ≤ 1 then (if J.2.2 = [1] then .inl z_IAE else if 1 + c.length + J.2.1.length ≤ 40 ∧ 1 + c.length + J.2.2.length ≤ 40 then .inr (none, ((cs.length, 3 :: (c ++ J.2.1), 4 :: (c ++ J.2.2)) :: js, cs, K2)) else .inl z_AE) else .inl z_ISE
  | _ => .inl z_ISE
theorem k_lambda_no {K : pK} (h : ¬ p_only K.1 K.2.1.length) : k_lambda K = .inl z_ISE := by
  obtain ⟨js, cs, K2⟩ := K
  cases js with
  | nil => rfl
  | cons J js =>
    cases cs with
    | nil => rfl
    | cons c cs =>
      have h' : ¬ (J.1 = cs.length + 1 ∧ p_cnt (J :: js) (cs.length + 1) ≤ 1) := fun hh => h ⟨p_pres0.mpr hh.1, Nat.succ_ne_zero _, hh.2⟩
      unfold k_lambda
      simp only []
      rw [if_neg h']
theorem c_TK_lambda (HG : z_ok G) (hrm : z_rm G h) (H : KAt G h o K) (P : pok K) : z_C G m_TK_lambda (d + 4) [.ref o] h (tk_post G o K h (k_lambda K)) := by
  obtain ⟨l1, l2, l3⟩ := H.len
  refine z_C.of (Nat.le_of_ble_eq_true rfl) ?_
  refine z_aload_n d_TK_lambda_0 rfl rfl ?_
  refine z_callVg (as := []) (dY := d + 3) d_TK_lambda_1 rfl (by omega) (Y_TK_135 HG) rfl H.2.1 (cl_TK HG) (Nat.le_of_ble_eq_true rfl) (c_TK_only HG hrm H.2.1 H.1 H.2.2.1 (pok.e4 H P) l2) (fun hc h' hh => ?_) (fun hc h' hh => ?_)
  · subst hh
    obtain ⟨js, cs, K2⟩ := K
    obtain ⟨J, js', e1, e2⟩ := p_only_cons hc
    change js = J :: js' at e1
    subst e1
    cases cs with
    | nil => exact absurd rfl hc.2.1
    | cons c cs =>
      have hc' : J.1 = cs.length + 1 ∧ p_cnt (J :: js') (cs.length + 1) ≤ 1 := ⟨p_pres0.mp hc.1, hc.2.2⟩
      have eK : k_lambda (J :: js', c :: cs, K2) = if J.2.2 = [1] then .inl z_IAE else if 1 + c.length + J.2.1.length ≤ 40 ∧ 1 + c.length + J.2.2.length ≤ 40 then .inr (none, ((cs.length, 3 :: (c ++ J.2.1), 4 :: (c ++ J.2.2)) :: js', cs, K2)) else .inl z_AE := by
        unfold k_lambda
        simp only []
        rw [if_pos hc']
      rw [eK]
      have l1' : js'.length + 1 ≤ 6 := l1
      have l2' : cs.length + 1 ≤ 4 := l2
      have hJ : jdAt G h' (k_ju o js'.length) (some J) := H.2.2.1.get (k := 0) (J := J) rfl
      have ho : h'.2.2 o = some (k_tk o (js'.length + 1) (cs.length + 1) K2.1.length) := H.2.1
      have hC : rowL G h' (k_cu o cs.length) (some c) := H.2.2.2.1.get (k := 0) (c := c) rfl
      have hu : o + 64 ≤ k_ju o js'.length ∧ k_ju o js'.length + 4 ≤ o + 93 := by unfold k_ju; omega
      have hw : o + 94 ≤ k_cu o cs.length ∧ k_cu o cs.length + 1 ≤ o + 101 := by unfold k_cu; omega
      show z_V G m_TK_lambda (d + 4) 4 _ (.ref (k_ju o js'.length) :: []) h' _
      obtain ⟨ft, rt, hlt⟩ := rowL.get hJ.2.1
      obtain ⟨fy, ry, hly⟩ := rowL.get hJ.2.2
      obtain ⟨fc, rc, hlc⟩ := rowL.get hC
      obtain ⟨n60, f60, r60, -⟩ := H.2.2.2.2.2.1 60 (by unfold scR; omega)
      obtain ⟨n62, f62, r62, -⟩ := H.2.2.2.2.2.1 62 (by unfold scR; omega)
      refine z_astore_n d_TK_lambda_4 rfl (by decide) ?_
      refine z_aload_n d_TK_lambda_5 rfl rfl ?_
      refine z_getf (L_TK_71K HG) (by decide) (L_TK_71 HG) d_TK_lambda_6 hJ.ob (by rfl) ?_
      refine z_iconst (v := nI 1) d_TK_lambda_9 (by decide) ?_
      refine z_callV1r (dY := d) d_TK_lambda_10 rfl (by omega) (Y_TK_132 HG) ry.1 (cl_Row HG) (Nat.le_of_ble_eq_true rfl) (c_Row_is HG ry hly.len (nI 1)) ?_
      simp only [l_is hly (show 1 < 1000 by omega)]
      by_cases hk : J.2.2 = [1]
      · rw [if_pos hk, if_pos hk]
        refine z_if_eq (tgt := 24) d_TK_lambda_13 rfl (fun c2 => absurd c2 (by decide)) (fun c2 => ?_)
        exact z_throw d_TK_lambda_16 d_TK_lambda_19 d_TK_lambda_20 d_TK_lambda_23 rfl (by decide +kernel) (t_TK_111 HG) hrm.1 hrm.2 (by decide) ⟨rfl, h', rfl, H, k_ft.rf⟩
      · rw [if_neg hk, if_neg hk]
        refine z_if_eq (tgt := 24) d_TK_lambda_13 rfl (fun c2 => ?_) (fun c2 => absurd nI_0 c2)
        refine z_aload_n d_TK_lambda_24 rfl rfl ?_
        refine z_getf (L_TK_53K HG) (by decide) (L_TK_53 HG) d_TK_lambda_25 ho (by rfl) ?_
        refine z_iconst (v := nI 3) d_TK_lambda_28 (by decide) ?_
        refine z_aload_n d_TK_lambda_29 rfl rfl ?_
        refine z_iconst (v := nI 0) d_TK_lambda_30 (by decide) ?_
        refine z_callV1r (dY := d) d_TK_lambda_31 rfl (by omega) (Y_TK_91 HG) ho (cl_TK HG) (Nat.le_of_ble_eq_true rfl) (c_TK_entryAt HG ho H.1 l2' (k := 0) (by omega)) ?_
        show z_V G m_TK_lambda (d + 4) 34 _ (.ref (k_cu o cs.length) :: _) h' _
        refine z_aload_n d_TK_lambda_34 rfl rfl ?_
        refine z_getf (L_TK_64K HG) (by decide) (L_TK_64 HG) d_TK_lambda_35 hJ.ob (by rfl) ?_
        refine z_callV3e (dY := d + 2) d_TK_lambda_38 rfl (by omega) (Y_TK_121 HG) r60.1 (cl_Row HG) (Nat.le_of_ble_eq_true rfl) (c2_join HG (v := 3) hrm r60 rc hlc rt hlt (by unfold k_ne; omega) (by unfold k_ne; omega)) (fun hc1 h1 hh1 => ?_) (fun hc1 h1 hh1 => ?_)
        · have H1 : KAt G h1 o (J :: js', c :: cs, K2) := by
            subst hh1
            exact H.sc (by unfold scR; omega)
          have r60' : rowAt G h1 (o + 60) (3 :: (c ++ J.2.1)).length (k_app f60 0 (3 :: (c ++ J.2.1))) := by
            subst hh1
            rw [show (3 :: (c ++ J.2.1)).length = 1 + c.length + J.2.1.length by simp; omega]
            exact rset_at ..
          have kf1 : k_ft o h' h1 := by
            subst hh1
            exact k_ft.rset (by omega)
          have kA : ∀ y, y < o + 60 ∨ o + 61 < y → h1.2.2 y = h'.2.2 y := by
            subst hh1
            exact fun y hy => rset_out (by omega)
          clear hh1
          have ho1 := (kA o (by omega)).trans ho
          have hu1 := (kA (k_ju o js'.length) (by omega)).trans hJ.ob
          have rc1 : rowAt G h1 (k_cu o cs.length) c.length fc := ⟨(kA _ (by omega)).trans rc.1, (kA _ (by omega)).trans rc.2⟩
          have ry1 : rowAt G h1 (k_ju o js'.length + 3) J.2.2.length fy := ⟨(kA _ (by omega)).trans ry.1, (kA _ (by omega)).trans ry.2⟩
          have r62' : rowAt G h1 (o + 62) n62 f62 := ⟨(kA _ (by omega)).trans r62.1, (kA _ (by omega)).trans r62.2⟩
          refine z_aload_n d_TK_lambda_41 rfl rfl ?_
          refine z_getf (L_TK_56K HG) (by decide) (L_TK_56 HG) d_TK_lambda_42 ho1 (by rfl) ?_
          refine z_iconst (v := nI 4) d_TK_lambda_45 (by decide) ?_
          refine z_aload_n d_TK_lambda_46 rfl rfl ?_
          refine z_iconst (v := nI 0) d_TK_lambda_47 (by decide) ?_
          refine z_callV1r (dY := d) d_TK_lambda_48 rfl (by omega) (Y_TK_91 HG) ho1 (cl_TK HG) (Nat.le_of_ble_eq_true rfl) (c_TK_entryAt HG ho1 H1.1 l2' (k := 0) (by omega)) ?_
          show z_V G m_TK_lambda (d + 4) 51 _ (.ref (k_cu o cs.length) :: _) h1 _
          refine z_aload_n d_TK_lambda_51 rfl rfl ?_
          refine z_getf (L_TK_71K HG) (by decide) (L_TK_71 HG) d_TK_lambda_52 hu1 (by rfl) ?_
          refine z_callV3e (dY := d + 2) d_TK_lambda_55 rfl (by omega) (Y_TK_121 HG) r62'.1 (cl_Row HG) (Nat.le_of_ble_eq_true rfl) (c2_join HG (v := 4) (kf1.rm hrm) r62' rc1 hlc ry1 hly (by unfold k_ne; omega) (by unfold k_ne; omega)) (fun hc2 h2 hh2 => ?_) (fun hc2 h2 hh2 => ?_)
          · rw [if_pos ⟨hc1, hc2⟩]
            have H2 : KAt G h2 o (J :: js', c :: cs, K2) := by
              subst hh2
              exact H1.sc (by unfold scR; omega)
            have r62'' : rowAt G h2 (o + 62) (4 :: (c ++ J.2.2)).length (k_app f62 0 (4 :: (c ++ J.2.2))) := by
              subst hh2
              rw [show (4 :: (c ++ J.2.2)).length = 1 + c.length + J.2.2.length by simp; omega]
              exact rset_at ..
            have r60'' : rowAt G h2 (o + 60) (3 :: (c ++ J.2.1)).length (k_app f60 0 (3 :: (c ++ J.2.1))) := by
              subst hh2
              exact rset_row _ _ r60' (by omega) (by omega) (by omega)
            have kf2 : k_ft o h' h2 := by
              subst hh2
              exact kf1.tr (k_ft.rset (by omega))
            clear hh2
            refine z_aload_n d_TK_lambda_58 rfl rfl ?_
            refine z_aload_n d_TK_lambda_59 rfl rfl ?_
            refine z_callV1p (dY := d + 1) d_TK_lambda_60 rfl (by omega) (Y_TK_138 HG) H2.2.1 (cl_TK HG) (Nat.le_of_ble_eq_true rfl) (c_TK_bind HG H2 r60'' (rl_join (by omega) hlc hlt hc1) r62'' (rl_join (by omega) hlc hly hc2)) (fun h3 hh3 => ?_)
            exact z_return d_TK_lambda_63 rfl ⟨rfl, hh3.1, kf2.tr hh3.2⟩
          · rw [if_neg (fun hh => hc2 hh.2)]
            obtain ⟨f', hh2⟩ := hh2
            exact ⟨rfl, _, hh2, H1.sc (by unfold scR; omega), kf1.tr (k_ft.rset (by omega))⟩
        · rw [if_neg (fun hh => hc1 hh.1)]
          obtain ⟨f', hh1⟩ := hh1
          exact ⟨rfl, _, hh1, H.sc (by unfold scR; omega), k_ft.rset (by omega)⟩
  · rw [k_lambda_no hc]
    exact ⟨rfl, h, hh, H, k_ft.rf⟩
def k_product (K : pK) : String ⊕ (Option Value × pK) := match K with
  | (J :: js, c :: cs, K2) => if J.1 = cs.length + 1 ∧ p_cnt (J :: js) (cs.length + 1) ≤ 1 then (if J.2.2 = [0] ∨ J.2.2 = [1] then (if 1 + c.length + J.2.1.length ≤ 40 then .inr (none, ((cs.length, 4 :: (c ++ J.2.1), J.2.2) :: js, cs, K2)) else .inl z_AE) else .inl z_IAE) else .inl z_ISE
  | _ => .inl z_ISE
theorem k_product_no {K : pK} (h : ¬ p_only K.1 K.2.1.length) : k_product K = .inl z_ISE := by
  obtain ⟨js, cs, K2⟩ := K
  cases js with
  | nil => rfl
  | cons J js =>
    cases cs with
    | nil => rfl
    | cons c cs =>
      have h' : ¬ (J.1 = cs.length + 1 ∧ p_cnt (J :: js) (cs.length + 1) ≤ 1) := fun hh => h ⟨p_pres0.mpr hh.1, Nat.succ_ne_zero _, hh.2⟩
      unfold k_product
      simp only []
      rw [if_neg h']
theorem c_TK_product (HG : z_ok G) (hrm : z_rm G h) (H : KAt G h o K) (P : pok K) : z_C G m_TK_product (d + 4) [.ref o] h (tk_post G o K h (k_product K)) := by
  obtain ⟨l1, l2, l3⟩ := H.len
  refine z_C.of (Nat.le_of_ble_eq_true rfl) ?_
  refine z_aload_n d_TK_product_0 rfl rfl ?_
  refine z_callVg (as := []) (dY := d + 3) d_TK_product_1 rfl (by omega) (Y_TK_135 HG) rfl H.2.1 (cl_TK HG) (Nat.le_of_ble_eq_true rfl) (c_TK_only HG hrm H.2.1 H.1 H.2.2.1 (pok.e4 H P) l2) (fun hc h' hh => ?_) (fun hc h' hh => ?_)
  · subst hh
    obtain ⟨js, cs, K2⟩ := K
    obtain ⟨J, js', e1, e2⟩ := p_only_cons hc
    change js = J :: js' at e1
    subst e1
    cases cs with
    | nil => exact absurd rfl hc.2.1
    | cons c cs =>
      have hc' : J.1 = cs.length + 1 ∧ p_cnt (J :: js') (cs.length + 1) ≤ 1 := ⟨p_pres0.mp hc.1, hc.2.2⟩
      have eK : k_product (J :: js', c :: cs, K2) = if J.2.2 = [0] ∨ J.2.2 = [1] then (if 1 + c.length + J.2.1.length ≤ 40 then .inr (none, ((cs.length, 4 :: (c ++ J.2.1), J.2.2) :: js', cs, K2)) else .inl z_AE) else .inl z_IAE := by
        unfold k_product
        simp only []
        rw [if_pos hc']
      rw [eK]
      have l1' : js'.length + 1 ≤ 6 := l1
      have l2' : cs.length + 1 ≤ 4 := l2
      have hJ : jdAt G h' (k_ju o js'.length) (some J) := H.2.2.1.get (k := 0) (J := J) rfl
      have ho : h'.2.2 o = some (k_tk o (js'.length + 1) (cs.length + 1) K2.1.length) := H.2.1
      have hC : rowL G h' (k_cu o cs.length) (some c) := H.2.2.2.1.get (k := 0) (c := c) rfl
      have hu : o + 64 ≤ k_ju o js'.length ∧ k_ju o js'.length + 4 ≤ o + 93 := by unfold k_ju; omega
      have hw : o + 94 ≤ k_cu o cs.length ∧ k_cu o cs.length + 1 ≤ o + 101 := by unfold k_cu; omega
      show z_V G m_TK_product (d + 4) 4 _ (.ref (k_ju o js'.length) :: []) h' _
      obtain ⟨ft, rt, hlt⟩ := rowL.get hJ.2.1
      obtain ⟨fy, ry, hly⟩ := rowL.get hJ.2.2
      obtain ⟨fc, rc, hlc⟩ := rowL.get hC
      obtain ⟨n60, f60, r60, -⟩ := H.2.2.2.2.2.1 60 (by unfold scR; omega)
      obtain ⟨n62, f62, r62, -⟩ := H.2.2.2.2.2.1 62 (by unfold scR; omega)
      refine z_astore_n d_TK_product_4 rfl (by decide) ?_
      refine z_aload_n d_TK_product_5 rfl rfl ?_
      refine z_callS1r (dY := d + 1) d_TK_product_6 rfl (by omega) (Y_TK_142 HG) (Nat.le_of_ble_eq_true rfl) (c_TK_hasSort HG hJ) ?_
      by_cases hk : J.2.2 = [0] ∨ J.2.2 = [1]
      · rw [if_pos hk, if_pos hk]
        refine z_if_ne (tgt := 20) d_TK_product_9 rfl (fun c2 => ?_) (fun c2 => absurd c2 (by decide))
        refine z_aload_n d_TK_product_20 rfl rfl ?_
        refine z_getf (L_TK_53K HG) (by decide) (L_TK_53 HG) d_TK_product_21 ho (by rfl) ?_
        refine z_iconst (v := nI 4) d_TK_product_24 (by decide) ?_
        refine z_aload_n d_TK_product_25 rfl rfl ?_
        refine z_iconst (v := nI 0) d_TK_product_26 (by decide) ?_
        refine z_callV1r (dY := d) d_TK_product_27 rfl (by omega) (Y_TK_91 HG) ho (cl_TK HG) (Nat.le_of_ble_eq_true rfl) (c_TK_entryAt HG ho H.1 l2' (k := 0) (by omega)) ?_
        show z_V G m_TK_product (d + 4) 30 _ (.ref (k_cu o cs.length) :: _) h' _
        refine z_aload_n d_TK_product_30 rfl rfl ?_
        refine z_getf (L_TK_64K HG) (by decide) (L_TK_64 HG) d_TK_product_31 hJ.ob (by rfl) ?_
        refine z_callV3e (dY := d + 2) d_TK_product_34 rfl (by omega) (Y_TK_121 HG) r60.1 (cl_Row HG) (Nat.le_of_ble_eq_true rfl) (c2_join HG (v := 4) hrm r60 rc hlc rt hlt (by unfold k_ne; omega) (by unfold k_ne; omega)) (fun hc1 h1 hh1 => ?_) (fun hc1 h1 hh1 => ?_)
        · rw [if_pos hc1]
          have H1 : KAt G h1 o (J :: js', c :: cs, K2) := by
            subst hh1
            exact H.sc (by unfold scR; omega)
          have r60' : rowAt G h1 (o + 60) (4 :: (c ++ J.2.1)).length (k_app f60 0 (4 :: (c ++ J.2.1))) := by
            subst hh1
            rw [show (4 :: (c ++ J.2.1)).length = 1 + c.length + J.2.1.length by simp; omega]
            exact rset_at ..
          have kf1 : k_ft o h' h1 := by
            subst hh1
            exact k_ft.rset (by omega)
          have kA : ∀ y, y < o + 60 ∨ o + 61 < y → h1.2.2 y = h'.2.2 y := by
            subst hh1
            exact fun y hy => rset_out (by omega)
          clear hh1
          have ho1 := (kA o (by omega)).trans ho
          have hu1 := (kA (k_ju o js'.length) (by omega)).trans hJ.ob
          have ry1 : rowAt G h1 (k_ju o js'.length + 3) J.2.2.length fy := ⟨(kA _ (by omega)).trans ry.1, (kA _ (by omega)).trans ry.2⟩
          have r62' : rowAt G h1 (o + 62) n62 f62 := ⟨(kA _ (by omega)).trans r62.1, (kA _ (by omega)).trans r62.2⟩
          refine z_aload_n d_TK_product_37 rfl rfl ?_
          refine z_getf (L_TK_56K HG) (by decide) (L_TK_56 HG) d_TK_product_38 ho1 (by rfl) ?_
          refine z_aload_n d_TK_product_41 rfl rfl ?_
          refine z_getf (L_TK_71K HG) (by decide) (L_TK_71 HG) d_TK_product_42 hu1 (by rfl) ?_
          refine z_callV1v (dY := d) d_TK_product_45 rfl (by omega) (Y_TK_81 HG) r62'.1 (cl_Row HG) (Nat.le_of_ble_eq_true rfl) (c_Row_copy HG r62' ry1 hly (by omega) (by omega) (by omega)) ?_
          have H2 : KAt G (rset G h1 (o + 62) J.2.2.length (k_app f62 0 J.2.2)) o (J :: js', c :: cs, K2) := H1.sc (by unfold scR; omega)
          have r62'' := rset_at G h1 (o + 62) J.2.2.length (k_app f62 0 J.2.2)
          have r60'' := rset_row (r := o + 62) J.2.2.length (k_app f62 0 J.2.2) r60' (by omega) (by omega) (by omega)
          have kf2 : k_ft o h' (rset G h1 (o + 62) J.2.2.length (k_app f62 0 J.2.2)) := kf1.tr (k_ft.rset (by omega))
          refine z_aload_n d_TK_product_48 rfl rfl ?_
          refine z_aload_n d_TK_product_49 rfl rfl ?_
          refine z_callV1p (dY := d + 1) d_TK_product_50 rfl (by omega) (Y_TK_138 HG) H2.2.1 (cl_TK HG) (Nat.le_of_ble_eq_true rfl) (c_TK_bind HG H2 r60'' (rl_join (by omega) hlc hlt hc1) r62'' (rl_copy hly)) (fun h3 hh3 => ?_)
          exact z_return d_TK_product_53 rfl ⟨rfl, hh3.1, kf2.tr hh3.2⟩
        · rw [if_neg hc1]
          obtain ⟨f', hh1⟩ := hh1
          exact ⟨rfl, _, hh1, H.sc (by unfold scR; omega), k_ft.rset (by omega)⟩
      · rw [if_neg hk, if_neg hk]
        refine z_if_ne (tgt := 20) d_TK_product_9 rfl (fun c2 => absurd nI_0 c2) (fun c2 => ?_)
        exact z_throw d_TK_product_12 d_TK_product_15 d_TK_product_16 d_TK_product_19 rfl (by decide +kernel) (t_TK_111 HG) hrm.1 hrm.2 (by decide) ⟨rfl, h', rfl, H, k_ft.rf⟩
  · rw [k_product_no hc]
    exact ⟨rfl, h, hh, H, k_ft.rf⟩
end KLP
