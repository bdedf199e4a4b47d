/-! Walk: a stack of depths, the next one on top -/
def k_wk (w n : Nat) : va_E := .inr (3, [.ref (w + 1), .int (nI n)])
def wkAt (G : z_G) (h : z_H) (w n : Nat) (g : Nat → Int32) : Prop := h.2.2 w = some (k_wk w n) ∧ h.2.2 (w + 1) = some (k_ints G 41 g)
def wset (G : z_G) (h : z_H) (w n : Nat) (g : Nat → Int32) : z_H := (h.1, h.2.1, va_up (va_up h.2.2 (w + 1) (some (k_ints G 41 g))) w (some (k_wk w n)))
theorem wset_at (G : z_G) (h : z_H) (w n : Nat) (g : Nat → Int32) : wkAt G (wset G h w n g) w n g := by
  refine ⟨va_up_self _ _ _, ?_⟩
  show va_up (va_up h.2.2 (w + 1) _) w _ (w + 1) = _
  rw [va_up_ne _ _ (by omega), va_up_self]
theorem wset_ne (G : z_G) (h : z_H) {w q : Nat} (n : Nat) (g : Nat → Int32) (h1 : q ≠ w) (h2 : q ≠ w + 1) : (wset G h w n g).2.2 q = h.2.2 q := by
  show va_up (va_up h.2.2 (w + 1) _) w _ q = _
  rw [va_up_ne _ _ h1, va_up_ne _ _ h2]
theorem wset_row {G : z_G} {h : z_H} {w r n' : Nat} {f' : Nat → Int32} (n : Nat) (g : Nat → Int32) (H : rowAt G h r n' f') (h1 : r ≠ w) (h2 : r ≠ w + 1) (h3 : r + 1 ≠ w) : rowAt G (wset G h w n g) r n' f' :=
  ⟨(wset_ne G h n g h1 h2).trans H.1, (wset_ne G h n g h3 (by omega)).trans H.2⟩
theorem rset_wk {G : z_G} {h : z_H} {w r n' : Nat} {g : Nat → Int32} (n : Nat) (f : Nat → Int32) (H : wkAt G h w n' g) (h1 : w ≠ r) (h2 : w ≠ r + 1) (h3 : w + 1 ≠ r) : wkAt G (rset G h r n f) w n' g :=
  ⟨(rset_ne G h n f h1 h2).trans H.1, (rset_ne G h n f h3 (by omega)).trans H.2⟩
theorem wset_wset (G : z_G) (h : z_H) (w n m : Nat) (f g : Nat → Int32) : wset G (wset G h w n f) w m g = wset G h w m g := by
  unfold wset
  refine congrArg (fun z => (h.1, h.2.1, z)) ?_
  funext q
  simp only [va_up]
  split
  · rfl
  · split <;> rfl
theorem wset_self {G : z_G} {h : z_H} {w n : Nat} {g : Nat → Int32} (H : wkAt G h w n g) : wset G h w n g = h := by
  unfold wset
  obtain ⟨a, b, u⟩ := h
  refine congrArg (fun z => (a, b, z)) ?_
  funext q
  simp only [va_up]
  split
  · rename_i e
    rw [e]
    exact H.1.symm
  · split
    · rename_i e
      rw [e]
      exact H.2.symm
    · rfl
theorem wset_len {G : z_G} {h : z_H} {w n : Nat} {g : Nat → Int32} (m : Nat) (H : wkAt G h w n g) : z_set h w (k_wk w m) = wset G h w m g := by
  unfold wset z_set
  refine congrArg (fun z => (h.1, h.2.1, z)) ?_
  funext q
  simp only [va_up]
  split
  · rfl
  · split
    · rename_i e
      rw [e]
      exact H.2
    · rfl
theorem wr_comm (G : z_G) (h : z_H) {w r n m : Nat} {f g : Nat → Int32} (h1 : w ≠ r) (h2 : w ≠ r + 1) (h3 : w + 1 ≠ r) : rset G (wset G h w n g) r m f = wset G (rset G h r m f) w n g := by
  unfold wset rset
  refine congrArg (fun z => (h.1, h.2.1, z)) ?_
  funext q
  simp only [va_up]
  by_cases q1 : q = r
  · subst q1
    rw [if_pos rfl, if_neg (Ne.symm h1), if_neg (Ne.symm h3), if_pos rfl]
  · rw [if_neg q1]
    by_cases q2 : q = r + 1
    · subst q2
      rw [if_pos rfl, if_neg (Ne.symm h2), if_neg (by omega), if_neg (by omega), if_pos rfl]
    · rw [if_neg q2]
      split
      · rfl
      · split
        · rfl
        · rfl
/-- the array holds the stack -/
def wk (g : Nat → Int32) : List Nat → Prop
  | [] => True
  | d :: S => g S.length = nI d ∧ wk g S
theorem wk_upd {g : Nat → Int32} {k : Nat} {x : Int32} : ∀ {S : List Nat}, S.length ≤ k → wk g S → wk (upd g k x) S
  | [], _, _ => trivial
  | d :: S, hk, h => by
    have hk' : S.length < k := hk
    exact ⟨(pk_un (by omega)).trans h.1, wk_upd (by omega) h.2⟩
def wk_up (g : Nat → Int32) (v d m : Nat) : Nat → Int32 := if p_two v = true then upd (upd g m (nI (if v = 2 then d else d + 1))) (m + 1) (nI d) else g
theorem wk_up_ok {g : Nat → Int32} {S : List Nat} (v d : Nat) (h : wk g S) : wk (wk_up g v d S.length) (p_aw v d S) := by
  unfold wk_up p_aw
  split
  · refine ⟨pk_us, ?_, ?_⟩
    · rw [pk_un (by omega), pk_us]
    · exact wk_upd (by omega) (wk_upd (Nat.le_refl _) h)
  · exact h
section WK
variable {G : z_G} {h : z_H} {d w n : Nat} {g : Nat → Int32}
theorem c_Wk_begin (HG : z_ok G) (hw : wkAt G h w n g) : z_C G m_Wk_begin d [.ref w] h (z_rq none (wset G h w 1 (upd g 0 (nI 0)))) := by
  refine z_C.of (Nat.le_of_ble_eq_true rfl) ?_
  refine z_aload_n d_Wk_begin_0 rfl rfl ?_
  refine z_getf (L_Wk_9K HG) (by decide) (L_Wk_9 HG) d_Wk_begin_1 hw.1 (by rfl) ?_
  refine z_iconst (v := nI 0) d_Wk_begin_4 (by decide) ?_
  refine z_iconst (v := nI 0) d_Wk_begin_5 (by decide) ?_
  refine z_iast d_Wk_begin_6 (ty0 HG) hw.2 (vp_in_nI (by decide) (by decide)) ?_
  rw [nI_clamp (by decide)]
  have hw1 : (z_set h (w + 1) (.inl (G.ca 0, 41, .inl (upd g 0 (nI 0))))).2.2 w = some (k_wk w n) := (va_up_ne _ _ (by omega)).trans hw.1
  refine z_aload_n d_Wk_begin_7 rfl rfl ?_
  refine z_iconst (v := nI 1) d_Wk_begin_8 (by decide) ?_
  refine z_putf (L_Wk_15K HG) (by decide) (L_Wk_15 HG) rfl d_Wk_begin_9 hw1 rfl rfl (Nat.le_of_ble_eq_true rfl) ?_
  exact z_return d_Wk_begin_12 rfl ⟨rfl, rfl⟩
theorem c_Wk_goesOn (HG : z_ok G) (hw : wkAt G h w n g) (hn : n ≤ 41) : z_C G m_Wk_goesOn d [.ref w] h (z_rq (some (.int (if n = 0 then nI 0 else nI 1))) h) := by
  refine z_C.of (Nat.le_of_ble_eq_true rfl) ?_
  refine z_aload_n d_Wk_goesOn_0 rfl rfl ?_
  refine z_getf (L_Wk_15K HG) (by decide) (L_Wk_15 HG) d_Wk_goesOn_1 hw.1 (by rfl) ?_
  refine z_if_le (tgt := 11) d_Wk_goesOn_4 rfl (fun c1 => ?_) (fun c1 => ?_)
  · rw [← nI_0, nI_leI (by omega) (by omega)] at c1
    refine z_iconst (v := nI 0) d_Wk_goesOn_11 (by decide) ?_
    exact z_ireturn d_Wk_goesOn_12 rfl rfl ⟨by rw [if_pos (by omega)], rfl⟩
  · rw [← nI_0, nI_leI (by omega) (by omega)] at c1
    refine z_iconst (v := nI 1) d_Wk_goesOn_7 (by decide) ?_
    refine z_goto (tgt := 12) d_Wk_goesOn_8 rfl ?_
    exact z_ireturn d_Wk_goesOn_12 rfl rfl ⟨by rw [if_neg (by omega)], rfl⟩
/-- behind the choice of the lower depth -/
theorem l_Wk_55 (HG : z_ok G) {k x dd : Nat} (hw : wkAt G h w k g) (hk : k + 1 < 41) (lo : List (Nat × Value)) (h0 : z_get lo 0 = some (.ref w)) (h2 : z_get lo 2 = some (.int (nI dd))) :
    z_V G m_Wk_depthOf d 55 lo [.int (nI x), .int (nI k), .ref (w + 1)] h (z_rq (some (.int (nI dd))) (wset G h w (k + 2) (upd (upd g k (nI x)) (k + 1) (nI dd)))) := by
  refine z_iast d_Wk_depthOf_55 (ty0 HG) hw.2 (vp_in_nI (by omega) (by decide)) ?_
  rw [nI_clamp (by omega)]
  have hw1 : (z_set h (w + 1) (.inl (G.ca 0, 41, .inl (upd g k (nI x))))).2.2 w = some (k_wk w k) := (va_up_ne _ _ (by omega)).trans hw.1
  have hw2 : (z_set h (w + 1) (.inl (G.ca 0, 41, .inl (upd g k (nI x))))).2.2 (w + 1) = some (.inl (G.ca 0, 41, .inl (upd g k (nI x)))) := va_up_self _ _ _
  refine z_aload_n d_Wk_depthOf_56 rfl h0 ?_
  refine z_getf (L_Wk_9K HG) (by decide) (L_Wk_9 HG) d_Wk_depthOf_57 hw1 (by rfl) ?_
  refine z_aload_n d_Wk_depthOf_60 rfl h0 ?_
  refine z_getf (L_Wk_15K HG) (by decide) (L_Wk_15 HG) d_Wk_depthOf_61 hw1 (by rfl) ?_
  refine z_iconst (v := nI 1) d_Wk_depthOf_64 (by decide) ?_
  refine z_iadd d_Wk_depthOf_65 ?_
  rw [nI_add]
  refine z_iload_n d_Wk_depthOf_66 rfl h2 ?_
  refine z_iast d_Wk_depthOf_67 (ty0 HG) hw2 (vp_in_nI (by omega) (by decide)) ?_
  rw [nI_clamp (by omega)]
  have hw3 : (z_set (z_set h (w + 1) (.inl (G.ca 0, 41, .inl (upd g k (nI x))))) (w + 1) (.inl (G.ca 0, 41, .inl (upd (upd g k (nI x)) (k + 1) (nI dd))))).2.2 w = some (k_wk w k) := (va_up_ne _ _ (by omega)).trans hw1
  refine z_aload_n d_Wk_depthOf_68 rfl h0 ?_
  refine z_dup d_Wk_depthOf_69 rfl ?_
  refine z_getf (L_Wk_15K HG) (by decide) (L_Wk_15 HG) d_Wk_depthOf_70 hw3 (by rfl) ?_
  refine z_iconst (v := nI 2) d_Wk_depthOf_73 (by decide) ?_
  refine z_iadd d_Wk_depthOf_74 ?_
  rw [nI_add]
  refine z_putf (L_Wk_15K HG) (by decide) (L_Wk_15 HG) rfl d_Wk_depthOf_75 hw3 rfl rfl (Nat.le_of_ble_eq_true rfl) ?_
  refine z_iload_n d_Wk_depthOf_78 rfl h2 ?_
  refine z_ireturn d_Wk_depthOf_79 rfl rfl ⟨rfl, ?_⟩
  unfold wset
  refine congrArg (fun z => (h.1, h.2.1, z)) ?_
  funext q
  simp only [va_up]
  split
  · rfl
  · split <;> rfl
theorem l_Wk_35 (HG : z_ok G) {k v dd : Nat} (hv : v < 1000) (hp : p_two v = true) (hw : wkAt G h w k g) (hk : k + 1 < 41) (lo : List (Nat × Value)) (h0 : z_get lo 0 = some (.ref w)) (h1 : z_get lo 1 = some (.int (nI v))) (h2 : z_get lo 2 = some (.int (nI dd))) :
    z_V G m_Wk_depthOf d 35 lo [] h (z_rq (some (.int (nI dd))) (wset G h w (k + 2) (wk_up g v dd k))) := by
  unfold wk_up
  rw [if_pos hp]
  refine z_aload_n d_Wk_depthOf_35 rfl h0 ?_
  refine z_getf (L_Wk_9K HG) (by decide) (L_Wk_9 HG) d_Wk_depthOf_36 hw.1 (by rfl) ?_
  refine z_aload_n d_Wk_depthOf_39 rfl h0 ?_
  refine z_getf (L_Wk_15K HG) (by decide) (L_Wk_15 HG) d_Wk_depthOf_40 hw.1 (by rfl) ?_
  refine z_iload_n d_Wk_depthOf_43 rfl h1 ?_
  refine z_iconst (v := nI 2) d_Wk_depthOf_44 (by decide) ?_
  refine z_icmp_ne (tgt := 52) d_Wk_depthOf_45 rfl (fun c2 => ?_) (fun c2 => ?_)
  · rw [nI_eq (by omega) (by omega)] at c2
    rw [if_neg c2]
    refine z_iload_n d_Wk_depthOf_52 rfl h2 ?_
    refine z_iconst (v := nI 1) d_Wk_depthOf_53 (by decide) ?_
    refine z_iadd d_Wk_depthOf_54 ?_
    rw [nI_add]
    exact l_Wk_55 HG hw hk lo h0 h2
  · rw [nI_eq (by omega) (by omega)] at c2
    rw [if_pos c2]
    refine z_iload_n d_Wk_depthOf_48 rfl h2 ?_
    refine z_goto (tgt := 55) d_Wk_depthOf_49 rfl ?_
    exact l_Wk_55 HG hw hk lo h0 h2
theorem c_Wk_depthOf (HG : z_ok G) {v dd : Nat} {S : List Nat} (hv : v < 1000) (hw : wkAt G h w (dd :: S).length g) (hk : wk g (dd :: S)) (hS : S.length + 1 < 41) :
    z_C G m_Wk_depthOf d [.ref w, .int (nI v)] h (z_rq (some (.int (nI dd))) (wset G h w (p_aw v dd S).length (wk_up g v dd S.length))) := by
  refine z_C.of (Nat.le_of_ble_eq_true rfl) ?_
  refine z_aload_n d_Wk_depthOf_0 rfl rfl ?_
  refine z_dup d_Wk_depthOf_1 rfl ?_
  refine z_getf (L_Wk_15K HG) (by decide) (L_Wk_15 HG) d_Wk_depthOf_2 hw.1 (by rfl) ?_
  refine z_iconst (v := nI 1) d_Wk_depthOf_5 (by decide) ?_
  refine z_isub d_Wk_depthOf_6 ?_
  rw [pk_sub (by simp), List.length_cons, Nat.add_sub_cancel]
  refine z_putf (L_Wk_15K HG) (by decide) (L_Wk_15 HG) rfl d_Wk_depthOf_7 hw.1 rfl rfl (Nat.le_of_ble_eq_true rfl) ?_
  have e0 : z_set h w (.inr (3, [Value.ref (w + 1), .int (nI (dd :: S).length)].set 1 (.int (nI S.length)))) = wset G h w S.length g := wset_len S.length hw
  rw [e0]
  have hw1 := wset_at G h w S.length g
  refine z_aload_n d_Wk_depthOf_10 rfl rfl ?_
  refine z_getf (L_Wk_9K HG) (by decide) (L_Wk_9 HG) d_Wk_depthOf_11 hw1.1 (by rfl) ?_
  refine z_aload_n d_Wk_depthOf_14 rfl rfl ?_
  refine z_getf (L_Wk_15K HG) (by decide) (L_Wk_15 HG) d_Wk_depthOf_15 hw1.1 (by rfl) ?_
  refine z_iald d_Wk_depthOf_18 (ty0 HG) hw1.2 (vp_in_nI (by omega) (by decide)) ?_
  rw [nI_clamp (by omega), hk.1]
  refine z_istore_n d_Wk_depthOf_19 rfl (by decide) ?_
  refine z_iload_n d_Wk_depthOf_20 rfl rfl ?_
  refine z_iconst (v := nI 2) d_Wk_depthOf_21 (by decide) ?_
  rw [p_aw_len]
  have two : p_two v = true → z_V G m_Wk_depthOf d 35 (z_sto (lv_args 0 [.ref w, .int (nI v)]) 2 (.int (nI dd))) [] (wset G h w S.length g) (z_rq (some (.int (nI dd))) (wset G h w (if p_two v = true then S.length + 2 else S.length) (wk_up g v dd S.length))) := fun hp => by
    rw [if_pos hp]
    refine (l_Wk_35 HG hv hp hw1 hS _ rfl rfl rfl).mono (fun q h' hq => ?_)
    rw [wset_wset] at hq
    exact hq
  refine z_icmp_eq (tgt := 35) d_Wk_depthOf_22 rfl (fun c1 => ?_) (fun c1 => ?_)
  · rw [nI_eq (by omega) (by omega)] at c1
    exact two (by simp [p_two, c1])
  · rw [nI_eq (by omega) (by omega)] at c1
    refine z_iload_n d_Wk_depthOf_25 rfl rfl ?_
    refine z_iconst (v := nI 3) d_Wk_depthOf_26 (by decide) ?_
    refine z_icmp_eq (tgt := 35) d_Wk_depthOf_27 rfl (fun c3 => ?_) (fun c3 => ?_)
    · rw [nI_eq (by omega) (by omega)] at c3
      exact two (by simp [p_two, c3])
    · rw [nI_eq (by omega) (by omega)] at c3
      refine z_iload_n d_Wk_depthOf_30 rfl rfl ?_
      refine z_iconst (v := nI 4) d_Wk_depthOf_31 (by decide) ?_
      refine z_icmp_ne (tgt := 78) d_Wk_depthOf_32 rfl (fun c5 => ?_) (fun c5 => ?_)
      · rw [nI_eq (by omega) (by omega)] at c5
        have hp : ¬ p_two v = true := by simp [p_two, c1, c3, c5]
        rw [if_neg hp]
        refine z_iload_n d_Wk_depthOf_78 rfl rfl ?_
        exact z_ireturn d_Wk_depthOf_79 rfl rfl ⟨rfl, by rw [wk_up, if_neg hp]⟩
      · rw [nI_eq (by omega) (by omega)] at c5
        exact two (by simp [p_two, c5])
end WK
