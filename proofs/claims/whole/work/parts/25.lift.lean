/-! Rewriter.appendLifted -/
def k_rw (q rc a b : Nat) : va_E := .inr (4, [.ref (q + 1), .int (nI rc), .ref a, .ref b, .ref (q + 6), .ref (q + 7), .ref (q + 9)])
/-- a row beside the Rewriter q: its own two, or one that was made later -/
def k_rr (q r : Nat) : Prop := r = q + 2 ∨ r = q + 4 ∨ q + 10 < r
/-- two rows apart -/
def k_ne (s r : Nat) : Prop := s ≠ r ∧ s ≠ r + 1 ∧ s + 1 ≠ r
theorem wr_norm (G : z_G) (h : z_H) {w r n n' m m' : Nat} {f f' g g' : Nat → Int32} (h1 : w ≠ r) (h2 : w ≠ r + 1) (h3 : w + 1 ≠ r) : rset G (wset G (rset G (wset G h w n g) r m f) w n' g') r m' f' = rset G (wset G h w n' g') r m' f' := by
  rw [← wr_comm G (wset G h w n g) h1 h2 h3, wset_wset, rset_rset]
section LF
variable {G : z_G} {d q rc na nb s r : Nat} {fs : Nat → Int32} {ls : List Nat}
/-- the step of the loop, up to the loop's head -/
theorem l_lift_step (HG : z_ok G) {k v dd i m : Nat} {S : List Nat} {f g : Nat → Int32} {h : z_H} {Q : z_R → z_H → Prop} (hk : k < 1000) (hv : v < 1000) (hdd : dd < 1000) (hi : i < 41)
    (hq : h.2.2 q = some (k_rw q rc na nb)) (hw : wkAt G h (q + 9) (dd :: S).length g) (hg : wk g (dd :: S)) (hS : S.length + 1 < 41) (hs : rowAt G h s ls.length fs) (hr : rowAt G h r m f) (hls : rl fs ls) (hil : i < ls.length) (hvi : ls.getD i 0 = v)
    (rr : k_rr q r) (rs : k_rr q s)
    (kk : ∀ h1, h1 = wset G h (q + 9) (p_aw v dd S).length (wk_up g v dd S.length) → rowAt G h1 r m f →
      z_V G m_Rw_appendLifted (d + 1) 69 [(0, .ref q), (1, .ref s), (3, .int (nI k)), (4, .ref r), (5, .int (nI i))] [.int (nI (if 100 + dd ≤ v then v + k else v)), .ref r] h1 Q) :
    z_V G m_Rw_appendLifted (d + 1) 10 [(0, .ref q), (1, .ref s), (3, .int (nI k)), (4, .ref r), (5, .int (nI i))] [] h Q := by
  have hl40 := hls.len
  unfold k_rr at rr rs
  refine z_iload d_Rw_appendLifted_10 rfl ?_
  refine z_aload_n d_Rw_appendLifted_12 rfl rfl ?_
  refine z_getf (L_Rw_66K HG) (by decide) (L_Rw_66 HG) d_Rw_appendLifted_13 hs.1 (by rfl) ?_
  refine z_icmp_ge (tgt := 78) d_Rw_appendLifted_16 rfl (fun c1 => ?_) (fun c1 => ?_)
  · rw [nI_leI (by omega) (by omega)] at c1
    omega
  · refine z_aload_n d_Rw_appendLifted_19 rfl rfl ?_
    refine z_getf (L_Rw_42K HG) (by decide) (L_Rw_42 HG) d_Rw_appendLifted_20 hq (by rfl) ?_
    refine z_callV0r (dY := d) d_Rw_appendLifted_23 rfl (by omega) (Y_Rw_104 HG) hw.1 (cl_Wk HG) (Nat.le_of_ble_eq_true rfl) (c_Wk_goesOn HG hw (by simp; omega)) ?_
    rw [if_neg (by simp)]
    refine z_if_eq (tgt := 78) d_Rw_appendLifted_26 rfl (fun c2 => ?_) (fun c2 => ?_)
    · exact absurd c2 (by decide)
    · refine z_aload_n d_Rw_appendLifted_29 rfl rfl ?_
      refine z_iload d_Rw_appendLifted_30 rfl ?_
      refine z_callV1r (dY := d) d_Rw_appendLifted_32 rfl (by omega) (Y_Rw_69 HG) hs.1 (cl_Row HG) (Nat.le_of_ble_eq_true rfl) (c_Row_at HG hs hl40 (nI i)) ?_
      rw [k_at_in fs hil hl40, hls.eq hil, hvi]
      refine z_istore d_Rw_appendLifted_35 (by decide) ?_
      refine z_aload_n d_Rw_appendLifted_37 rfl rfl ?_
      refine z_getf (L_Rw_42K HG) (by decide) (L_Rw_42 HG) d_Rw_appendLifted_38 hq (by rfl) ?_
      refine z_iload d_Rw_appendLifted_41 rfl ?_
      refine z_callV1r (dY := d) d_Rw_appendLifted_43 rfl (by omega) (Y_Rw_107 HG) hw.1 (cl_Wk HG) (Nat.le_of_ble_eq_true rfl) (c_Wk_depthOf HG hv hw hg hS) ?_
      refine z_istore d_Rw_appendLifted_46 (by decide) ?_
      refine z_aload d_Rw_appendLifted_48 rfl ?_
      refine z_iload d_Rw_appendLifted_50 rfl ?_
      refine z_bipush (v := nI 100) d_Rw_appendLifted_52 (by decide +kernel) ?_
      refine z_iload d_Rw_appendLifted_54 rfl ?_
      refine z_iadd d_Rw_appendLifted_56 ?_
      rw [nI_add]
      have kk' := kk _ rfl (wset_row _ _ hr (by omega) (by omega) (by omega))
      refine z_icmp_lt (tgt := 67) d_Rw_appendLifted_57 rfl (fun c3 => ?_) (fun c3 => ?_)
      · rw [nI_ltI (by omega) (by omega)] at c3
        rw [if_neg (by omega)] at kk'
        refine z_iload d_Rw_appendLifted_67 rfl ?_
        exact z_fg [(0, .ref q), (1, .ref s), (3, .int (nI k)), (4, .ref r), (5, .int (nI i))] ⟨rfl, rfl, rfl, rfl, rfl, trivial⟩ kk'
      · rw [nI_ltI (by omega) (by omega)] at c3
        rw [if_pos (by omega)] at kk'
        refine z_iload d_Rw_appendLifted_60 rfl ?_
        refine z_iload_n d_Rw_appendLifted_62 rfl rfl ?_
        refine z_iadd d_Rw_appendLifted_63 ?_
        rw [nI_add]
        refine z_goto (tgt := 69) d_Rw_appendLifted_64 rfl ?_
        exact z_fg [(0, .ref q), (1, .ref s), (3, .int (nI k)), (4, .ref r), (5, .int (nI i))] ⟨rfl, rfl, rfl, rfl, rfl, trivial⟩ kk'
/-- the loop's end -/
theorem l_lift_end (HG : z_ok G) {k i n : Nat} {g : Nat → Int32} {h : z_H} {Q : z_R → z_H → Prop} (hi : i < 41) (hn : n ≤ 41)
    (hq : h.2.2 q = some (k_rw q rc na nb)) (hw : wkAt G h (q + 9) n g) (hs : rowAt G h s ls.length fs) (hls : rl fs ls) (he : ls.length ≤ i ∨ n = 0) (hQ : Q (.inl none) h) :
    z_V G m_Rw_appendLifted (d + 1) 10 [(0, .ref q), (1, .ref s), (3, .int (nI k)), (4, .ref r), (5, .int (nI i))] [] h Q := by
  have hl40 := hls.len
  refine z_iload d_Rw_appendLifted_10 rfl ?_
  refine z_aload_n d_Rw_appendLifted_12 rfl rfl ?_
  refine z_getf (L_Rw_66K HG) (by decide) (L_Rw_66 HG) d_Rw_appendLifted_13 hs.1 (by rfl) ?_
  refine z_icmp_ge (tgt := 78) d_Rw_appendLifted_16 rfl (fun c1 => ?_) (fun c1 => ?_)
  · exact z_return d_Rw_appendLifted_78 rfl hQ
  · rw [nI_leI (by omega) (by omega)] at c1
    refine z_aload_n d_Rw_appendLifted_19 rfl rfl ?_
    refine z_getf (L_Rw_42K HG) (by decide) (L_Rw_42 HG) d_Rw_appendLifted_20 hq (by rfl) ?_
    refine z_callV0r (dY := d) d_Rw_appendLifted_23 rfl (by omega) (Y_Rw_104 HG) hw.1 (cl_Wk HG) (Nat.le_of_ble_eq_true rfl) (c_Wk_goesOn HG hw hn) ?_
    rw [if_pos (by omega)]
    refine z_if_eq (tgt := 78) d_Rw_appendLifted_26 rfl (fun c2 => ?_) (fun c2 => ?_)
    · exact z_return d_Rw_appendLifted_78 rfl hQ
    · exact absurd (by rw [nI_0]) c2
theorem p_aw_bound {v d x : Nat} {S : List Nat} (hd : d ≤ x) (hS : ∀ e ∈ S, e ≤ x) : ∀ e ∈ p_aw v d S, e ≤ x + 1 := by
  intro e he
  unfold p_aw at he
  split at he
  · rcases List.mem_cons.mp he with rfl | he
    · omega
    · rcases List.mem_cons.mp he with rfl | he
      · split <;> omega
      · have := hS e he; omega
  · have := hS e he; omega
theorem l_lift (HG : z_ok G) {k : Nat} (hk : k < 1000) (hls : rl fs ls) (rr : k_rr q r) (rs : k_rr q s) (e : k_ne s r) : ∀ (c i m : Nat) (S : List Nat) (f g : Nat → Int32) (h : z_H), i + c = ls.length → S.length + c ≤ 41 → (∀ x ∈ S, x ≤ i) →
    h.2.2 q = some (k_rw q rc na nb) → wkAt G h (q + 9) S.length g → wk g S → rowAt G h s ls.length fs → rowAt G h r m f → m + (p_lift k S (ls.drop i)).length ≤ 40 →
    z_V G m_Rw_appendLifted (d + 1) 10 [(0, .ref q), (1, .ref s), (3, .int (nI k)), (4, .ref r), (5, .int (nI i))] [] h (z_pq none (fun h' => ∃ n' g', n' ≤ 41 ∧ h' = rset G (wset G h (q + 9) n' g') r (m + (p_lift k S (ls.drop i)).length) (k_app f m (p_lift k S (ls.drop i))))) := by
  have hl40 := hls.len
  have rr' := rr
  have rs' := rs
  unfold k_rr at rr' rs'
  obtain ⟨e1, e2, e3⟩ := e
  intro c
  induction c with
  | zero =>
    intro i m S f g h hi hS hx hq hw hg hs hr hm
    refine l_lift_end HG (by omega) (by omega) hq hw hs hls (Or.inl (by omega)) ⟨rfl, S.length, g, by omega, ?_⟩
    rw [List.drop_eq_nil_of_le (by omega), p_lift_nil, wset_self hw, k_app_nil]
    exact (rset_self hr).symm
  | succ c ih =>
    intro i m S f g h hi hS hx hq hw hg hs hr hm
    cases S with
    | nil =>
      refine l_lift_end HG (by omega) (by simp) hq hw hs hls (Or.inr rfl) ⟨rfl, 0, g, by omega, ?_⟩
      have hw' : wkAt G h (q + 9) 0 g := hw
      rw [p_lift_stop, wset_self hw', k_app_nil]
      exact (rset_self hr).symm
    | cons dd S =>
      have hdd : dd ≤ i := hx dd List.mem_cons_self
      have hSx : ∀ y ∈ S, y ≤ i := fun y hy => hx y (List.mem_cons_of_mem _ hy)
      have hlen : (dd :: S).length = S.length + 1 := rfl
      have hv := hls.lt (i := i) (by omega)
      rw [l_dc (l := ls) (i := i) (by omega)] at hm ⊢
      have ep : p_lift k (dd :: S) (ls.getD i 0 :: ls.drop (i + 1)) = (if 100 + dd ≤ ls.getD i 0 then ls.getD i 0 + k else ls.getD i 0) :: p_lift k (p_aw (ls.getD i 0) dd S) (ls.drop (i + 1)) := rfl
      rw [ep] at hm ⊢
      refine l_lift_step HG hk hv (by omega) (by omega) hq hw hg (by omega) hs hr hls (by omega) rfl rr rs (fun h1 hh1 hr1 => ?_)
      generalize (if 100 + dd ≤ ls.getD i 0 then ls.getD i 0 + k else ls.getD i 0) = x at hm ⊢
      have hm' : m + ((p_lift k (p_aw (ls.getD i 0) dd S) (ls.drop (i + 1))).length + 1) ≤ 40 := hm
      refine z_callV1v (dY := d) d_Rw_appendLifted_69 rfl (by omega) (Y_Rw_114 HG) hr1.1 (cl_Row HG) (Nat.le_of_ble_eq_true rfl) (c_Row_append HG hr1 (by omega) _) ?_
      refine z_iinc (v := nI (i + 1)) d_Rw_appendLifted_72 rfl (i_inc i) (by decide) ?_
      refine z_goto (tgt := 10) d_Rw_appendLifted_75 rfl ?_
      refine z_fg [(0, .ref q), (1, .ref s), (3, .int (nI k)), (4, .ref r), (5, .int (nI (i + 1)))] ⟨rfl, rfl, rfl, rfl, rfl, trivial⟩ ?_
      subst hh1
      have hal : (p_aw (ls.getD i 0) dd S).length + c ≤ 41 := by
        rw [p_aw_len]
        split <;> omega
      refine (ih (i + 1) (m + 1) (p_aw (ls.getD i 0) dd S) (upd f m (nI x)) (wk_up g (ls.getD i 0) dd S.length) _ (by omega) hal (p_aw_bound hdd hSx)
        ((rset_ne G _ _ _ (by omega) (by omega)).trans ((wset_ne G h _ _ (by omega) (by omega)).trans hq)) (rset_wk _ _ (wset_at ..) (by omega) (by omega) (by omega)) (wk_up_ok _ _ hg.2)
        (rset_row _ _ (wset_row _ _ hs (by omega) (by omega) (by omega)) e1 e2 e3) (rset_at ..) (by omega)).mono (fun q' h' hq' => ?_)
      obtain ⟨hq1, n', g', hn', hh'⟩ := hq'
      refine ⟨hq1, n', g', hn', ?_⟩
      rw [hh', wr_norm G h (by omega) (by omega) (by omega), k_app_cons, List.length_cons, show m + 1 + (p_lift k (p_aw (ls.getD i 0) dd S) (ls.drop (i + 1))).length = m + ((p_lift k (p_aw (ls.getD i 0) dd S) (ls.drop (i + 1))).length + 1) by omega]
theorem c_Rw_appendLifted (HG : z_ok G) {k a n nw : Nat} {f g : Nat → Int32} {h : z_H} (hk : k < 1000) (hls : rl fs ls) (rr : k_rr q r) (rs : k_rr q s) (e : k_ne s r) (ha : a ≤ ls.length)
    (hq : h.2.2 q = some (k_rw q rc na nb)) (hw : wkAt G h (q + 9) nw g) (hs : rowAt G h s ls.length fs) (hr : rowAt G h r n f) (hm : n + (p_lift k [0] (ls.drop a)).length ≤ 40) :
    z_C G m_Rw_appendLifted (d + 1) [.ref q, .ref s, .int (nI a), .int (nI k), .ref r] h (z_pq none (fun h' => ∃ n' g', n' ≤ 41 ∧ h' = rset G (wset G h (q + 9) n' g') r (n + (p_lift k [0] (ls.drop a)).length) (k_app f n (p_lift k [0] (ls.drop a))))) := by
  have hl40 := hls.len
  have rr' := rr
  have rs' := rs
  unfold k_rr at rr' rs'
  refine z_C.of (Nat.le_of_ble_eq_true rfl) ?_
  refine z_aload_n d_Rw_appendLifted_0 rfl rfl ?_
  refine z_getf (L_Rw_42K HG) (by decide) (L_Rw_42 HG) d_Rw_appendLifted_1 hq (by rfl) ?_
  refine z_callV0v (dY := d) d_Rw_appendLifted_4 rfl (by omega) (Y_Rw_101 HG) hw.1 (cl_Wk HG) (Nat.le_of_ble_eq_true rfl) (c_Wk_begin HG hw) ?_
  refine z_iload_n d_Rw_appendLifted_7 rfl rfl ?_
  refine z_istore d_Rw_appendLifted_8 (by decide) ?_
  refine z_fg [(0, .ref q), (1, .ref s), (3, .int (nI k)), (4, .ref r), (5, .int (nI a))] ⟨rfl, rfl, rfl, rfl, rfl, trivial⟩ ?_
  refine (l_lift HG hk hls rr rs e (ls.length - a) a n [0] f (upd g 0 (nI 0)) _ (by omega) (by simp; omega) (by simp) ((wset_ne G h _ _ (by omega) (by omega)).trans hq) (wset_at ..) ⟨pk_us, trivial⟩ (wset_row _ _ hs (by omega) (by omega) (by omega)) (wset_row _ _ hr (by omega) (by omega) (by omega)) hm).mono (fun q' h' hq' => ?_)
  obtain ⟨hq1, n', g', hn', hh'⟩ := hq'
  exact ⟨hq1, n', g', hn', by rw [hh', wset_wset]⟩
/-- the same, where the row becomes too long -/
theorem l_liftX (HG : z_ok G) {k : Nat} (hk : k < 1000) (hls : rl fs ls) (rr : k_rr q r) (rs : k_rr q s) (e : k_ne s r) : ∀ (c i m : Nat) (S : List Nat) (f g : Nat → Int32) (h : z_H), z_rm G h → i + c = ls.length → S.length + c ≤ 41 → (∀ x ∈ S, x ≤ i) →
    h.2.2 q = some (k_rw q rc na nb) → wkAt G h (q + 9) S.length g → wk g S → rowAt G h s ls.length fs → rowAt G h r m f → m ≤ 40 → 40 < m + (p_lift k S (ls.drop i)).length →
    z_V G m_Rw_appendLifted (d + 1) 10 [(0, .ref q), (1, .ref s), (3, .int (nI k)), (4, .ref r), (5, .int (nI i))] [] h (z_xq "java/lang/ArithmeticException" (fun h' => ∃ n' g' f', n' ≤ 41 ∧ h' = z_exc (rset G (wset G h (q + 9) n' g') r 40 f'))) := by
  have hl40 := hls.len
  have rr' := rr
  have rs' := rs
  unfold k_rr at rr' rs'
  obtain ⟨e1, e2, e3⟩ := e
  intro c
  induction c with
  | zero =>
    intro i m S f g h hrm hi hS hx hq hw hg hs hr hm hm2
    rw [List.drop_eq_nil_of_le (by omega), p_lift_nil, List.length_nil] at hm2
    omega
  | succ c ih =>
    intro i m S f g h hrm hi hS hx hq hw hg hs hr hm hm2
    cases S with
    | nil =>
      rw [p_lift_stop, List.length_nil] at hm2
      omega
    | cons dd S =>
      have hdd : dd ≤ i := hx dd List.mem_cons_self
      have hSx : ∀ y ∈ S, y ≤ i := fun y hy => hx y (List.mem_cons_of_mem _ hy)
      have hlen : (dd :: S).length = S.length + 1 := rfl
      have hv := hls.lt (i := i) (by omega)
      rw [l_dc (l := ls) (i := i) (by omega)] at hm2
      have ep : p_lift k (dd :: S) (ls.getD i 0 :: ls.drop (i + 1)) = (if 100 + dd ≤ ls.getD i 0 then ls.getD i 0 + k else ls.getD i 0) :: p_lift k (p_aw (ls.getD i 0) dd S) (ls.drop (i + 1)) := rfl
      rw [ep, List.length_cons] at hm2
      refine l_lift_step HG hk hv (by omega) (by omega) hq hw hg (by omega) hs hr hls (by omega) rfl rr rs (fun h1 hh1 hr1 => ?_)
      generalize (if 100 + dd ≤ ls.getD i 0 then ls.getD i 0 + k else ls.getD i 0) = x
      have hal : (p_aw (ls.getD i 0) dd S).length + c ≤ 41 := by
        rw [p_aw_len]
        split <;> omega
      by_cases hm3 : m = 40
      · subst hm3
        have hrm1 : z_rm G h1 := by rw [hh1]; exact hrm
        refine z_callV1x (dY := d) d_Rw_appendLifted_69 rfl (by omega) (Y_Rw_114 HG) hr1.1 (cl_Row HG) (Nat.le_of_ble_eq_true rfl) (c_Row_appendX HG hr1 hrm1 _) (fun h' hh => ⟨rfl, (p_aw (ls.getD i 0) dd S).length, wk_up g (ls.getD i 0) dd S.length, f, by omega, ?_⟩)
        rw [hh, ← hh1, rset_self hr1]
      · refine z_callV1v (dY := d) d_Rw_appendLifted_69 rfl (by omega) (Y_Rw_114 HG) hr1.1 (cl_Row HG) (Nat.le_of_ble_eq_true rfl) (c_Row_append HG hr1 (by omega) _) ?_
        refine z_iinc (v := nI (i + 1)) d_Rw_appendLifted_72 rfl (i_inc i) (by decide) ?_
        refine z_goto (tgt := 10) d_Rw_appendLifted_75 rfl ?_
        refine z_fg [(0, .ref q), (1, .ref s), (3, .int (nI k)), (4, .ref r), (5, .int (nI (i + 1)))] ⟨rfl, rfl, rfl, rfl, rfl, trivial⟩ ?_
        subst hh1
        refine (ih (i + 1) (m + 1) (p_aw (ls.getD i 0) dd S) (upd f m (nI x)) (wk_up g (ls.getD i 0) dd S.length) (rset G (wset G h (q + 9) (p_aw (ls.getD i 0) dd S).length (wk_up g (ls.getD i 0) dd S.length)) r (m + 1) (upd f m (nI x))) hrm (by omega) hal (p_aw_bound hdd hSx)
          ((rset_ne G _ _ _ (by omega) (by omega)).trans ((wset_ne G h _ _ (by omega) (by omega)).trans hq)) (rset_wk _ _ (wset_at ..) (by omega) (by omega) (by omega)) (wk_up_ok _ _ hg.2)
          (rset_row _ _ (wset_row _ _ hs (by omega) (by omega) (by omega)) e1 e2 e3) (rset_at ..) (by omega) (by omega)).mono (fun q' h' hq' => ?_)
        obtain ⟨hq1, n', g', f', hn', hh'⟩ := hq'
        refine ⟨hq1, n', g', f', hn', ?_⟩
        rw [hh', wr_norm G h (by omega) (by omega) (by omega)]
theorem c_Rw_appendLiftedX (HG : z_ok G) {k a n nw : Nat} {f g : Nat → Int32} {h : z_H} (hrm : z_rm G h) (hk : k < 1000) (hls : rl fs ls) (rr : k_rr q r) (rs : k_rr q s) (e : k_ne s r) (ha : a ≤ ls.length)
    (hq : h.2.2 q = some (k_rw q rc na nb)) (hw : wkAt G h (q + 9) nw g) (hs : rowAt G h s ls.length fs) (hr : rowAt G h r n f) (hn : n ≤ 40) (hm : 40 < n + (p_lift k [0] (ls.drop a)).length) :
    z_C G m_Rw_appendLifted (d + 1) [.ref q, .ref s, .int (nI a), .int (nI k), .ref r] h (z_xq "java/lang/ArithmeticException" (fun h' => ∃ n' g' f', n' ≤ 41 ∧ h' = z_exc (rset G (wset G h (q + 9) n' g') r 40 f'))) := by
  have hl40 := hls.len
  have rr' := rr
  have rs' := rs
  unfold k_rr at rr' rs'
  refine z_C.of (Nat.le_of_ble_eq_true rfl) ?_
  refine z_aload_n d_Rw_appendLifted_0 rfl rfl ?_
  refine z_getf (L_Rw_42K HG) (by decide) (L_Rw_42 HG) d_Rw_appendLifted_1 hq (by rfl) ?_
  refine z_callV0v (dY := d) d_Rw_appendLifted_4 rfl (by omega) (Y_Rw_101 HG) hw.1 (cl_Wk HG) (Nat.le_of_ble_eq_true rfl) (c_Wk_begin HG hw) ?_
  refine z_iload_n d_Rw_appendLifted_7 rfl rfl ?_
  refine z_istore d_Rw_appendLifted_8 (by decide) ?_
  refine z_fg [(0, .ref q), (1, .ref s), (3, .int (nI k)), (4, .ref r), (5, .int (nI a))] ⟨rfl, rfl, rfl, rfl, rfl, trivial⟩ ?_
  refine (l_liftX HG hk hls rr rs e (ls.length - a) a n [0] f (upd g 0 (nI 0)) (wset G h (q + 9) 1 (upd g 0 (nI 0))) hrm (by omega) (by simp; omega) (by simp) ((wset_ne G h _ _ (by omega) (by omega)).trans hq) (wset_at ..) ⟨pk_us, trivial⟩ (wset_row _ _ hs (by omega) (by omega) (by omega)) (wset_row _ _ hr (by omega) (by omega) (by omega)) hn hm).mono (fun q' h' hq' => ?_)
  obtain ⟨hq1, n', g', f', hn', hh'⟩ := hq'
  exact ⟨hq1, n', g', f', hn', by rw [hh', wset_wset]⟩
end LF
