/-! the reference: isLeft -/
/-- may the number stand in a left side, as the reference sees it -/
def p_mg (l : List Nat) (i : Nat) : Prop := 10 ≤ l.getD i 0 ∨ (l.getD i 0 = 2 ∧ l.getD (i + 1) 0 < 100 ∧ l.getD (i + 1) 0 ≠ 3)
theorem p_may_of_mg {l : List Nat} (H : ∀ i, i < l.length → p_mg l i) : ∀ i, i < l.length → p_may l i = true := by
  intro i hi
  have h1 := H i hi
  unfold p_may
  by_cases hv : 100 ≤ l.getD i 0
  · rw [if_pos hv]
    by_cases h0 : i = 0
    · simp [h0]
    · have h2 := H (i - 1) (by omega)
      have hne : ¬ l.getD (i - 1) 0 = 2 := by
        intro hh
        unfold p_mg at h2
        rw [show i - 1 + 1 = i by omega] at h2
        omega
      rw [decide_eq_false hne, Bool.not_false, Bool.or_true]
  · rw [if_neg hv]
    unfold p_mg at h1
    by_cases h10 : 10 ≤ l.getD i 0
    · rw [decide_eq_true h10, Bool.true_or]
    · have h2 : l.getD i 0 = 2 := by omega
      rw [decide_eq_true h2, Bool.or_true]
theorem p_mg_of_may {l : List Nat} (H : ∀ i, i < l.length → p_may l i = true) {i : Nat} (hi : i < l.length) (hn : l.getD i 0 = 2 → i + 1 < l.length) : p_mg l i := by
  have h1 := H i hi
  unfold p_mg
  unfold p_may at h1
  by_cases hv : 100 ≤ l.getD i 0
  · omega
  · rw [if_neg hv, Bool.or_eq_true, decide_eq_true_iff, decide_eq_true_iff] at h1
    rcases h1 with h1 | h1
    · exact Or.inl h1
    · right
      have h2 := H (i + 1) (hn h1)
      unfold p_may at h2
      by_cases hw : 100 ≤ l.getD (i + 1) 0
      · rw [if_pos hw, Bool.or_eq_true, decide_eq_true_iff, Nat.add_sub_cancel, h1] at h2
        simp at h2
      · rw [if_neg hw, Bool.or_eq_true, decide_eq_true_iff, decide_eq_true_iff] at h2
        exact ⟨h1, by omega, by omega⟩
theorem nI_bit : ∀ m, m < 16 → ∀ j, j < 4 → (nI m >>> (nI j &&& 31)) &&& nI 1 = if m.testBit j = true then nI 1 else nI 0 := by decide +kernel
theorem nI_set : ∀ m, m < 16 → ∀ j, j < 4 → nI m ||| (nI 1 <<< (nI j &&& 31)) = nI (m ||| 2 ^ j) := by decide +kernel
theorem nI_all : ∀ n, n < 5 → (nI 1 <<< (nI n &&& 31)) - nI 1 = nI (2 ^ n - 1) := by decide +kernel
theorem l_bits : ∀ n, n < 5 → ∀ m, m < 2 ^ n → (m = 2 ^ n - 1 ↔ ∀ v, v < n → m.testBit v = true) := by decide +kernel
theorem l_orlt : ∀ n, n < 5 → ∀ m, m < 2 ^ n → ∀ j, j < n → m ||| 2 ^ j < 2 ^ n := by decide +kernel
theorem l_ortb : ∀ m, m < 16 → ∀ j, j < 4 → ∀ v, v < 4 → (m ||| 2 ^ j).testBit v = (m.testBit v || decide (v = j)) := by decide +kernel
theorem l_p16 {n m : Nat} (hn : n ≤ 4) (hm : m < 2 ^ n) : m < 16 := Nat.lt_of_lt_of_le hm (Nat.le_trans (Nat.pow_le_pow_right (by decide) hn) (by decide))
section ML
variable {G : z_G} {h : z_H} {q d r ne : Nat} {s : Nat → Int32} {A : Nat → Nat → Int32} {l : List Nat} {ks : List (List Nat × Bool)}
theorem l_Md_lfX (HG : z_ok G) {b : Int32} {i : Nat} (hr : r < 43) (hl : mrow A r l) (hi : i ≤ 40) : z_V G m_Md_isLeft (d + 1) 62 [(0, .ref q), (1, .int (nI r)), (4, .int (nI 0)), (5, .int b), (6, .int (nI i))] [] (md G h q s A) (z_rq (some (.int (nI 0))) (md G h q s A)) := by
  have h40 := hl.len
  refine z_iload d_Md_isLeft_62 rfl ?_
  refine z_aload_n d_Md_isLeft_64 rfl rfl ?_
  refine z_mg HG d_Md_isLeft_65 (L_Md_13 HG) (by decide) rfl ?_
  refine z_iload_n d_Md_isLeft_68 rfl rfl ?_
  refine z_ml HG 2 d_Md_isLeft_69 (by decide) (show _ < 43 by omega) hl.1 ?_
  refine z_icmp_ge (tgt := 196) d_Md_isLeft_70 rfl (fun c70 => ?_) (fun c70 => ?_)
  · rw [nI_leI (by omega) (by omega)] at c70
    refine z_iload d_Md_isLeft_196 rfl ?_
    refine z_if_eq (tgt := 218) d_Md_isLeft_198 rfl (fun c198 => ?_) (fun c198 => ?_)
    · rw [← nI_0, nI_eq (by omega) (by omega)] at c198
      refine z_iconst (v := nI 0) d_Md_isLeft_218 (by decide) ?_
      exact z_ireturn d_Md_isLeft_219 rfl rfl ⟨rfl, rfl⟩
    · rw [← nI_0, nI_eq (by omega) (by omega)] at c198
      omega
  · rw [nI_leI (by omega) (by omega)] at c70
    refine z_iload d_Md_isLeft_73 rfl ?_
    refine z_if_eq (tgt := 196) d_Md_isLeft_75 rfl (fun c75 => ?_) (fun c75 => ?_)
    · rw [← nI_0, nI_eq (by omega) (by omega)] at c75
      refine z_iload d_Md_isLeft_196 rfl ?_
      refine z_if_eq (tgt := 218) d_Md_isLeft_198 rfl (fun c198 => ?_) (fun c198 => ?_)
      · rw [← nI_0, nI_eq (by omega) (by omega)] at c198
        refine z_iconst (v := nI 0) d_Md_isLeft_218 (by decide) ?_
        exact z_ireturn d_Md_isLeft_219 rfl rfl ⟨rfl, rfl⟩
      · rw [← nI_0, nI_eq (by omega) (by omega)] at c198
        omega
    · rw [← nI_0, nI_eq (by omega) (by omega)] at c75
      omega
theorem l_Md_left (HG : z_ok G) (hr : r < 43) (hne : ne ≤ 4) (h5 : s 5 = nI ne) (hl : mrow A r l) {Rz : Bool} (hyes : (∀ i, i < l.length → p_mg l i) → (∀ v, v < ne → l.count (100 + v) = 1) → Rz = true) (hno1 : (∃ i, i < l.length ∧ ¬ p_mg l i) → Rz = false) (hno2 : (∃ v, v < ne ∧ l.count (100 + v) ≠ 1) → Rz = false) : ∀ (c i k m : Nat), i + c = l.length → p_wf ne (List.replicate k 0) (l.drop i) → (∀ j, j < i → p_mg l j) → m < 2 ^ ne → (∀ v, v < ne → (l.take i).count (100 + v) = if m.testBit v = true then 1 else 0) →
    z_V G m_Md_isLeft (d + 1) 62 [(0, .ref q), (1, .int (nI r)), (4, .int (nI 1)), (5, .int (nI m)), (6, .int (nI i))] [] (md G h q s A) (z_rq (some (.int (if Rz = true then nI 1 else nI 0))) (md G h q s A)) := by
  have h40 := hl.len
  intro c
  induction c with
  | zero =>
    intro i k m hi hw hg hm hc
    have hm16 := l_p16 hne hm
    rw [List.take_of_length_le (by omega)] at hc
    refine z_iload d_Md_isLeft_62 rfl ?_
    refine z_aload_n d_Md_isLeft_64 rfl rfl ?_
    refine z_mg HG d_Md_isLeft_65 (L_Md_13 HG) (by decide) rfl ?_
    refine z_iload_n d_Md_isLeft_68 rfl rfl ?_
    refine z_ml HG 2 d_Md_isLeft_69 (by decide) (show _ < 43 by omega) hl.1 ?_
    refine z_icmp_ge (tgt := 196) d_Md_isLeft_70 rfl (fun c70 => ?_) (fun c70 => ?_)
    · rw [nI_leI (by omega) (by omega)] at c70
      refine z_iload d_Md_isLeft_196 rfl ?_
      refine z_if_eq (tgt := 218) d_Md_isLeft_198 rfl (fun c198 => ?_) (fun c198 => ?_)
      · rw [← nI_0, nI_eq (by omega) (by omega)] at c198
        omega
      · rw [← nI_0, nI_eq (by omega) (by omega)] at c198
        refine z_iload d_Md_isLeft_201 rfl ?_
        refine z_iconst (v := nI 1) d_Md_isLeft_203 (by decide) ?_
        refine z_aload_n d_Md_isLeft_204 rfl rfl ?_
        refine z_mg HG d_Md_isLeft_205 (L_Md_104 HG) (by decide) rfl ?_
        refine z_eqi h5 ?_
        refine z_ishl d_Md_isLeft_208 ?_
        refine z_eqi rfl ?_
        refine z_iconst (v := nI 1) d_Md_isLeft_209 (by decide) ?_
        refine z_isub d_Md_isLeft_210 ?_
        refine z_eqi (nI_all ne (by omega)) ?_
        have hp2 : 2 ^ ne - 1 < 16 := Nat.lt_of_lt_of_le (Nat.sub_lt (Nat.pow_pos (by decide)) (by decide)) (Nat.le_trans (Nat.pow_le_pow_right (by decide) hne) (by decide))
        generalize hpn : 2 ^ ne - 1 = pn at hp2 ⊢
        refine z_icmp_ne (tgt := 218) d_Md_isLeft_211 rfl (fun c211 => ?_) (fun c211 => ?_)
        · rw [nI_eq (by omega) (by omega)] at c211
          rw [if_neg (show ¬ Rz = true from fun hh => by
            have hv : ∃ v, v < ne ∧ l.count (100 + v) ≠ 1 := by
              apply Classical.byContradiction
              intro hx
              apply c211
              rw [← hpn]
              refine (l_bits ne (by omega) m hm).mpr (fun v hv => ?_)
              apply Classical.byContradiction
              intro hb
              refine hx ⟨v, hv, ?_⟩
              rw [hc v hv, if_neg hb]
              decide
            rw [hno2 hv] at hh
            cases hh)]
          refine z_iconst (v := nI 0) d_Md_isLeft_218 (by decide) ?_
          exact z_ireturn d_Md_isLeft_219 rfl rfl ⟨rfl, rfl⟩
        · rw [nI_eq (by omega) (by omega)] at c211
          rw [← hpn] at c211
          rw [if_pos (hyes (fun j hj => hg j (by omega)) (fun v hv => by rw [hc v hv, if_pos ((l_bits ne (by omega) m hm).mp c211 v hv)]))]
          refine z_iconst (v := nI 1) d_Md_isLeft_214 (by decide) ?_
          refine z_goto (tgt := 219) d_Md_isLeft_215 rfl ?_
          exact z_ireturn d_Md_isLeft_219 rfl rfl ⟨rfl, rfl⟩
    · rw [nI_leI (by omega) (by omega)] at c70
      omega
  | succ c ih =>
    intro i k m hi hw hg hm hc
    have hm16 := l_p16 hne hm
    have hv := hl.lt (i := i) (by omega)
    have hle := hl.eq (i := i) (by omega)
    rw [l_dc (l := l) (i := i) (by omega)] at hw
    obtain ⟨k, rfl⟩ : ∃ k', k = k' + 1 := by
      cases k with
      | zero => exact hw.elim
      | succ k => exact ⟨k, rfl⟩
    rw [List.replicate_succ] at hw
    have hw1 := hw.1
    have hw2 := hw.2
    have hnx : l.getD i 0 = 2 → i + 1 < l.length := by
      intro hh
      rw [hh] at hw2
      exact l_nd (i := i + 1) (S := 0 :: List.replicate k 0) hw2
    have bad : ¬ p_mg l i → Rz = false := fun hh => hno1 ⟨i, by omega, hh⟩
    have htk : ∀ y, (l.take (i + 1)).count y = (l.take i).count y + if l.getD i 0 = y then 1 else 0 := by
      intro y
      rw [List.take_succ, List.getElem?_eq_getElem (by omega), List.count_append, List.getD_eq_getElem?_getD, List.getElem?_eq_getElem (by omega)]
      show _ + List.count y [l[i]] = _ + if l[i] = y then 1 else 0
      rw [List.count_singleton]
      by_cases hy : l[i] = y
      · simp [hy]
      · simp [hy]
    have next : p_mg l i → ∀ j, j < i + 1 → p_mg l j := fun hh j hj => by
      by_cases e : j = i
      · rw [e]
        exact hh
      · exact hg j (by omega)
    have fin0 : ∀ (b : Int32), Rz = false → z_V G m_Md_isLeft (d + 1) 62 [(0, .ref q), (1, .int (nI r)), (4, .int (nI 0)), (5, .int b), (6, .int (nI (i + 1)))] [] (md G h q s A) (z_rq (some (.int (if Rz = true then nI 1 else nI 0))) (md G h q s A)) := fun b hb => by
      rw [if_neg (by rw [hb]; decide)]
      exact l_Md_lfX HG hr hl (by omega)
    refine z_iload d_Md_isLeft_62 rfl ?_
    refine z_aload_n d_Md_isLeft_64 rfl rfl ?_
    refine z_mg HG d_Md_isLeft_65 (L_Md_13 HG) (by decide) rfl ?_
    refine z_iload_n d_Md_isLeft_68 rfl rfl ?_
    refine z_ml HG 2 d_Md_isLeft_69 (by decide) (show _ < 43 by omega) hl.1 ?_
    refine z_icmp_ge (tgt := 196) d_Md_isLeft_70 rfl (fun c70 => ?_) (fun c70 => ?_)
    · rw [nI_leI (by omega) (by omega)] at c70
      omega
    · rw [nI_leI (by omega) (by omega)] at c70
      refine z_iload d_Md_isLeft_73 rfl ?_
      refine z_if_eq (tgt := 196) d_Md_isLeft_75 rfl (fun c75 => ?_) (fun c75 => ?_)
      · rw [← nI_0, nI_eq (by omega) (by omega)] at c75
        omega
      · rw [← nI_0, nI_eq (by omega) (by omega)] at c75
        refine z_aload_n d_Md_isLeft_78 rfl rfl ?_
        refine z_iload_n d_Md_isLeft_79 rfl rfl ?_
        refine z_iload d_Md_isLeft_80 rfl ?_
        refine z_mr (as := [.int (nI r), .int (nI i)]) (dY := d) HG d_Md_isLeft_82 rfl (by omega) (Y_Md_49 HG) rfl rfl (Nat.le_of_ble_eq_true rfl) (c_Md_at HG (by omega) hle) ?_
        refine z_istore d_Md_isLeft_85 (by decide) ?_
        refine z_iload d_Md_isLeft_87 rfl ?_
        refine z_iconst (v := nI 2) d_Md_isLeft_89 (by decide) ?_
        refine z_icmp_ne (tgt := 97) d_Md_isLeft_90 rfl (fun c90 => ?_) (fun c90 => ?_)
        · rw [nI_eq (by omega) (by omega)] at c90
          refine z_iconst (v := nI 0) d_Md_isLeft_97 (by decide) ?_
          refine z_istore d_Md_isLeft_98 (by decide) ?_
          refine z_iload d_Md_isLeft_100 rfl ?_
          refine z_bipush (v := nI 10) d_Md_isLeft_102 (by decide +kernel) ?_
          refine z_icmp_ge (tgt := 139) d_Md_isLeft_104 rfl (fun c104 => ?_) (fun c104 => ?_)
          · rw [nI_leI (by omega) (by omega)] at c104
            refine z_iconst (v := nI 1) d_Md_isLeft_139 (by decide) ?_
            refine z_goto (tgt := 144) d_Md_isLeft_140 rfl ?_
            refine z_istore d_Md_isLeft_144 (by decide) ?_
            refine z_iload d_Md_isLeft_146 rfl ?_
            refine z_bipush (v := nI 100) d_Md_isLeft_148 (by decide +kernel) ?_
            refine z_icmp_lt (tgt := 190) d_Md_isLeft_150 rfl (fun c150 => ?_) (fun c150 => ?_)
            · rw [nI_ltI (by omega) (by omega)] at c150
              refine z_iinc (v := nI (i + 1)) d_Md_isLeft_190 rfl (i_inc _) (by decide) ?_
              refine z_goto (tgt := 62) d_Md_isLeft_193 rfl ?_
              refine z_fg [(0, .ref q), (1, .int (nI r)), (4, .int (nI 1)), (5, .int (nI m)), (6, .int (nI (i + 1)))] ⟨rfl, rfl, rfl, rfl, rfl, trivial⟩ ?_
              refine ih (i + 1) k m (by omega) (by rw [p_aw_big (by omega)] at hw2; exact hw2) (next (Or.inl (by omega))) hm (fun v hv => ?_)
              rw [htk, if_neg (by omega), Nat.add_zero]
              exact hc v hv
            · rw [nI_ltI (by omega) (by omega)] at c150
              refine z_iload d_Md_isLeft_153 rfl ?_
              refine z_if_eq (tgt := 175) d_Md_isLeft_155 rfl (fun c155 => ?_) (fun c155 => ?_)
              · rw [← nI_0, nI_eq (by omega) (by omega)] at c155
                omega
              · rw [← nI_0, nI_eq (by omega) (by omega)] at c155
                refine z_iload d_Md_isLeft_158 rfl ?_
                refine z_iload d_Md_isLeft_160 rfl ?_
                refine z_bipush (v := nI 100) d_Md_isLeft_162 (by decide +kernel) ?_
                refine z_isub d_Md_isLeft_164 ?_
                refine z_eqi (pk_sub (by omega)) ?_
                refine z_ishr d_Md_isLeft_165 ?_
                refine z_eqi rfl ?_
                refine z_iconst (v := nI 1) d_Md_isLeft_166 (by decide) ?_
                refine z_iand d_Md_isLeft_167 ?_
                refine z_eqi (nI_bit m hm16 _ (by omega)) ?_
                refine z_if_ne (tgt := 175) d_Md_isLeft_168 rfl (fun c168 => ?_) (fun c168 => ?_)
                · have c168 := b_ne c168
                  refine z_iconst (v := nI 0) d_Md_isLeft_175 (by decide) ?_
                  refine z_istore d_Md_isLeft_176 (by decide) ?_
                  refine z_iload d_Md_isLeft_178 rfl ?_
                  refine z_iconst (v := nI 1) d_Md_isLeft_180 (by decide) ?_
                  refine z_iload d_Md_isLeft_181 rfl ?_
                  refine z_bipush (v := nI 100) d_Md_isLeft_183 (by decide +kernel) ?_
                  refine z_isub d_Md_isLeft_185 ?_
                  refine z_eqi (pk_sub (by omega)) ?_
                  refine z_ishl d_Md_isLeft_186 ?_
                  refine z_eqi rfl ?_
                  refine z_ior d_Md_isLeft_187 ?_
                  refine z_eqi (nI_set m hm16 _ (by omega)) ?_
                  refine z_istore d_Md_isLeft_188 (by decide) ?_
                  refine z_iinc (v := nI (i + 1)) d_Md_isLeft_190 rfl (i_inc _) (by decide) ?_
                  refine z_goto (tgt := 62) d_Md_isLeft_193 rfl ?_
                  refine z_fg [(0, .ref q), (1, .int (nI r)), (4, .int (nI 0)), (5, .int (nI (m ||| 2 ^ (l.getD i 0 - 100)))), (6, .int (nI (i + 1)))] ⟨rfl, rfl, rfl, rfl, rfl, trivial⟩ ?_
                  refine fin0 _ (hno2 ⟨l.getD i 0 - 100, by omega, ?_⟩)
                  have e1 := htk (100 + (l.getD i 0 - 100))
                  rw [hc (l.getD i 0 - 100) (by omega), if_pos c168, if_pos (by omega)] at e1
                  have e2 := List.Sublist.count_le (100 + (l.getD i 0 - 100)) (List.take_sublist (i + 1) l)
                  omega
                · have c168 := b_eq c168
                  refine z_iconst (v := nI 1) d_Md_isLeft_171 (by decide) ?_
                  refine z_goto (tgt := 176) d_Md_isLeft_172 rfl ?_
                  refine z_istore d_Md_isLeft_176 (by decide) ?_
                  refine z_iload d_Md_isLeft_178 rfl ?_
                  refine z_iconst (v := nI 1) d_Md_isLeft_180 (by decide) ?_
                  refine z_iload d_Md_isLeft_181 rfl ?_
                  refine z_bipush (v := nI 100) d_Md_isLeft_183 (by decide +kernel) ?_
                  refine z_isub d_Md_isLeft_185 ?_
                  refine z_eqi (pk_sub (by omega)) ?_
                  refine z_ishl d_Md_isLeft_186 ?_
                  refine z_eqi rfl ?_
                  refine z_ior d_Md_isLeft_187 ?_
                  refine z_eqi (nI_set m hm16 _ (by omega)) ?_
                  refine z_istore d_Md_isLeft_188 (by decide) ?_
                  refine z_iinc (v := nI (i + 1)) d_Md_isLeft_190 rfl (i_inc _) (by decide) ?_
                  refine z_goto (tgt := 62) d_Md_isLeft_193 rfl ?_
                  refine z_fg [(0, .ref q), (1, .int (nI r)), (4, .int (nI 1)), (5, .int (nI (m ||| 2 ^ (l.getD i 0 - 100)))), (6, .int (nI (i + 1)))] ⟨rfl, rfl, rfl, rfl, rfl, trivial⟩ ?_
                  refine ih (i + 1) k (m ||| 2 ^ (l.getD i 0 - 100)) (by omega) (by rw [p_aw_big (by omega)] at hw2; exact hw2) (next (Or.inl (by omega))) (l_orlt ne (by omega) m hm _ (by omega)) (fun v hv => ?_)
                  rw [htk, hc v hv, l_ortb m hm16 _ (by omega) v (by omega)]
                  by_cases e : v = l.getD i 0 - 100
                  · rw [if_neg (by rw [e]; exact c168), if_pos (by omega), if_pos (by rw [decide_eq_true e, Bool.or_true])]
                  · rw [if_neg (show ¬ l.getD i 0 = 100 + v by omega), decide_eq_false e, Bool.or_false, Nat.add_zero]
          · rw [nI_leI (by omega) (by omega)] at c104
            refine z_iload d_Md_isLeft_107 rfl ?_
            refine z_if_eq (tgt := 143) d_Md_isLeft_109 rfl (fun c109 => ?_) (fun c109 => ?_)
            · rw [← nI_0, nI_eq (by omega) (by omega)] at c109
              refine z_iconst (v := nI 0) d_Md_isLeft_143 (by decide) ?_
              refine z_istore d_Md_isLeft_144 (by decide) ?_
              refine z_iload d_Md_isLeft_146 rfl ?_
              refine z_bipush (v := nI 100) d_Md_isLeft_148 (by decide +kernel) ?_
              refine z_icmp_lt (tgt := 190) d_Md_isLeft_150 rfl (fun c150 => ?_) (fun c150 => ?_)
              · rw [nI_ltI (by omega) (by omega)] at c150
                refine z_iinc (v := nI (i + 1)) d_Md_isLeft_190 rfl (i_inc _) (by decide) ?_
                refine z_goto (tgt := 62) d_Md_isLeft_193 rfl ?_
                refine z_fg [(0, .ref q), (1, .int (nI r)), (4, .int (nI 0)), (5, .int (nI m)), (6, .int (nI (i + 1)))] ⟨rfl, rfl, rfl, rfl, rfl, trivial⟩ ?_
                refine fin0 _ (bad (fun hh => ?_))
                unfold p_mg at hh
                omega
              · rw [nI_ltI (by omega) (by omega)] at c150
                omega
            · rw [← nI_0, nI_eq (by omega) (by omega)] at c109
              omega
        · rw [nI_eq (by omega) (by omega)] at c90
          refine z_iconst (v := nI 1) d_Md_isLeft_93 (by decide) ?_
          refine z_goto (tgt := 98) d_Md_isLeft_94 rfl ?_
          refine z_istore d_Md_isLeft_98 (by decide) ?_
          refine z_iload d_Md_isLeft_100 rfl ?_
          refine z_bipush (v := nI 10) d_Md_isLeft_102 (by decide +kernel) ?_
          refine z_icmp_ge (tgt := 139) d_Md_isLeft_104 rfl (fun c104 => ?_) (fun c104 => ?_)
          · rw [nI_leI (by omega) (by omega)] at c104
            omega
          · rw [nI_leI (by omega) (by omega)] at c104
            refine z_iload d_Md_isLeft_107 rfl ?_
            refine z_if_eq (tgt := 143) d_Md_isLeft_109 rfl (fun c109 => ?_) (fun c109 => ?_)
            · rw [← nI_0, nI_eq (by omega) (by omega)] at c109
              omega
            · rw [← nI_0, nI_eq (by omega) (by omega)] at c109
              have hnl := hnx (by omega)
              have hnv := hl.lt hnl
              refine z_aload_n d_Md_isLeft_112 rfl rfl ?_
              refine z_iload_n d_Md_isLeft_113 rfl rfl ?_
              refine z_iload d_Md_isLeft_114 rfl ?_
              refine z_iconst (v := nI 1) d_Md_isLeft_116 (by decide) ?_
              refine z_iadd d_Md_isLeft_117 ?_
              refine z_eqi (nI_add _ _) ?_
              refine z_mr (as := [.int (nI r), .int (nI (i + 1))]) (dY := d) HG d_Md_isLeft_118 rfl (by omega) (Y_Md_49 HG) rfl rfl (Nat.le_of_ble_eq_true rfl) (c_Md_at HG (by omega) (hl.eq hnl)) ?_
              refine z_bipush (v := nI 100) d_Md_isLeft_121 (by decide +kernel) ?_
              refine z_icmp_ge (tgt := 143) d_Md_isLeft_123 rfl (fun c123 => ?_) (fun c123 => ?_)
              · rw [nI_leI (by omega) (by omega)] at c123
                refine z_iconst (v := nI 0) d_Md_isLeft_143 (by decide) ?_
                refine z_istore d_Md_isLeft_144 (by decide) ?_
                refine z_iload d_Md_isLeft_146 rfl ?_
                refine z_bipush (v := nI 100) d_Md_isLeft_148 (by decide +kernel) ?_
                refine z_icmp_lt (tgt := 190) d_Md_isLeft_150 rfl (fun c150 => ?_) (fun c150 => ?_)
                · rw [nI_ltI (by omega) (by omega)] at c150
                  refine z_iinc (v := nI (i + 1)) d_Md_isLeft_190 rfl (i_inc _) (by decide) ?_
                  refine z_goto (tgt := 62) d_Md_isLeft_193 rfl ?_
                  refine z_fg [(0, .ref q), (1, .int (nI r)), (4, .int (nI 0)), (5, .int (nI m)), (6, .int (nI (i + 1)))] ⟨rfl, rfl, rfl, rfl, rfl, trivial⟩ ?_
                  refine fin0 _ (bad (fun hh => ?_))
                  unfold p_mg at hh
                  omega
                · rw [nI_ltI (by omega) (by omega)] at c150
                  omega
              · rw [nI_leI (by omega) (by omega)] at c123
                refine z_aload_n d_Md_isLeft_126 rfl rfl ?_
                refine z_iload_n d_Md_isLeft_127 rfl rfl ?_
                refine z_iload d_Md_isLeft_128 rfl ?_
                refine z_iconst (v := nI 1) d_Md_isLeft_130 (by decide) ?_
                refine z_iadd d_Md_isLeft_131 ?_
                refine z_eqi (nI_add _ _) ?_
                refine z_mr (as := [.int (nI r), .int (nI (i + 1))]) (dY := d) HG d_Md_isLeft_132 rfl (by omega) (Y_Md_49 HG) rfl rfl (Nat.le_of_ble_eq_true rfl) (c_Md_at HG (by omega) (hl.eq hnl)) ?_
                refine z_iconst (v := nI 3) d_Md_isLeft_135 (by decide) ?_
                refine z_icmp_eq (tgt := 143) d_Md_isLeft_136 rfl (fun c136 => ?_) (fun c136 => ?_)
                · rw [nI_eq (by omega) (by omega)] at c136
                  refine z_iconst (v := nI 0) d_Md_isLeft_143 (by decide) ?_
                  refine z_istore d_Md_isLeft_144 (by decide) ?_
                  refine z_iload d_Md_isLeft_146 rfl ?_
                  refine z_bipush (v := nI 100) d_Md_isLeft_148 (by decide +kernel) ?_
                  refine z_icmp_lt (tgt := 190) d_Md_isLeft_150 rfl (fun c150 => ?_) (fun c150 => ?_)
                  · rw [nI_ltI (by omega) (by omega)] at c150
                    refine z_iinc (v := nI (i + 1)) d_Md_isLeft_190 rfl (i_inc _) (by decide) ?_
                    refine z_goto (tgt := 62) d_Md_isLeft_193 rfl ?_
                    refine z_fg [(0, .ref q), (1, .int (nI r)), (4, .int (nI 0)), (5, .int (nI m)), (6, .int (nI (i + 1)))] ⟨rfl, rfl, rfl, rfl, rfl, trivial⟩ ?_
                    refine fin0 _ (bad (fun hh => ?_))
                    unfold p_mg at hh
                    omega
                  · rw [nI_ltI (by omega) (by omega)] at c150
                    omega
                · rw [nI_eq (by omega) (by omega)] at c136
                  refine z_iconst (v := nI 1) d_Md_isLeft_139 (by decide) ?_
                  refine z_goto (tgt := 144) d_Md_isLeft_140 rfl ?_
                  refine z_istore d_Md_isLeft_144 (by decide) ?_
                  refine z_iload d_Md_isLeft_146 rfl ?_
                  refine z_bipush (v := nI 100) d_Md_isLeft_148 (by decide +kernel) ?_
                  refine z_icmp_lt (tgt := 190) d_Md_isLeft_150 rfl (fun c150 => ?_) (fun c150 => ?_)
                  · rw [nI_ltI (by omega) (by omega)] at c150
                    refine z_iinc (v := nI (i + 1)) d_Md_isLeft_190 rfl (i_inc _) (by decide) ?_
                    refine z_goto (tgt := 62) d_Md_isLeft_193 rfl ?_
                    refine z_fg [(0, .ref q), (1, .int (nI r)), (4, .int (nI 1)), (5, .int (nI m)), (6, .int (nI (i + 1)))] ⟨rfl, rfl, rfl, rfl, rfl, trivial⟩ ?_
                    have e2 : l.getD i 0 = 2 := by omega
                    refine ih (i + 1) (k + 2) m (by omega) (by rw [e2] at hw2; exact hw2) (next (Or.inr ⟨e2, by omega, by omega⟩)) hm (fun v hv => ?_)
                    rw [htk, if_neg (by omega), Nat.add_zero]
                    exact hc v hv
                  · rw [nI_ltI (by omega) (by omega)] at c150
                    omega
theorem l_Md_head (HG : z_ok G) {Q : z_R → z_H → Prop} (hr : r < 43) (hl : mrow A r l) (hh : p_head l < l.length) (kk : z_V G m_Md_isLeft (d + 1) 18 [(0, .ref q), (1, .int (nI r)), (2, .int (nI (p_head l)))] [] (md G h q s A) Q) : ∀ (c i : Nat), i + c = l.length → p_head l = i + p_head (l.drop i) →
    z_V G m_Md_isLeft (d + 1) 2 [(0, .ref q), (1, .int (nI r)), (2, .int (nI i))] [] (md G h q s A) Q := by
  have h40 := hl.len
  intro c
  induction c with
  | zero =>
    intro i hi he
    rw [List.drop_eq_nil_of_le (by omega)] at he
    have he : p_head l = i + 0 := he
    omega
  | succ c ih =>
    intro i hi he
    have hv := hl.lt (i := i) (by omega)
    rw [l_dc (l := l) (i := i) (by omega)] at he
    have he : p_head l = i + (if l.getD i 0 = 2 then p_head (l.drop (i + 1)) + 1 else 0) := he
    refine z_aload_n d_Md_isLeft_2 rfl rfl ?_
    refine z_iload_n d_Md_isLeft_3 rfl rfl ?_
    refine z_iload_n d_Md_isLeft_4 rfl rfl ?_
    refine z_mr (as := [.int (nI r), .int (nI i)]) (dY := d) HG d_Md_isLeft_5 rfl (by omega) (Y_Md_49 HG) rfl rfl (Nat.le_of_ble_eq_true rfl) (c_Md_at HG (by omega) (hl.eq (by omega))) ?_
    refine z_iconst (v := nI 2) d_Md_isLeft_8 (by decide) ?_
    refine z_icmp_ne (tgt := 18) d_Md_isLeft_9 rfl (fun c9 => ?_) (fun c9 => ?_)
    · rw [nI_eq (by omega) (by omega)] at c9
      rw [if_neg c9, Nat.add_zero] at he
      refine z_fg [(0, .ref q), (1, .int (nI r)), (2, .int (nI (p_head l)))] ⟨rfl, rfl, by rw [he]; rfl, trivial⟩ ?_
      exact kk
    · rw [nI_eq (by omega) (by omega)] at c9
      refine z_iinc (v := nI (i + 1)) d_Md_isLeft_12 rfl (i_inc _) (by decide) ?_
      refine z_goto (tgt := 2) d_Md_isLeft_15 rfl ?_
      refine z_fg [(0, .ref q), (1, .int (nI r)), (2, .int (nI (i + 1)))] ⟨rfl, rfl, rfl, trivial⟩ ?_
      rw [if_pos c9] at he
      exact ih (i + 1) (by omega) (by omega)
theorem c_Md_isLeft (HG : z_ok G) (hr : r < 43) (hne : ne ≤ 4) (hk8 : ks.length ≤ 8) (h5 : s 5 = nI ne) (h6 : s 6 = nI ks.length) (hks : ∀ k c, ks[k]? = some c → A 4 k = if c.2 = true then nI 1 else nI 0) (hl : mrow A r l) (hw : p_wf ne [0] l) : z_C G m_Md_isLeft (d + 1) [.ref q, .int (nI r)] (md G h q s A) (z_rq (some (.int (if p_left ks ne l = true then nI 1 else nI 0))) (md G h q s A)) := by
  have h40 := hl.len
  have hh := p_head_lt hw
  have hhv := hl.lt hh
  have hp : p_left ks ne l = ((decide (10 ≤ l.getD (p_head l) 0) && (ks[l.getD (p_head l) 0 - 10]?.map (·.2)).getD false) && (List.range l.length).all (p_may l) && (List.range ne).all (fun v => decide (l.count (100 + v) = 1))) := rfl
  have bad : (decide (10 ≤ l.getD (p_head l) 0) && (ks[l.getD (p_head l) 0 - 10]?.map (·.2)).getD false) = false → p_left ks ne l = false := fun e => by
    rw [hp, e, Bool.false_and, Bool.false_and]
  have fin0 : p_left ks ne l = false → z_V G m_Md_isLeft (d + 1) 62 [(0, .ref q), (1, .int (nI r)), (4, .int (nI 0)), (5, .int (nI 0)), (6, .int (nI 0))] [] (md G h q s A) (z_rq (some (.int (if p_left ks ne l = true then nI 1 else nI 0))) (md G h q s A)) := fun e => by
    rw [if_neg (by rw [e]; decide)]
    exact l_Md_lfX HG hr hl (by omega)
  have fin1 : (decide (10 ≤ l.getD (p_head l) 0) && (ks[l.getD (p_head l) 0 - 10]?.map (·.2)).getD false) = true → z_V G m_Md_isLeft (d + 1) 62 [(0, .ref q), (1, .int (nI r)), (4, .int (nI 1)), (5, .int (nI 0)), (6, .int (nI 0))] [] (md G h q s A) (z_rq (some (.int (if p_left ks ne l = true then nI 1 else nI 0))) (md G h q s A)) := fun e => by
    rw [e, Bool.true_and] at hp
    refine l_Md_left (Rz := p_left ks ne l) HG hr hne h5 hl (fun a b => ?_) (fun a => ?_) (fun a => ?_) l.length 0 1 0 (by omega) hw (fun j hj => absurd hj (Nat.not_lt_zero _)) (Nat.pow_pos (by decide)) (fun v hv => by rw [Nat.zero_testBit]; rfl)
    · rw [hp, Bool.and_eq_true]
      exact ⟨List.all_eq_true.mpr (fun i hi => p_may_of_mg a i (List.mem_range.mp hi)), List.all_eq_true.mpr (fun v hv => decide_eq_true (b v (List.mem_range.mp hv)))⟩
    · obtain ⟨i, hi, hm⟩ := a
      apply Classical.byContradiction
      intro hx
      rw [Bool.not_eq_false, hp, Bool.and_eq_true] at hx
      refine hm (p_mg_of_may (fun j hj => List.all_eq_true.mp hx.1 j (List.mem_range.mpr hj)) hi (fun h2 => ?_))
      have k1 := (p_wf_at (i := i) hw (Nat.le_of_lt hi)).1
      rw [l_dc (l := l) (i := i) hi, h2] at k1
      obtain ⟨d1, S1, e⟩ := p_wf_ne k1 (by simp)
      rw [e] at k1
      exact l_nd k1.2
    · obtain ⟨v, hv, hm⟩ := a
      apply Classical.byContradiction
      intro hx
      rw [Bool.not_eq_false, hp, Bool.and_eq_true] at hx
      exact hm (of_decide_eq_true (List.all_eq_true.mp hx.2 v (List.mem_range.mpr hv)))
  refine z_C.of (Nat.le_of_ble_eq_true rfl) ?_
  refine z_iconst (v := nI 0) d_Md_isLeft_0 (by decide) ?_
  refine z_istore_n d_Md_isLeft_1 rfl (by decide) ?_
  refine z_fg [(0, .ref q), (1, .int (nI r)), (2, .int (nI 0))] ⟨rfl, rfl, rfl, trivial⟩ ?_
  refine l_Md_head HG hr hl hh ?_ l.length 0 (by omega) (by rw [List.drop_zero, Nat.zero_add])
  have hle := hl.eq hh
  generalize l.getD (p_head l) 0 = v at hhv hle bad fin1
  generalize p_head l = hd at hh hle
  refine z_aload_n d_Md_isLeft_18 rfl rfl ?_
  refine z_iload_n d_Md_isLeft_19 rfl rfl ?_
  refine z_iload_n d_Md_isLeft_20 rfl rfl ?_
  refine z_mr (as := [.int (nI r), .int (nI hd)]) (dY := d) HG d_Md_isLeft_21 rfl (by omega) (Y_Md_49 HG) rfl rfl (Nat.le_of_ble_eq_true rfl) (c_Md_at HG (by omega) hle) ?_
  refine z_bipush (v := nI 10) d_Md_isLeft_24 (by decide +kernel) ?_
  refine z_isub d_Md_isLeft_26 ?_
  refine z_eqi rfl ?_
  refine z_istore_n d_Md_isLeft_27 rfl (by decide) ?_
  refine z_iload_n d_Md_isLeft_28 rfl rfl ?_
  refine z_if_lt (tgt := 53) d_Md_isLeft_29 rfl (fun c29 => ?_) (fun c29 => ?_)
  · have hv10 : ¬ 10 ≤ v := by
      intro hx
      rw [pk_sub hx] at c29
      exact nI_pos (by omega) c29
    refine z_iconst (v := nI 0) d_Md_isLeft_53 (by decide) ?_
    refine z_istore d_Md_isLeft_54 (by decide) ?_
    refine z_iconst (v := nI 0) d_Md_isLeft_56 (by decide) ?_
    refine z_istore d_Md_isLeft_57 (by decide) ?_
    refine z_iconst (v := nI 0) d_Md_isLeft_59 (by decide) ?_
    refine z_istore d_Md_isLeft_60 (by decide) ?_
    refine z_fg [(0, .ref q), (1, .int (nI r)), (4, .int (nI 0)), (5, .int (nI 0)), (6, .int (nI 0))] ⟨rfl, rfl, rfl, rfl, rfl, trivial⟩ ?_
    exact fin0 (bad (by rw [decide_eq_false hv10]; rfl))
  · have hv10 : 10 ≤ v := by
      apply Classical.byContradiction
      intro hx
      exact c29 (nI_sn (by omega) (by omega))
    rw [pk_sub hv10]
    refine z_iload_n d_Md_isLeft_32 rfl rfl ?_
    refine z_aload_n d_Md_isLeft_33 rfl rfl ?_
    refine z_mg HG d_Md_isLeft_34 (L_Md_117 HG) (by decide) rfl ?_
    refine z_eqi h6 ?_
    refine z_icmp_ge (tgt := 53) d_Md_isLeft_37 rfl (fun c37 => ?_) (fun c37 => ?_)
    · rw [nI_leI (by omega) (by omega)] at c37
      refine z_iconst (v := nI 0) d_Md_isLeft_53 (by decide) ?_
      refine z_istore d_Md_isLeft_54 (by decide) ?_
      refine z_iconst (v := nI 0) d_Md_isLeft_56 (by decide) ?_
      refine z_istore d_Md_isLeft_57 (by decide) ?_
      refine z_iconst (v := nI 0) d_Md_isLeft_59 (by decide) ?_
      refine z_istore d_Md_isLeft_60 (by decide) ?_
      refine z_fg [(0, .ref q), (1, .int (nI r)), (4, .int (nI 0)), (5, .int (nI 0)), (6, .int (nI 0))] ⟨rfl, rfl, rfl, rfl, rfl, trivial⟩ ?_
      exact fin0 (bad (by rw [List.getElem?_eq_none (by omega)]; exact Bool.and_false _))
    · rw [nI_leI (by omega) (by omega)] at c37
      have hg := List.getElem?_eq_getElem (show v - 10 < ks.length by omega)
      generalize ks[v - 10] = cc at hg
      have hd4 := hks _ _ hg
      refine z_aload_n d_Md_isLeft_40 rfl rfl ?_
      refine z_mg HG d_Md_isLeft_41 (L_Md_19 HG) (by decide) rfl ?_
      refine z_iload_n d_Md_isLeft_44 rfl rfl ?_
      refine z_mlZ HG d_Md_isLeft_45 (by omega) hd4 ?_
      refine z_if_eq (tgt := 53) d_Md_isLeft_46 rfl (fun c46 => ?_) (fun c46 => ?_)
      · have c46 := b_eq c46
        refine z_iconst (v := nI 0) d_Md_isLeft_53 (by decide) ?_
        refine z_istore d_Md_isLeft_54 (by decide) ?_
        refine z_iconst (v := nI 0) d_Md_isLeft_56 (by decide) ?_
        refine z_istore d_Md_isLeft_57 (by decide) ?_
        refine z_iconst (v := nI 0) d_Md_isLeft_59 (by decide) ?_
        refine z_istore d_Md_isLeft_60 (by decide) ?_
        refine z_fg [(0, .ref q), (1, .int (nI r)), (4, .int (nI 0)), (5, .int (nI 0)), (6, .int (nI 0))] ⟨rfl, rfl, rfl, rfl, rfl, trivial⟩ ?_
        exact fin0 (bad (by rw [hg]; show (decide (10 ≤ v) && cc.2) = false; rw [Bool.eq_false_iff.mpr c46, Bool.and_false]))
      · have c46 := b_ne c46
        refine z_iconst (v := nI 1) d_Md_isLeft_49 (by decide) ?_
        refine z_goto (tgt := 54) d_Md_isLeft_50 rfl ?_
        refine z_istore d_Md_isLeft_54 (by decide) ?_
        refine z_iconst (v := nI 0) d_Md_isLeft_56 (by decide) ?_
        refine z_istore d_Md_isLeft_57 (by decide) ?_
        refine z_iconst (v := nI 0) d_Md_isLeft_59 (by decide) ?_
        refine z_istore d_Md_isLeft_60 (by decide) ?_
        refine z_fg [(0, .ref q), (1, .int (nI r)), (4, .int (nI 1)), (5, .int (nI 0)), (6, .int (nI 0))] ⟨rfl, rfl, rfl, rfl, rfl, trivial⟩ ?_
        exact fin1 (by rw [decide_eq_true hv10, hg]; exact c46)
end ML
