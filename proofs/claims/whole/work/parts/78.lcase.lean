/-! the law's loop: the state that it keeps, its nineteen cases -/
section LW
variable {G : z_G} {h h1 : z_H} {d o n i : Nat} {K K' : pK} {Q : z_R → z_H → Prop}
def LI (G : z_G) (o n : Nat) (h : z_H) (K : pK) : Prop := KAt G h o K ∧ pok K ∧ (∃ s A, mdAt G h (o + 118) s A ∧ mK K s A) ∧ (∃ f, h.2.2 (o + 129) = some (k_lg G f)) ∧ h.1 + n ≤ G.b0 + G.cc ∧ h.2.1 + 6 * n ≤ G.ss
theorem LI.rm (I : LI G o (n + 1) h K) : z_rm G h := ⟨by have := I.2.2.2.2.1; omega, by have := I.2.2.2.2.2; omega⟩
theorem LI.next {s : Nat → Int32} {A : Nat → Nat → Int32} (I : LI G o (n + 1) h K) (k1 : KAt G h1 o K') (p : pok K') (fo : ∃ f, h1.2.2 (o + 129) = some (k_lg G f)) (z1 : h1.1 ≤ h.1 + 1) (z2 : h1.2.1 ≤ h.2.1 + 6) (m : mK K' s A) : LI G o n (md G h1 (o + 118) s A) K' := by
  obtain ⟨f, hf⟩ := fo
  have i1 := I.2.2.2.2.1
  have i2 := I.2.2.2.2.2
  refine ⟨k1.keep (fun y hy => md_out (by omega)), p, ⟨s, A, md_mdAt G h1 (o + 118) s A, m⟩, ⟨f, (md_out (by omega)).trans hf⟩, ?_, ?_⟩
  · show h1.1 + n ≤ _
    omega
  · show h1.2.1 + 6 * n ≤ _
    omega
theorem LI.less (I : LI G o (n + 1) h K) : LI G o n h K := ⟨I.1, I.2.1, I.2.2.1, I.2.2.2.1, by have := I.2.2.2.2.1; omega, by have := I.2.2.2.2.2; omega⟩
abbrev lw_lo (G : z_G) (o i : Nat) : List (Nat × Value) := [(0, .ref G.x.1), (1, .ref o), (2, .ref (o + 118)), (3, .ref (o + 129)), (4, .int (nI i))]
theorem lg_self (a : Int64) : lg_cmp a a = 0 := by
  unfold lg_cmp
  first | simp | (rw [if_neg (by simp), if_neg (by simp)])
theorem lc_sort (HG : z_ok G) (I : LI G o (n + 1) h K) (hi : i + 4 ≤ G.x.2.1) (hL : G.x.2.1 ≤ 2048) (kk : ∀ h' K', LI G o n h' K' → z_V G m_Lw_law (d + 8) 799 (lw_lo G o i) [] h' Q) : z_V G m_Lw_law (d + 8) 128 (lw_lo G o i) [] h Q := by
  have I0 := I
  obtain ⟨kA, Pk, ⟨s, A, mA, mk⟩, ⟨f, hf⟩, -, -⟩ := I
  refine z_aload_n d_Lw_law_128 rfl rfl ?_
  refine z_callS1 (dY := d + 7) d_Lw_law_129 rfl (by omega) (Y_Lw_60 HG) (Nat.le_of_ble_eq_true rfl) ((c_Lw_sort (d := d + 4) HG I0.rm kA).deep (by omega)) (fun v h1 hq => ?_) (fun X h1 hq => by obtain ⟨q1, -⟩ := hq; cases q1)
  obtain ⟨q1, q2, q3, q4, q5⟩ := hq
  cases q1
  have hcl := kcode_le [z_UOE] (k_sort K)
  simp only [List.length_cons, List.length_nil] at hcl
  have mA1 : mdAt G h1 (o + 118) s A := mA.keep (fun y hy => q3 y (by omega))
  rw [← mA1.md]
  refine z_istore d_Lw_law_132 (by decide) ?_
  refine z_aload_n d_Lw_law_134 rfl rfl ?_
  refine z_mc (as := []) (dY := d + 7) HG d_Lw_law_135 rfl (by omega) (Y_Lw_65 HG) rfl rfl (Nat.le_of_ble_eq_true rfl) ((c_Md_sort (d := d) HG mk).deep (by omega)) (fun v2 s2 A2 hp2 => ?_)
  have e2 := hp2.none kv_sort
  subst e2
  obtain ⟨e0, mk2⟩ := hp2.code
  refine z_aload_n d_Lw_law_138 rfl rfl ?_
  refine z_mr (as := []) (dY := d + 7) HG d_Lw_law_139 rfl (by omega) (Y_Lw_66 HG) rfl rfl (Nat.le_of_ble_eq_true rfl) (c_Md_thrown HG e0) ?_
  refine z_iload d_Lw_law_142 rfl ?_
  refine z_icmp_eq (tgt := 149) d_Lw_law_144 rfl (fun c144 => ?_) (fun c144 => ?_)
  · rw [nI_eq (by omega) (by omega)] at c144
    refine z_goto (tgt := 799) d_Lw_law_149 rfl ?_
    refine z_fg (lw_lo G o i) ⟨rfl, rfl, rfl, rfl, rfl, trivial⟩ ?_
    exact kk _ _ (I0.next q2 (p_ret.next (pok_sort Pk) Pk) ⟨f, (q3 _ (by omega)).trans hf⟩ q4 q5 mk2)
  · rw [nI_eq (by omega) (by omega)] at c144
    omega
theorem lc_constant (HG : z_ok G) (I : LI G o (n + 1) h K) (hi : i + 4 ≤ G.x.2.1) (hL : G.x.2.1 ≤ 2048) (kk : ∀ h' K', LI G o n h' K' → z_V G m_Lw_law (d + 8) 799 (lw_lo G o i) [] h' Q) : z_V G m_Lw_law (d + 8) 152 (lw_lo G o i) [] h Q := by
  have I0 := I
  obtain ⟨kA, Pk, ⟨s, A, mA, mk⟩, ⟨f, hf⟩, -, -⟩ := I
  refine z_aload_n d_Lw_law_152 rfl rfl ?_
  refine z_aload_n d_Lw_law_153 rfl rfl ?_
  refine z_iload d_Lw_law_154 rfl ?_
  refine z_iconst (v := nI 1) d_Lw_law_156 (by decide) ?_
  refine z_iadd d_Lw_law_157 ?_
  refine z_eqi (nI_add _ _) ?_
  refine z_sld d_Lw_law_158 (pk_in (i + 1) _ (by omega)) ?_
  refine z_eqi (congrArg G.x.2.2 (nI_clamp (by omega))) ?_
  refine z_callS2 (dY := d + 7) d_Lw_law_159 rfl (by omega) (Y_Lw_69 HG) (Nat.le_of_ble_eq_true rfl) ((c_Lw_constant (d := d + 4) HG I0.rm kA Pk (G.x.2.2 (i + 1))).deep (by omega)) (fun v h1 hq => ?_) (fun X h1 hq => by obtain ⟨q1, -⟩ := hq; cases q1)
  obtain ⟨q1, q2, q3, q4, q5⟩ := hq
  cases q1
  have hcl := kcode_le [z_IOB, z_UOE] (k_const K (G.x.2.2 (i + 1)))
  simp only [List.length_cons, List.length_nil] at hcl
  have mA1 : mdAt G h1 (o + 118) s A := mA.keep (fun y hy => q3 y (by omega))
  rw [← mA1.md]
  refine z_istore d_Lw_law_162 (by decide) ?_
  refine z_aload_n d_Lw_law_164 rfl rfl ?_
  refine z_aload_n d_Lw_law_165 rfl rfl ?_
  refine z_iload d_Lw_law_166 rfl ?_
  refine z_iconst (v := nI 1) d_Lw_law_168 (by decide) ?_
  refine z_iadd d_Lw_law_169 ?_
  refine z_eqi (nI_add _ _) ?_
  refine z_sld d_Lw_law_170 (pk_in (i + 1) _ (by omega)) ?_
  refine z_eqi (congrArg G.x.2.2 (nI_clamp (by omega))) ?_
  refine z_mc (as := [.int ((G.x.2.2 (i + 1)))]) (dY := d + 7) HG d_Lw_law_171 rfl (by omega) (Y_Lw_72 HG) rfl rfl (Nat.le_of_ble_eq_true rfl) ((c_Md_constant (d := d) HG mk (G.x.2.2 (i + 1))).deep (by omega)) (fun v2 s2 A2 hp2 => ?_)
  have e2 := hp2.none kv_const
  subst e2
  obtain ⟨e0, mk2⟩ := hp2.code
  refine z_aload_n d_Lw_law_174 rfl rfl ?_
  refine z_mr (as := []) (dY := d + 7) HG d_Lw_law_175 rfl (by omega) (Y_Lw_66 HG) rfl rfl (Nat.le_of_ble_eq_true rfl) (c_Md_thrown HG e0) ?_
  refine z_iload d_Lw_law_178 rfl ?_
  refine z_icmp_eq (tgt := 185) d_Lw_law_180 rfl (fun c180 => ?_) (fun c180 => ?_)
  · rw [nI_eq (by omega) (by omega)] at c180
    refine z_goto (tgt := 799) d_Lw_law_185 rfl ?_
    refine z_fg (lw_lo G o i) ⟨rfl, rfl, rfl, rfl, rfl, trivial⟩ ?_
    exact kk _ _ (I0.next q2 (p_ret.next (pok_const Pk kA.len.2.2 (G.x.2.2 (i + 1))) Pk) ⟨f, (q3 _ (by omega)).trans hf⟩ q4 q5 mk2)
  · rw [nI_eq (by omega) (by omega)] at c180
    omega
theorem lc_variable (HG : z_ok G) (I : LI G o (n + 1) h K) (hi : i + 4 ≤ G.x.2.1) (hL : G.x.2.1 ≤ 2048) (kk : ∀ h' K', LI G o n h' K' → z_V G m_Lw_law (d + 8) 799 (lw_lo G o i) [] h' Q) : z_V G m_Lw_law (d + 8) 188 (lw_lo G o i) [] h Q := by
  have I0 := I
  obtain ⟨kA, Pk, ⟨s, A, mA, mk⟩, ⟨f, hf⟩, -, -⟩ := I
  refine z_aload_n d_Lw_law_188 rfl rfl ?_
  refine z_aload_n d_Lw_law_189 rfl rfl ?_
  refine z_iload d_Lw_law_190 rfl ?_
  refine z_iconst (v := nI 1) d_Lw_law_192 (by decide) ?_
  refine z_iadd d_Lw_law_193 ?_
  refine z_eqi (nI_add _ _) ?_
  refine z_sld d_Lw_law_194 (pk_in (i + 1) _ (by omega)) ?_
  refine z_eqi (congrArg G.x.2.2 (nI_clamp (by omega))) ?_
  refine z_callS2 (dY := d + 7) d_Lw_law_195 rfl (by omega) (Y_Lw_73 HG) (Nat.le_of_ble_eq_true rfl) ((c_Lw_variable (d := d + 4) HG I0.rm kA Pk (G.x.2.2 (i + 1))).deep (by omega)) (fun v h1 hq => ?_) (fun X h1 hq => by obtain ⟨q1, -⟩ := hq; cases q1)
  obtain ⟨q1, q2, q3, q4, q5⟩ := hq
  cases q1
  have hcl := kcode_le [z_IOB, z_UOE] (k_var K (G.x.2.2 (i + 1)))
  simp only [List.length_cons, List.length_nil] at hcl
  have mA1 : mdAt G h1 (o + 118) s A := mA.keep (fun y hy => q3 y (by omega))
  rw [← mA1.md]
  refine z_istore d_Lw_law_198 (by decide) ?_
  refine z_aload_n d_Lw_law_200 rfl rfl ?_
  refine z_aload_n d_Lw_law_201 rfl rfl ?_
  refine z_iload d_Lw_law_202 rfl ?_
  refine z_iconst (v := nI 1) d_Lw_law_204 (by decide) ?_
  refine z_iadd d_Lw_law_205 ?_
  refine z_eqi (nI_add _ _) ?_
  refine z_sld d_Lw_law_206 (pk_in (i + 1) _ (by omega)) ?_
  refine z_eqi (congrArg G.x.2.2 (nI_clamp (by omega))) ?_
  refine z_mc (as := [.int ((G.x.2.2 (i + 1)))]) (dY := d + 7) HG d_Lw_law_207 rfl (by omega) (Y_Lw_75 HG) rfl rfl (Nat.le_of_ble_eq_true rfl) ((c_Md_variable (d := d) HG mk Pk (G.x.2.2 (i + 1))).deep (by omega)) (fun v2 s2 A2 hp2 => ?_)
  have e2 := hp2.none kv_var
  subst e2
  obtain ⟨e0, mk2⟩ := hp2.code
  refine z_aload_n d_Lw_law_210 rfl rfl ?_
  refine z_mr (as := []) (dY := d + 7) HG d_Lw_law_211 rfl (by omega) (Y_Lw_66 HG) rfl rfl (Nat.le_of_ble_eq_true rfl) (c_Md_thrown HG e0) ?_
  refine z_iload d_Lw_law_214 rfl ?_
  refine z_icmp_eq (tgt := 221) d_Lw_law_216 rfl (fun c216 => ?_) (fun c216 => ?_)
  · rw [nI_eq (by omega) (by omega)] at c216
    refine z_goto (tgt := 799) d_Lw_law_221 rfl ?_
    refine z_fg (lw_lo G o i) ⟨rfl, rfl, rfl, rfl, rfl, trivial⟩ ?_
    exact kk _ _ (I0.next q2 (p_ret.next (pok_var Pk kA.len.2.1 (G.x.2.2 (i + 1))) Pk) ⟨f, (q3 _ (by omega)).trans hf⟩ q4 q5 mk2)
  · rw [nI_eq (by omega) (by omega)] at c216
    omega
theorem lc_apply (HG : z_ok G) (I : LI G o (n + 1) h K) (hi : i + 4 ≤ G.x.2.1) (hL : G.x.2.1 ≤ 2048) (kk : ∀ h' K', LI G o n h' K' → z_V G m_Lw_law (d + 8) 799 (lw_lo G o i) [] h' Q) : z_V G m_Lw_law (d + 8) 224 (lw_lo G o i) [] h Q := by
  have I0 := I
  obtain ⟨kA, Pk, ⟨s, A, mA, mk⟩, ⟨f, hf⟩, -, -⟩ := I
  refine z_aload_n d_Lw_law_224 rfl rfl ?_
  refine z_callS1 (dY := d + 7) d_Lw_law_225 rfl (by omega) (Y_Lw_76 HG) (Nat.le_of_ble_eq_true rfl) ((c_Lw_apply (d := d) HG I0.rm kA Pk).deep (by omega)) (fun v h1 hq => ?_) (fun X h1 hq => by obtain ⟨q1, -⟩ := hq; cases q1)
  obtain ⟨q1, q2, q3, q4, q5⟩ := hq
  cases q1
  have hcl := kcode_le [z_ISE, z_IAE, z_AE] (k_apply K)
  simp only [List.length_cons, List.length_nil] at hcl
  have mA1 : mdAt G h1 (o + 118) s A := mA.keep (fun y hy => q3 y (by omega))
  rw [← mA1.md]
  refine z_istore d_Lw_law_228 (by decide) ?_
  refine z_aload_n d_Lw_law_230 rfl rfl ?_
  refine z_mc (as := []) (dY := d + 7) HG d_Lw_law_231 rfl (by omega) (Y_Lw_78 HG) rfl rfl (Nat.le_of_ble_eq_true rfl) ((c_Md_apply (d := d) HG mk Pk).deep (by omega)) (fun v2 s2 A2 hp2 => ?_)
  have e2 := hp2.none kv_apply
  subst e2
  obtain ⟨e0, mk2⟩ := hp2.code
  refine z_aload_n d_Lw_law_234 rfl rfl ?_
  refine z_mr (as := []) (dY := d + 7) HG d_Lw_law_235 rfl (by omega) (Y_Lw_66 HG) rfl rfl (Nat.le_of_ble_eq_true rfl) (c_Md_thrown HG e0) ?_
  refine z_iload d_Lw_law_238 rfl ?_
  refine z_icmp_eq (tgt := 245) d_Lw_law_240 rfl (fun c240 => ?_) (fun c240 => ?_)
  · rw [nI_eq (by omega) (by omega)] at c240
    refine z_goto (tgt := 799) d_Lw_law_245 rfl ?_
    refine z_fg (lw_lo G o i) ⟨rfl, rfl, rfl, rfl, rfl, trivial⟩ ?_
    exact kk _ _ (I0.next q2 (p_ret.next (pok_apply Pk) Pk) ⟨f, (q3 _ (by omega)).trans hf⟩ q4 q5 mk2)
  · rw [nI_eq (by omega) (by omega)] at c240
    omega
theorem lc_assume (HG : z_ok G) (I : LI G o (n + 1) h K) (hi : i + 4 ≤ G.x.2.1) (hL : G.x.2.1 ≤ 2048) (kk : ∀ h' K', LI G o n h' K' → z_V G m_Lw_law (d + 8) 799 (lw_lo G o i) [] h' Q) : z_V G m_Lw_law (d + 8) 248 (lw_lo G o i) [] h Q := by
  have I0 := I
  obtain ⟨kA, Pk, ⟨s, A, mA, mk⟩, ⟨f, hf⟩, -, -⟩ := I
  refine z_aload_n d_Lw_law_248 rfl rfl ?_
  refine z_callS1 (dY := d + 7) d_Lw_law_249 rfl (by omega) (Y_Lw_79 HG) (Nat.le_of_ble_eq_true rfl) ((c_Lw_assume (d := d) HG I0.rm kA Pk).deep (by omega)) (fun v h1 hq => ?_) (fun X h1 hq => by obtain ⟨q1, -⟩ := hq; cases q1)
  obtain ⟨q1, q2, q3, q4, q5⟩ := hq
  cases q1
  have hcl := kcode_le [z_ISE, z_UOE, z_IAE] (k_assume K)
  simp only [List.length_cons, List.length_nil] at hcl
  have mA1 : mdAt G h1 (o + 118) s A := mA.keep (fun y hy => q3 y (by omega))
  rw [← mA1.md]
  refine z_istore d_Lw_law_252 (by decide) ?_
  refine z_aload_n d_Lw_law_254 rfl rfl ?_
  refine z_mc (as := []) (dY := d + 7) HG d_Lw_law_255 rfl (by omega) (Y_Lw_81 HG) rfl rfl (Nat.le_of_ble_eq_true rfl) ((c_Md_assume (d := d) HG mk Pk).deep (by omega)) (fun v2 s2 A2 hp2 => ?_)
  have e2 := hp2.none kv_assume
  subst e2
  obtain ⟨e0, mk2⟩ := hp2.code
  refine z_aload_n d_Lw_law_258 rfl rfl ?_
  refine z_mr (as := []) (dY := d + 7) HG d_Lw_law_259 rfl (by omega) (Y_Lw_66 HG) rfl rfl (Nat.le_of_ble_eq_true rfl) (c_Md_thrown HG e0) ?_
  refine z_iload d_Lw_law_262 rfl ?_
  refine z_icmp_eq (tgt := 269) d_Lw_law_264 rfl (fun c264 => ?_) (fun c264 => ?_)
  · rw [nI_eq (by omega) (by omega)] at c264
    refine z_goto (tgt := 799) d_Lw_law_269 rfl ?_
    refine z_fg (lw_lo G o i) ⟨rfl, rfl, rfl, rfl, rfl, trivial⟩ ?_
    exact kk _ _ (I0.next q2 (p_ret.next (pok_assume Pk) Pk) ⟨f, (q3 _ (by omega)).trans hf⟩ q4 q5 mk2)
  · rw [nI_eq (by omega) (by omega)] at c264
    omega
theorem lc_lambda (HG : z_ok G) (I : LI G o (n + 1) h K) (hi : i + 4 ≤ G.x.2.1) (hL : G.x.2.1 ≤ 2048) (kk : ∀ h' K', LI G o n h' K' → z_V G m_Lw_law (d + 8) 799 (lw_lo G o i) [] h' Q) : z_V G m_Lw_law (d + 8) 272 (lw_lo G o i) [] h Q := by
  have I0 := I
  obtain ⟨kA, Pk, ⟨s, A, mA, mk⟩, ⟨f, hf⟩, -, -⟩ := I
  refine z_aload_n d_Lw_law_272 rfl rfl ?_
  refine z_callS1 (dY := d + 7) d_Lw_law_273 rfl (by omega) (Y_Lw_82 HG) (Nat.le_of_ble_eq_true rfl) ((c_Lw_lambda (d := d) HG I0.rm kA Pk).deep (by omega)) (fun v h1 hq => ?_) (fun X h1 hq => by obtain ⟨q1, -⟩ := hq; cases q1)
  obtain ⟨q1, q2, q3, q4, q5⟩ := hq
  cases q1
  have hcl := kcode_le [z_ISE, z_IAE, z_AE] (k_lambda K)
  simp only [List.length_cons, List.length_nil] at hcl
  have mA1 : mdAt G h1 (o + 118) s A := mA.keep (fun y hy => q3 y (by omega))
  rw [← mA1.md]
  refine z_istore d_Lw_law_276 (by decide) ?_
  refine z_aload_n d_Lw_law_278 rfl rfl ?_
  refine z_mc (as := []) (dY := d + 7) HG d_Lw_law_279 rfl (by omega) (Y_Lw_84 HG) rfl rfl (Nat.le_of_ble_eq_true rfl) ((c_Md_lambda (d := d) HG mk Pk).deep (by omega)) (fun v2 s2 A2 hp2 => ?_)
  have e2 := hp2.none kv_lambda
  subst e2
  obtain ⟨e0, mk2⟩ := hp2.code
  refine z_aload_n d_Lw_law_282 rfl rfl ?_
  refine z_mr (as := []) (dY := d + 7) HG d_Lw_law_283 rfl (by omega) (Y_Lw_66 HG) rfl rfl (Nat.le_of_ble_eq_true rfl) (c_Md_thrown HG e0) ?_
  refine z_iload d_Lw_law_286 rfl ?_
  refine z_icmp_eq (tgt := 293) d_Lw_law_288 rfl (fun c288 => ?_) (fun c288 => ?_)
  · rw [nI_eq (by omega) (by omega)] at c288
    refine z_goto (tgt := 799) d_Lw_law_293 rfl ?_
    refine z_fg (lw_lo G o i) ⟨rfl, rfl, rfl, rfl, rfl, trivial⟩ ?_
    exact kk _ _ (I0.next q2 (p_ret.next (pok_lambda Pk) Pk) ⟨f, (q3 _ (by omega)).trans hf⟩ q4 q5 mk2)
  · rw [nI_eq (by omega) (by omega)] at c288
    omega
theorem lc_product (HG : z_ok G) (I : LI G o (n + 1) h K) (hi : i + 4 ≤ G.x.2.1) (hL : G.x.2.1 ≤ 2048) (kk : ∀ h' K', LI G o n h' K' → z_V G m_Lw_law (d + 8) 799 (lw_lo G o i) [] h' Q) : z_V G m_Lw_law (d + 8) 296 (lw_lo G o i) [] h Q := by
  have I0 := I
  obtain ⟨kA, Pk, ⟨s, A, mA, mk⟩, ⟨f, hf⟩, -, -⟩ := I
  refine z_aload_n d_Lw_law_296 rfl rfl ?_
  refine z_callS1 (dY := d + 7) d_Lw_law_297 rfl (by omega) (Y_Lw_85 HG) (Nat.le_of_ble_eq_true rfl) ((c_Lw_product (d := d) HG I0.rm kA Pk).deep (by omega)) (fun v h1 hq => ?_) (fun X h1 hq => by obtain ⟨q1, -⟩ := hq; cases q1)
  obtain ⟨q1, q2, q3, q4, q5⟩ := hq
  cases q1
  have hcl := kcode_le [z_ISE, z_IAE, z_AE] (k_product K)
  simp only [List.length_cons, List.length_nil] at hcl
  have mA1 : mdAt G h1 (o + 118) s A := mA.keep (fun y hy => q3 y (by omega))
  rw [← mA1.md]
  refine z_istore d_Lw_law_300 (by decide) ?_
  refine z_aload_n d_Lw_law_302 rfl rfl ?_
  refine z_mc (as := []) (dY := d + 7) HG d_Lw_law_303 rfl (by omega) (Y_Lw_87 HG) rfl rfl (Nat.le_of_ble_eq_true rfl) ((c_Md_product (d := d) HG mk Pk).deep (by omega)) (fun v2 s2 A2 hp2 => ?_)
  have e2 := hp2.none kv_product
  subst e2
  obtain ⟨e0, mk2⟩ := hp2.code
  refine z_aload_n d_Lw_law_306 rfl rfl ?_
  refine z_mr (as := []) (dY := d + 7) HG d_Lw_law_307 rfl (by omega) (Y_Lw_66 HG) rfl rfl (Nat.le_of_ble_eq_true rfl) (c_Md_thrown HG e0) ?_
  refine z_iload d_Lw_law_310 rfl ?_
  refine z_icmp_eq (tgt := 317) d_Lw_law_312 rfl (fun c312 => ?_) (fun c312 => ?_)
  · rw [nI_eq (by omega) (by omega)] at c312
    refine z_goto (tgt := 799) d_Lw_law_317 rfl ?_
    refine z_fg (lw_lo G o i) ⟨rfl, rfl, rfl, rfl, rfl, trivial⟩ ?_
    exact kk _ _ (I0.next q2 (p_ret.next (pok_product Pk) Pk) ⟨f, (q3 _ (by omega)).trans hf⟩ q4 q5 mk2)
  · rw [nI_eq (by omega) (by omega)] at c312
    omega
theorem lc_declare (HG : z_ok G) (I : LI G o (n + 1) h K) (hi : i + 4 ≤ G.x.2.1) (hL : G.x.2.1 ≤ 2048) (kk : ∀ h' K', LI G o n h' K' → z_V G m_Lw_law (d + 8) 799 (lw_lo G o i) [] h' Q) : z_V G m_Lw_law (d + 8) 320 (lw_lo G o i) [] h Q := by
  have I0 := I
  obtain ⟨kA, Pk, ⟨s, A, mA, mk⟩, ⟨f, hf⟩, -, -⟩ := I
  refine z_aload_n d_Lw_law_320 rfl rfl ?_
  refine z_aload_n d_Lw_law_321 rfl rfl ?_
  refine z_iload d_Lw_law_322 rfl ?_
  refine z_iconst (v := nI 1) d_Lw_law_324 (by decide) ?_
  refine z_iadd d_Lw_law_325 ?_
  refine z_eqi (nI_add _ _) ?_
  refine z_sld d_Lw_law_326 (pk_in (i + 1) _ (by omega)) ?_
  refine z_eqi (congrArg G.x.2.2 (nI_clamp (by omega))) ?_
  refine z_if_eq (tgt := 334) d_Lw_law_327 rfl (fun c327 => ?_) (fun c327 => ?_)
  · obtain ⟨b, hb, ht⟩ : ∃ b : Bool, b = false ∧ ((0 : Nat) = 0 ∧ b = false ∨ (0 : Nat) = 1 ∧ b = true) := ⟨false, rfl, Or.inl ⟨rfl, rfl⟩⟩
    have hbi : nI 0 = if b = true then nI 1 else nI 0 := by rw [hb]; rfl
    refine z_iconst (v := nI 0) d_Lw_law_334 (by decide) ?_
    refine z_eqi hbi ?_
    refine z_aload_n d_Lw_law_335 rfl rfl ?_
    refine z_callS3 (dY := d + 7) d_Lw_law_336 rfl (by omega) (Y_Lw_88 HG) (Nat.le_of_ble_eq_true rfl) ((c_Lw_declare (d := d) HG I0.rm kA Pk b hf).deep (by omega)) (fun v h1 hq => ?_) (fun X h1 hq => by obtain ⟨q1, -⟩ := hq; cases q1)
    obtain ⟨q1, q2, q3, ⟨q4, q5⟩, f1, q6, q7⟩ := hq
    cases q1
    have hcl := kcode_le [z_ISE, z_UOE, z_IAE] (k_declare K b)
    simp only [List.length_cons, List.length_nil] at hcl
    have mA1 : mdAt G h1 (o + 118) s A := mA.keep (fun y hy => q3 y (by omega) (by omega))
    rw [← mA1.md]
    refine z_istore d_Lw_law_339 (by decide) ?_
    refine z_aload_n d_Lw_law_341 rfl rfl ?_
    refine z_aload_n d_Lw_law_342 rfl rfl ?_
    refine z_iload d_Lw_law_343 rfl ?_
    refine z_iconst (v := nI 1) d_Lw_law_345 (by decide) ?_
    refine z_iadd d_Lw_law_346 ?_
    refine z_eqi (nI_add _ _) ?_
    refine z_sld d_Lw_law_347 (pk_in (i + 1) _ (by omega)) ?_
    refine z_eqi (congrArg G.x.2.2 (nI_clamp (by omega))) ?_
    refine z_if_eq (tgt := 355) d_Lw_law_348 rfl (fun c348 => ?_) (fun c348 => ?_)
    · refine z_iconst (v := nI 0) d_Lw_law_355 (by decide) ?_
      refine z_mc (as := [.int (nI 0)]) (dY := d + 7) HG d_Lw_law_356 rfl (by omega) (Y_Lw_91 HG) rfl rfl (Nat.le_of_ble_eq_true rfl) ((c_Md_declare (d := d) HG mk Pk ht).deep (by omega)) (fun v2 s2 A2 hp2 => ?_)
      obtain ⟨x, e2, e3⟩ := hp2.val kv_declare
      subst e2
      obtain ⟨e0, mk2⟩ := hp2.code
      have e9 : kcode [z_ISE, z_UOE, z_IAE] (k_declare K b) = 0 → f1 0 = Int32.toInt64 x := fun hz => by
        obtain ⟨w, hw⟩ := kcode0 (fun X e => by rcases kx_declare e with rfl | rfl | rfl <;> simp) hz
        exact q7 w x hw (e3 w hw)
      refine z_istore d_Lw_law_359 (by decide) ?_
      refine z_aload_n d_Lw_law_361 rfl rfl ?_
      refine z_mr (as := []) (dY := d + 7) HG d_Lw_law_362 rfl (by omega) (Y_Lw_66 HG) rfl rfl (Nat.le_of_ble_eq_true rfl) (c_Md_thrown HG e0) ?_
      refine z_iload d_Lw_law_365 rfl ?_
      refine z_icmp_eq (tgt := 372) d_Lw_law_367 rfl (fun c367 => ?_) (fun c367 => ?_)
      · rw [nI_eq (by omega) (by omega)] at c367
        refine z_iload d_Lw_law_372 rfl ?_
        refine z_if_ne (tgt := 389) d_Lw_law_374 rfl (fun c374 => ?_) (fun c374 => ?_)
        · rw [← nI_0, nI_eq (by omega) (by omega)] at c374
          refine z_goto (tgt := 799) d_Lw_law_389 rfl ?_
          refine z_fg (lw_lo G o i) ⟨rfl, rfl, rfl, rfl, rfl, trivial⟩ ?_
          exact kk _ _ (I0.next q2 (p_ret.next (pok_declare Pk b) Pk) ⟨f1, q6⟩ q4 q5 mk2)
        · rw [← nI_0, nI_eq (by omega) (by omega)] at c374
          refine z_aload_n d_Lw_law_377 rfl rfl ?_
          refine z_iconst (v := nI 0) d_Lw_law_378 (by decide) ?_
          refine z_lald d_Lw_law_379 (ty1 HG) ((md_out (by omega)).trans q6) (pk_in 0 1 (by omega)) ?_
          refine z_iload d_Lw_law_380 rfl ?_
          refine z_i2l d_Lw_law_382 rfl ?_
          refine z_lcmp d_Lw_law_383 ?_
          refine z_eqi (show lg_cmp (f1 (nI 0).toNatClampNeg) (Int32.toInt64 x) = nI 0 by rw [nI_clamp (by omega), e9 c374, nI_0]; exact lg_self _) ?_
          refine z_if_eq (tgt := 389) d_Lw_law_384 rfl (fun c384 => ?_) (fun c384 => ?_)
          · rw [← nI_0, nI_eq (by omega) (by omega)] at c384
            refine z_goto (tgt := 799) d_Lw_law_389 rfl ?_
            refine z_fg (lw_lo G o i) ⟨rfl, rfl, rfl, rfl, rfl, trivial⟩ ?_
            exact kk _ _ (I0.next q2 (p_ret.next (pok_declare Pk b) Pk) ⟨f1, q6⟩ q4 q5 mk2)
          · rw [← nI_0, nI_eq (by omega) (by omega)] at c384
            omega
      · rw [nI_eq (by omega) (by omega)] at c367
        omega
    · exact absurd c327 c348
  · obtain ⟨b, hb, ht⟩ : ∃ b : Bool, b = true ∧ ((1 : Nat) = 0 ∧ b = false ∨ (1 : Nat) = 1 ∧ b = true) := ⟨true, rfl, Or.inr ⟨rfl, rfl⟩⟩
    have hbi : nI 1 = if b = true then nI 1 else nI 0 := by rw [hb]; rfl
    refine z_iconst (v := nI 1) d_Lw_law_330 (by decide) ?_
    refine z_goto (tgt := 335) d_Lw_law_331 rfl ?_
    refine z_eqi hbi ?_
    refine z_aload_n d_Lw_law_335 rfl rfl ?_
    refine z_callS3 (dY := d + 7) d_Lw_law_336 rfl (by omega) (Y_Lw_88 HG) (Nat.le_of_ble_eq_true rfl) ((c_Lw_declare (d := d) HG I0.rm kA Pk b hf).deep (by omega)) (fun v h1 hq => ?_) (fun X h1 hq => by obtain ⟨q1, -⟩ := hq; cases q1)
    obtain ⟨q1, q2, q3, ⟨q4, q5⟩, f1, q6, q7⟩ := hq
    cases q1
    have hcl := kcode_le [z_ISE, z_UOE, z_IAE] (k_declare K b)
    simp only [List.length_cons, List.length_nil] at hcl
    have mA1 : mdAt G h1 (o + 118) s A := mA.keep (fun y hy => q3 y (by omega) (by omega))
    rw [← mA1.md]
    refine z_istore d_Lw_law_339 (by decide) ?_
    refine z_aload_n d_Lw_law_341 rfl rfl ?_
    refine z_aload_n d_Lw_law_342 rfl rfl ?_
    refine z_iload d_Lw_law_343 rfl ?_
    refine z_iconst (v := nI 1) d_Lw_law_345 (by decide) ?_
    refine z_iadd d_Lw_law_346 ?_
    refine z_eqi (nI_add _ _) ?_
    refine z_sld d_Lw_law_347 (pk_in (i + 1) _ (by omega)) ?_
    refine z_eqi (congrArg G.x.2.2 (nI_clamp (by omega))) ?_
    refine z_if_eq (tgt := 355) d_Lw_law_348 rfl (fun c348 => ?_) (fun c348 => ?_)
    · exact absurd c348 c327
    · refine z_iconst (v := nI 1) d_Lw_law_351 (by decide) ?_
      refine z_goto (tgt := 356) d_Lw_law_352 rfl ?_
      refine z_mc (as := [.int (nI 1)]) (dY := d + 7) HG d_Lw_law_356 rfl (by omega) (Y_Lw_91 HG) rfl rfl (Nat.le_of_ble_eq_true rfl) ((c_Md_declare (d := d) HG mk Pk ht).deep (by omega)) (fun v2 s2 A2 hp2 => ?_)
      obtain ⟨x, e2, e3⟩ := hp2.val kv_declare
      subst e2
      obtain ⟨e0, mk2⟩ := hp2.code
      have e9 : kcode [z_ISE, z_UOE, z_IAE] (k_declare K b) = 0 → f1 0 = Int32.toInt64 x := fun hz => by
        obtain ⟨w, hw⟩ := kcode0 (fun X e => by rcases kx_declare e with rfl | rfl | rfl <;> simp) hz
        exact q7 w x hw (e3 w hw)
      refine z_istore d_Lw_law_359 (by decide) ?_
      refine z_aload_n d_Lw_law_361 rfl rfl ?_
      refine z_mr (as := []) (dY := d + 7) HG d_Lw_law_362 rfl (by omega) (Y_Lw_66 HG) rfl rfl (Nat.le_of_ble_eq_true rfl) (c_Md_thrown HG e0) ?_
      refine z_iload d_Lw_law_365 rfl ?_
      refine z_icmp_eq (tgt := 372) d_Lw_law_367 rfl (fun c367 => ?_) (fun c367 => ?_)
      · rw [nI_eq (by omega) (by omega)] at c367
        refine z_iload d_Lw_law_372 rfl ?_
        refine z_if_ne (tgt := 389) d_Lw_law_374 rfl (fun c374 => ?_) (fun c374 => ?_)
        · rw [← nI_0, nI_eq (by omega) (by omega)] at c374
          refine z_goto (tgt := 799) d_Lw_law_389 rfl ?_
          refine z_fg (lw_lo G o i) ⟨rfl, rfl, rfl, rfl, rfl, trivial⟩ ?_
          exact kk _ _ (I0.next q2 (p_ret.next (pok_declare Pk b) Pk) ⟨f1, q6⟩ q4 q5 mk2)
        · rw [← nI_0, nI_eq (by omega) (by omega)] at c374
          refine z_aload_n d_Lw_law_377 rfl rfl ?_
          refine z_iconst (v := nI 0) d_Lw_law_378 (by decide) ?_
          refine z_lald d_Lw_law_379 (ty1 HG) ((md_out (by omega)).trans q6) (pk_in 0 1 (by omega)) ?_
          refine z_iload d_Lw_law_380 rfl ?_
          refine z_i2l d_Lw_law_382 rfl ?_
          refine z_lcmp d_Lw_law_383 ?_
          refine z_eqi (show lg_cmp (f1 (nI 0).toNatClampNeg) (Int32.toInt64 x) = nI 0 by rw [nI_clamp (by omega), e9 c374, nI_0]; exact lg_self _) ?_
          refine z_if_eq (tgt := 389) d_Lw_law_384 rfl (fun c384 => ?_) (fun c384 => ?_)
          · rw [← nI_0, nI_eq (by omega) (by omega)] at c384
            refine z_goto (tgt := 799) d_Lw_law_389 rfl ?_
            refine z_fg (lw_lo G o i) ⟨rfl, rfl, rfl, rfl, rfl, trivial⟩ ?_
            exact kk _ _ (I0.next q2 (p_ret.next (pok_declare Pk b) Pk) ⟨f1, q6⟩ q4 q5 mk2)
          · rw [← nI_0, nI_eq (by omega) (by omega)] at c384
            omega
      · rw [nI_eq (by omega) (by omega)] at c367
        omega
theorem lc_rule (HG : z_ok G) (I : LI G o (n + 1) h K) (hi : i + 4 ≤ G.x.2.1) (hL : G.x.2.1 ≤ 2048) (kk : ∀ h' K', LI G o n h' K' → z_V G m_Lw_law (d + 8) 799 (lw_lo G o i) [] h' Q) : z_V G m_Lw_law (d + 8) 392 (lw_lo G o i) [] h Q := by
  have I0 := I
  obtain ⟨kA, Pk, ⟨s, A, mA, mk⟩, ⟨f, hf⟩, -, -⟩ := I
  refine z_aload_n d_Lw_law_392 rfl rfl ?_
  refine z_aload_n d_Lw_law_393 rfl rfl ?_
  refine z_callS2 (dY := d + 7) d_Lw_law_394 rfl (by omega) (Y_Lw_92 HG) (Nat.le_of_ble_eq_true rfl) ((c_Lw_rule (d := d) HG I0.rm kA Pk hf).deep (by omega)) (fun v h1 hq => ?_) (fun X h1 hq => by obtain ⟨q1, -⟩ := hq; cases q1)
  obtain ⟨q1, q2, q3, ⟨q4, q5⟩, f1, q6, q7⟩ := hq
  cases q1
  have hcl := kcode_le [z_ISE, z_UOE, z_IAE, z_AE] (k_rule K)
  simp only [List.length_cons, List.length_nil] at hcl
  have mA1 : mdAt G h1 (o + 118) s A := mA.keep (fun y hy => q3 y (by omega) (by omega))
  rw [← mA1.md]
  refine z_istore d_Lw_law_397 (by decide) ?_
  refine z_aload_n d_Lw_law_399 rfl rfl ?_
  refine z_mc (as := []) (dY := d + 7) HG d_Lw_law_400 rfl (by omega) (Y_Lw_95 HG) rfl rfl (Nat.le_of_ble_eq_true rfl) ((c_Md_rule (d := d) HG mk Pk).deep (by omega)) (fun v2 s2 A2 hp2 => ?_)
  obtain ⟨x, e2, e3⟩ := hp2.val kv_rule
  subst e2
  obtain ⟨e0, mk2⟩ := hp2.code
  have e9 : kcode [z_ISE, z_UOE, z_IAE, z_AE] (k_rule K) = 0 → f1 0 = Int32.toInt64 x := fun hz => by
    obtain ⟨w, hw⟩ := kcode0 (fun X e => by rcases kx_rule e with rfl | rfl | rfl | rfl <;> simp) hz
    exact q7 w x hw (e3 w hw)
  refine z_istore d_Lw_law_403 (by decide) ?_
  refine z_aload_n d_Lw_law_405 rfl rfl ?_
  refine z_mr (as := []) (dY := d + 7) HG d_Lw_law_406 rfl (by omega) (Y_Lw_66 HG) rfl rfl (Nat.le_of_ble_eq_true rfl) (c_Md_thrown HG e0) ?_
  refine z_iload d_Lw_law_409 rfl ?_
  refine z_icmp_eq (tgt := 416) d_Lw_law_411 rfl (fun c411 => ?_) (fun c411 => ?_)
  · rw [nI_eq (by omega) (by omega)] at c411
    refine z_iload d_Lw_law_416 rfl ?_
    refine z_if_ne (tgt := 433) d_Lw_law_418 rfl (fun c418 => ?_) (fun c418 => ?_)
    · rw [← nI_0, nI_eq (by omega) (by omega)] at c418
      refine z_goto (tgt := 799) d_Lw_law_433 rfl ?_
      refine z_fg (lw_lo G o i) ⟨rfl, rfl, rfl, rfl, rfl, trivial⟩ ?_
      exact kk _ _ (I0.next q2 (p_ret.next (pok_rule Pk kA.len.2.1) Pk) ⟨f1, q6⟩ q4 q5 mk2)
    · rw [← nI_0, nI_eq (by omega) (by omega)] at c418
      refine z_aload_n d_Lw_law_421 rfl rfl ?_
      refine z_iconst (v := nI 0) d_Lw_law_422 (by decide) ?_
      refine z_lald d_Lw_law_423 (ty1 HG) ((md_out (by omega)).trans q6) (pk_in 0 1 (by omega)) ?_
      refine z_iload d_Lw_law_424 rfl ?_
      refine z_i2l d_Lw_law_426 rfl ?_
      refine z_lcmp d_Lw_law_427 ?_
      refine z_eqi (show lg_cmp (f1 (nI 0).toNatClampNeg) (Int32.toInt64 x) = nI 0 by rw [nI_clamp (by omega), e9 c418, nI_0]; exact lg_self _) ?_
      refine z_if_eq (tgt := 433) d_Lw_law_428 rfl (fun c428 => ?_) (fun c428 => ?_)
      · rw [← nI_0, nI_eq (by omega) (by omega)] at c428
        refine z_goto (tgt := 799) d_Lw_law_433 rfl ?_
        refine z_fg (lw_lo G o i) ⟨rfl, rfl, rfl, rfl, rfl, trivial⟩ ?_
        exact kk _ _ (I0.next q2 (p_ret.next (pok_rule Pk kA.len.2.1) Pk) ⟨f1, q6⟩ q4 q5 mk2)
      · rw [← nI_0, nI_eq (by omega) (by omega)] at c428
        omega
  · rw [nI_eq (by omega) (by omega)] at c411
    omega
theorem lc_normal (HG : z_ok G) (I : LI G o (n + 1) h K) (hi : i + 4 ≤ G.x.2.1) (hL : G.x.2.1 ≤ 2048) (kk : ∀ h' K', LI G o n h' K' → z_V G m_Lw_law (d + 8) 799 (lw_lo G o i) [] h' Q) : z_V G m_Lw_law (d + 8) 436 (lw_lo G o i) [] h Q := by
  have I0 := I
  obtain ⟨kA, Pk, ⟨s, A, mA, mk⟩, ⟨f, hf⟩, -, -⟩ := I
  refine z_aload_n d_Lw_law_436 rfl rfl ?_
  refine z_aload_n d_Lw_law_437 rfl rfl ?_
  refine z_callS2 (dY := d + 7) d_Lw_law_438 rfl (by omega) (Y_Lw_96 HG) (Nat.le_of_ble_eq_true rfl) ((c_Lw_normal (d := d) HG I0.rm kA Pk hf).deep (by omega)) (fun v h1 hq => ?_) (fun X h1 hq => by obtain ⟨q1, -⟩ := hq; cases q1)
  obtain ⟨q1, q2, q3, ⟨q4, q5⟩, f1, q6, q7⟩ := hq
  cases q1
  have hcl := kcode_le [z_ISE, z_AE] (k_normal K)
  simp only [List.length_cons, List.length_nil] at hcl
  have mA1 : mdAt G h1 (o + 118) s A := mA.keep (fun y hy => q3 y (by omega) (by omega))
  rw [← mA1.md]
  refine z_istore d_Lw_law_441 (by decide) ?_
  refine z_aload_n d_Lw_law_443 rfl rfl ?_
  refine z_mc (as := []) (dY := d + 7) HG d_Lw_law_444 rfl (by omega) (Y_Lw_98 HG) rfl rfl (Nat.le_of_ble_eq_true rfl) ((c_Md_normal (d := d) HG mk Pk).deep (by omega)) (fun v2 s2 A2 hp2 => ?_)
  obtain ⟨x, e2, e3⟩ := hp2.val kv_normal
  subst e2
  obtain ⟨e0, mk2⟩ := hp2.code
  have e9 : kcode [z_ISE, z_AE] (k_normal K) = 0 → f1 0 = Int32.toInt64 x := fun hz => by
    obtain ⟨w, hw⟩ := kcode0 (fun X e => by rcases kx_normal e with rfl | rfl <;> simp) hz
    exact q7 w x hw (e3 w hw)
  refine z_istore d_Lw_law_447 (by decide) ?_
  refine z_aload_n d_Lw_law_449 rfl rfl ?_
  refine z_mr (as := []) (dY := d + 7) HG d_Lw_law_450 rfl (by omega) (Y_Lw_66 HG) rfl rfl (Nat.le_of_ble_eq_true rfl) (c_Md_thrown HG e0) ?_
  refine z_iload d_Lw_law_453 rfl ?_
  refine z_icmp_eq (tgt := 460) d_Lw_law_455 rfl (fun c455 => ?_) (fun c455 => ?_)
  · rw [nI_eq (by omega) (by omega)] at c455
    refine z_iload d_Lw_law_460 rfl ?_
    refine z_if_ne (tgt := 477) d_Lw_law_462 rfl (fun c462 => ?_) (fun c462 => ?_)
    · rw [← nI_0, nI_eq (by omega) (by omega)] at c462
      refine z_goto (tgt := 799) d_Lw_law_477 rfl ?_
      refine z_fg (lw_lo G o i) ⟨rfl, rfl, rfl, rfl, rfl, trivial⟩ ?_
      exact kk _ _ (I0.next q2 (p_ret.next (pok_normal Pk) Pk) ⟨f1, q6⟩ q4 q5 mk2)
    · rw [← nI_0, nI_eq (by omega) (by omega)] at c462
      refine z_aload_n d_Lw_law_465 rfl rfl ?_
      refine z_iconst (v := nI 0) d_Lw_law_466 (by decide) ?_
      refine z_lald d_Lw_law_467 (ty1 HG) ((md_out (by omega)).trans q6) (pk_in 0 1 (by omega)) ?_
      refine z_iload d_Lw_law_468 rfl ?_
      refine z_i2l d_Lw_law_470 rfl ?_
      refine z_lcmp d_Lw_law_471 ?_
      refine z_eqi (show lg_cmp (f1 (nI 0).toNatClampNeg) (Int32.toInt64 x) = nI 0 by rw [nI_clamp (by omega), e9 c462, nI_0]; exact lg_self _) ?_
      refine z_if_eq (tgt := 477) d_Lw_law_472 rfl (fun c472 => ?_) (fun c472 => ?_)
      · rw [← nI_0, nI_eq (by omega) (by omega)] at c472
        refine z_goto (tgt := 799) d_Lw_law_477 rfl ?_
        refine z_fg (lw_lo G o i) ⟨rfl, rfl, rfl, rfl, rfl, trivial⟩ ?_
        exact kk _ _ (I0.next q2 (p_ret.next (pok_normal Pk) Pk) ⟨f1, q6⟩ q4 q5 mk2)
      · rw [← nI_0, nI_eq (by omega) (by omega)] at c472
        omega
  · rw [nI_eq (by omega) (by omega)] at c455
    omega
theorem lc_same (HG : z_ok G) (I : LI G o (n + 1) h K) (hi : i + 4 ≤ G.x.2.1) (hL : G.x.2.1 ≤ 2048) (kk : ∀ h' K', LI G o n h' K' → z_V G m_Lw_law (d + 8) 799 (lw_lo G o i) [] h' Q) : z_V G m_Lw_law (d + 8) 480 (lw_lo G o i) [] h Q := by
  have I0 := I
  obtain ⟨kA, Pk, ⟨s, A, mA, mk⟩, ⟨f, hf⟩, -, -⟩ := I
  refine z_aload_n d_Lw_law_480 rfl rfl ?_
  refine z_aload_n d_Lw_law_481 rfl rfl ?_
  refine z_callS2 (dY := d + 7) d_Lw_law_482 rfl (by omega) (Y_Lw_99 HG) (Nat.le_of_ble_eq_true rfl) ((c_Lw_same (d := d) HG I0.rm kA Pk hf).deep (by omega)) (fun v h1 hq => ?_) (fun X h1 hq => by obtain ⟨q1, -⟩ := hq; cases q1)
  obtain ⟨q1, q2, q3, ⟨q4, q5⟩, f1, q6, q7⟩ := hq
  cases q1
  have hcl := kcode_le [z_ISE, z_AE] (k_same K)
  simp only [List.length_cons, List.length_nil] at hcl
  have mA1 : mdAt G h1 (o + 118) s A := mA.keep (fun y hy => q3 y (by omega) (by omega))
  rw [← mA1.md]
  refine z_istore d_Lw_law_485 (by decide) ?_
  refine z_aload_n d_Lw_law_487 rfl rfl ?_
  refine z_mc (as := []) (dY := d + 7) HG d_Lw_law_488 rfl (by omega) (Y_Lw_101 HG) rfl rfl (Nat.le_of_ble_eq_true rfl) ((c_Md_same (d := d) HG mk Pk).deep (by omega)) (fun v2 s2 A2 hp2 => ?_)
  obtain ⟨x, e2, e3⟩ := hp2.val kv_sameI
  subst e2
  obtain ⟨e0, mk2⟩ := hp2.code
  have e9 : kcode [z_ISE, z_AE] (k_same K) = 0 → f1 0 = cv_b x := fun hz => by
    obtain ⟨w, hw⟩ := kcode0 (fun X e => by rcases kx_same e with rfl | rfl <;> simp) hz
    exact q7 w x hw (e3 w hw)
  refine z_istore d_Lw_law_491 (by decide) ?_
  refine z_aload_n d_Lw_law_493 rfl rfl ?_
  refine z_mr (as := []) (dY := d + 7) HG d_Lw_law_494 rfl (by omega) (Y_Lw_66 HG) rfl rfl (Nat.le_of_ble_eq_true rfl) (c_Md_thrown HG e0) ?_
  refine z_iload d_Lw_law_497 rfl ?_
  refine z_icmp_eq (tgt := 504) d_Lw_law_499 rfl (fun c499 => ?_) (fun c499 => ?_)
  · rw [nI_eq (by omega) (by omega)] at c499
    refine z_iload d_Lw_law_504 rfl ?_
    refine z_if_ne (tgt := 528) d_Lw_law_506 rfl (fun c506 => ?_) (fun c506 => ?_)
    · rw [← nI_0, nI_eq (by omega) (by omega)] at c506
      refine z_goto (tgt := 799) d_Lw_law_528 rfl ?_
      refine z_fg (lw_lo G o i) ⟨rfl, rfl, rfl, rfl, rfl, trivial⟩ ?_
      exact kk _ _ (I0.next q2 (p_ret.next (pok_same Pk) Pk) ⟨f1, q6⟩ q4 q5 mk2)
    · rw [← nI_0, nI_eq (by omega) (by omega)] at c506
      refine z_aload_n d_Lw_law_509 rfl rfl ?_
      refine z_iconst (v := nI 0) d_Lw_law_510 (by decide) ?_
      refine z_lald d_Lw_law_511 (ty1 HG) ((md_out (by omega)).trans q6) (pk_in 0 1 (by omega)) ?_
      refine z_iload d_Lw_law_512 rfl ?_
      refine z_if_eq (tgt := 521) d_Lw_law_514 rfl (fun c514 => ?_) (fun c514 => ?_)
      · refine z_lconst d_Lw_law_521 rfl ?_
        refine z_lcmp d_Lw_law_522 ?_
        refine z_eqi (show lg_cmp (f1 (nI 0).toNatClampNeg) (Int64.ofNat 0) = nI 0 by rw [nI_clamp (by omega), e9 c506, show cv_b x = Int64.ofNat 0 from if_pos c514, nI_0]; exact lg_self _) ?_
        refine z_if_eq (tgt := 528) d_Lw_law_523 rfl (fun c523 => ?_) (fun c523 => ?_)
        · rw [← nI_0, nI_eq (by omega) (by omega)] at c523
          refine z_goto (tgt := 799) d_Lw_law_528 rfl ?_
          refine z_fg (lw_lo G o i) ⟨rfl, rfl, rfl, rfl, rfl, trivial⟩ ?_
          exact kk _ _ (I0.next q2 (p_ret.next (pok_same Pk) Pk) ⟨f1, q6⟩ q4 q5 mk2)
        · rw [← nI_0, nI_eq (by omega) (by omega)] at c523
          omega
      · refine z_lconst d_Lw_law_517 rfl ?_
        refine z_goto (tgt := 522) d_Lw_law_518 rfl ?_
        refine z_lcmp d_Lw_law_522 ?_
        refine z_eqi (show lg_cmp (f1 (nI 0).toNatClampNeg) (Int64.ofNat 1) = nI 0 by rw [nI_clamp (by omega), e9 c506, show cv_b x = Int64.ofNat 1 from if_neg c514, nI_0]; exact lg_self _) ?_
        refine z_if_eq (tgt := 528) d_Lw_law_523 rfl (fun c523 => ?_) (fun c523 => ?_)
        · rw [← nI_0, nI_eq (by omega) (by omega)] at c523
          refine z_goto (tgt := 799) d_Lw_law_528 rfl ?_
          refine z_fg (lw_lo G o i) ⟨rfl, rfl, rfl, rfl, rfl, trivial⟩ ?_
          exact kk _ _ (I0.next q2 (p_ret.next (pok_same Pk) Pk) ⟨f1, q6⟩ q4 q5 mk2)
        · rw [← nI_0, nI_eq (by omega) (by omega)] at c523
          omega
  · rw [nI_eq (by omega) (by omega)] at c499
    omega
theorem lc_drop (HG : z_ok G) (I : LI G o (n + 1) h K) (hi : i + 4 ≤ G.x.2.1) (hL : G.x.2.1 ≤ 2048) (kk : ∀ h' K', LI G o n h' K' → z_V G m_Lw_law (d + 8) 799 (lw_lo G o i) [] h' Q) : z_V G m_Lw_law (d + 8) 531 (lw_lo G o i) [] h Q := by
  have I0 := I
  obtain ⟨kA, Pk, ⟨s, A, mA, mk⟩, ⟨f, hf⟩, -, -⟩ := I
  obtain ⟨w, hk, hw⟩ := kv_drop (K := K) rfl
  have hw2 : ∃ x, w.1 = some (.int x) := by
    rcases hw with e | e
    · exact ⟨_, e⟩
    · exact ⟨_, e⟩
  obtain ⟨x, hx⟩ := hw2
  have hP := pok_drop Pk
  refine z_aload_n d_Lw_law_531 rfl rfl ?_
  refine z_callV0 (dY := d + 7) d_Lw_law_532 rfl (by omega) (Y_Lw_102 HG) kA.2.1 (cl_TK HG) (Nat.le_of_ble_eq_true rfl) ((c_TK_drop (d := d) HG kA).deep (by omega)) (fun v h1 hq => ?_) (fun X h1 hq => by rw [hk] at hq; obtain ⟨q1, -⟩ := hq; cases q1)
  rw [hk] at hq
  obtain ⟨q1, q2, q3⟩ := hq
  cases q1
  rw [hx]
  have mA1 : mdAt G h1 (o + 118) s A := mA.keep (fun y hy => q3.2.2 y (by omega))
  rw [← mA1.md]
  refine z_aload_n d_Lw_law_535 rfl rfl ?_
  refine z_mc (as := []) (dY := d + 7) HG d_Lw_law_536 rfl (by omega) (Y_Lw_105 HG) rfl rfl (Nat.le_of_ble_eq_true rfl) ((c_Md_drop (d := d) HG mk).deep (by omega)) (fun v2 s2 A2 hp2 => ?_)
  rw [hk] at hp2
  obtain ⟨e2, -, mk2⟩ := hp2
  rw [hx] at e2
  subst e2
  refine z_icmp_eq (tgt := 799) d_Lw_law_539 rfl (fun c => ?_) (fun c => absurd rfl c)
  refine z_fg (lw_lo G o i) ⟨rfl, rfl, rfl, rfl, rfl, trivial⟩ ?_
  exact kk _ _ (I0.next q2 (hP w hk) ⟨f, (q3.2.2 _ (by omega)).trans hf⟩ (by rw [q3.1]; omega) (by rw [q3.2.1]; omega) mk2)
theorem lc_leave (HG : z_ok G) (I : LI G o (n + 1) h K) (hi : i + 4 ≤ G.x.2.1) (hL : G.x.2.1 ≤ 2048) (kk : ∀ h' K', LI G o n h' K' → z_V G m_Lw_law (d + 8) 799 (lw_lo G o i) [] h' Q) : z_V G m_Lw_law (d + 8) 544 (lw_lo G o i) [] h Q := by
  have I0 := I
  obtain ⟨kA, Pk, ⟨s, A, mA, mk⟩, ⟨f, hf⟩, -, -⟩ := I
  obtain ⟨w, hk, hw⟩ := kv_leave (K := K) rfl
  have hw2 : ∃ x, w.1 = some (.int x) := by
    rcases hw with e | e
    · exact ⟨_, e⟩
    · exact ⟨_, e⟩
  obtain ⟨x, hx⟩ := hw2
  have hP := pok_leave Pk
  refine z_aload_n d_Lw_law_544 rfl rfl ?_
  refine z_callV0 (dY := d + 7) d_Lw_law_545 rfl (by omega) (Y_Lw_106 HG) kA.2.1 (cl_TK HG) (Nat.le_of_ble_eq_true rfl) ((c_TK_leave (d := d) HG kA Pk).deep (by omega)) (fun v h1 hq => ?_) (fun X h1 hq => by rw [hk] at hq; obtain ⟨q1, -⟩ := hq; cases q1)
  rw [hk] at hq
  obtain ⟨q1, q2, q3⟩ := hq
  cases q1
  rw [hx]
  have mA1 : mdAt G h1 (o + 118) s A := mA.keep (fun y hy => q3.2.2 y (by omega))
  rw [← mA1.md]
  refine z_aload_n d_Lw_law_548 rfl rfl ?_
  refine z_mc (as := []) (dY := d + 7) HG d_Lw_law_549 rfl (by omega) (Y_Lw_109 HG) rfl rfl (Nat.le_of_ble_eq_true rfl) ((c_Md_leave (d := d) HG mk Pk).deep (by omega)) (fun v2 s2 A2 hp2 => ?_)
  rw [hk] at hp2
  obtain ⟨e2, -, mk2⟩ := hp2
  rw [hx] at e2
  subst e2
  refine z_icmp_eq (tgt := 799) d_Lw_law_552 rfl (fun c => ?_) (fun c => absurd rfl c)
  refine z_fg (lw_lo G o i) ⟨rfl, rfl, rfl, rfl, rfl, trivial⟩ ?_
  exact kk _ _ (I0.next q2 (hP w hk) ⟨f, (q3.2.2 _ (by omega)).trans hf⟩ (by rw [q3.1]; omega) (by rw [q3.2.1]; omega) mk2)
theorem lc_counts (HG : z_ok G) (I : LI G o (n + 1) h K) (hi : i + 4 ≤ G.x.2.1) (hL : G.x.2.1 ≤ 2048) (kk : ∀ h' K', LI G o n h' K' → z_V G m_Lw_law (d + 8) 799 (lw_lo G o i) [] h' Q) : z_V G m_Lw_law (d + 8) 557 (lw_lo G o i) [] h Q := by
  have I0 := I
  obtain ⟨kA, Pk, ⟨s, A, mA, mk⟩, ⟨f, hf⟩, -, -⟩ := I
  refine z_aload_n d_Lw_law_557 rfl rfl ?_
  refine z_callV0r (dY := d + 7) d_Lw_law_558 rfl (by omega) (Y_Lw_110 HG) kA.2.1 (cl_TK HG) (Nat.le_of_ble_eq_true rfl) ((c_TK_counts (d := d) HG kA).deep (by omega)) ?_
  rw [← mA.md]
  refine z_aload_n d_Lw_law_561 rfl rfl ?_
  refine z_mc (as := []) (dY := d + 7) HG d_Lw_law_562 rfl (by omega) (Y_Lw_113 HG) rfl rfl (Nat.le_of_ble_eq_true rfl) ((c_Md_counts (d := d) HG mk).deep (by omega)) (fun v2 s2 A2 hp2 => ?_)
  obtain ⟨rfl, mk2⟩ := hp2
  refine z_icmp_eq (tgt := 799) d_Lw_law_565 rfl (fun c565 => ?_) (fun c565 => ?_)
  · refine z_fg (lw_lo G o i) ⟨rfl, rfl, rfl, rfl, rfl, trivial⟩ ?_
    exact kk _ _ (I0.next kA Pk ⟨f, hf⟩ (by omega) (by omega) mk2)
  · exact absurd rfl c565
theorem lc_judgement (HG : z_ok G) (I : LI G o (n + 1) h K) (hi : i + 4 ≤ G.x.2.1) (hL : G.x.2.1 ≤ 2048) (kk : ∀ h' K', LI G o n h' K' → z_V G m_Lw_law (d + 8) 799 (lw_lo G o i) [] h' Q) : z_V G m_Lw_law (d + 8) 570 (lw_lo G o i) [] h Q := by
  have I0 := I
  obtain ⟨kA, Pk, ⟨s, A, mA, mk⟩, ⟨f, hf⟩, -, -⟩ := I
  refine z_aload_n d_Lw_law_570 rfl rfl ?_
  refine z_aload_n d_Lw_law_571 rfl rfl ?_
  refine z_iload d_Lw_law_572 rfl ?_
  refine z_iconst (v := nI 1) d_Lw_law_574 (by decide) ?_
  refine z_iadd d_Lw_law_575 ?_
  refine z_eqi (nI_add _ _) ?_
  refine z_sld d_Lw_law_576 (pk_in (i + 1) _ (by omega)) ?_
  refine z_eqi (congrArg G.x.2.2 (nI_clamp (by omega))) ?_
  refine z_aload_n d_Lw_law_577 rfl rfl ?_
  refine z_iload d_Lw_law_578 rfl ?_
  refine z_iconst (v := nI 2) d_Lw_law_580 (by decide) ?_
  refine z_iadd d_Lw_law_581 ?_
  refine z_eqi (nI_add _ _) ?_
  refine z_sld d_Lw_law_582 (pk_in (i + 2) _ (by omega)) ?_
  refine z_eqi (congrArg G.x.2.2 (nI_clamp (by omega))) ?_
  refine z_if_eq (tgt := 590) d_Lw_law_583 rfl (fun c583 => ?_) (fun c583 => ?_)
  · refine z_iconst (v := nI 0) d_Lw_law_590 (by decide) ?_
    refine z_aload_n d_Lw_law_591 rfl rfl ?_
    refine z_iload d_Lw_law_592 rfl ?_
    refine z_iconst (v := nI 3) d_Lw_law_594 (by decide) ?_
    refine z_iadd d_Lw_law_595 ?_
    refine z_eqi (nI_add _ _) ?_
    refine z_sld d_Lw_law_596 (pk_in (i + 3) _ (by omega)) ?_
    refine z_eqi (congrArg G.x.2.2 (nI_clamp (by omega))) ?_
    refine z_callV3r (dY := d + 7) d_Lw_law_597 rfl (by omega) (Y_Lw_114 HG) kA.2.1 (cl_TK HG) (Nat.le_of_ble_eq_true rfl) ((c_TK_judgement (d := d) HG kA (G.x.2.2 (i + 1)) (nI 0) (G.x.2.2 (i + 3))).deep (by omega)) ?_
    rw [← mA.md]
    refine z_aload_n d_Lw_law_600 rfl rfl ?_
    refine z_aload_n d_Lw_law_601 rfl rfl ?_
    refine z_iload d_Lw_law_602 rfl ?_
    refine z_iconst (v := nI 1) d_Lw_law_604 (by decide) ?_
    refine z_iadd d_Lw_law_605 ?_
    refine z_eqi (nI_add _ _) ?_
    refine z_sld d_Lw_law_606 (pk_in (i + 1) _ (by omega)) ?_
    refine z_eqi (congrArg G.x.2.2 (nI_clamp (by omega))) ?_
    refine z_aload_n d_Lw_law_607 rfl rfl ?_
    refine z_iload d_Lw_law_608 rfl ?_
    refine z_iconst (v := nI 2) d_Lw_law_610 (by decide) ?_
    refine z_iadd d_Lw_law_611 ?_
    refine z_eqi (nI_add _ _) ?_
    refine z_sld d_Lw_law_612 (pk_in (i + 2) _ (by omega)) ?_
    refine z_eqi (congrArg G.x.2.2 (nI_clamp (by omega))) ?_
    refine z_if_eq (tgt := 620) d_Lw_law_613 rfl (fun c613 => ?_) (fun c613 => ?_)
    · refine z_iconst (v := nI 0) d_Lw_law_620 (by decide) ?_
      refine z_aload_n d_Lw_law_621 rfl rfl ?_
      refine z_iload d_Lw_law_622 rfl ?_
      refine z_iconst (v := nI 3) d_Lw_law_624 (by decide) ?_
      refine z_iadd d_Lw_law_625 ?_
      refine z_eqi (nI_add _ _) ?_
      refine z_sld d_Lw_law_626 (pk_in (i + 3) _ (by omega)) ?_
      refine z_eqi (congrArg G.x.2.2 (nI_clamp (by omega))) ?_
      refine z_mc (as := [.int ((G.x.2.2 (i + 1))), .int (nI 0), .int ((G.x.2.2 (i + 3)))]) (dY := d + 7) HG d_Lw_law_627 rfl (by omega) (Y_Lw_118 HG) rfl rfl (Nat.le_of_ble_eq_true rfl) ((c_Md_judgement (d := d) (t := 0) HG mk (G.x.2.2 (i + 1)) (G.x.2.2 (i + 3))).deep (by omega)) (fun v2 s2 A2 hp2 => ?_)
      obtain ⟨rfl, mk2⟩ := hp2
      refine z_icmp_eq (tgt := 799) d_Lw_law_630 rfl (fun c630 => ?_) (fun c630 => ?_)
      · refine z_fg (lw_lo G o i) ⟨rfl, rfl, rfl, rfl, rfl, trivial⟩ ?_
        exact kk _ _ (I0.next kA Pk ⟨f, hf⟩ (by omega) (by omega) mk2)
      · exact absurd rfl c630
    · exact absurd c583 c613
  · refine z_iconst (v := nI 1) d_Lw_law_586 (by decide) ?_
    refine z_goto (tgt := 591) d_Lw_law_587 rfl ?_
    refine z_aload_n d_Lw_law_591 rfl rfl ?_
    refine z_iload d_Lw_law_592 rfl ?_
    refine z_iconst (v := nI 3) d_Lw_law_594 (by decide) ?_
    refine z_iadd d_Lw_law_595 ?_
    refine z_eqi (nI_add _ _) ?_
    refine z_sld d_Lw_law_596 (pk_in (i + 3) _ (by omega)) ?_
    refine z_eqi (congrArg G.x.2.2 (nI_clamp (by omega))) ?_
    refine z_callV3r (dY := d + 7) d_Lw_law_597 rfl (by omega) (Y_Lw_114 HG) kA.2.1 (cl_TK HG) (Nat.le_of_ble_eq_true rfl) ((c_TK_judgement (d := d) HG kA (G.x.2.2 (i + 1)) (nI 1) (G.x.2.2 (i + 3))).deep (by omega)) ?_
    rw [← mA.md]
    refine z_aload_n d_Lw_law_600 rfl rfl ?_
    refine z_aload_n d_Lw_law_601 rfl rfl ?_
    refine z_iload d_Lw_law_602 rfl ?_
    refine z_iconst (v := nI 1) d_Lw_law_604 (by decide) ?_
    refine z_iadd d_Lw_law_605 ?_
    refine z_eqi (nI_add _ _) ?_
    refine z_sld d_Lw_law_606 (pk_in (i + 1) _ (by omega)) ?_
    refine z_eqi (congrArg G.x.2.2 (nI_clamp (by omega))) ?_
    refine z_aload_n d_Lw_law_607 rfl rfl ?_
    refine z_iload d_Lw_law_608 rfl ?_
    refine z_iconst (v := nI 2) d_Lw_law_610 (by decide) ?_
    refine z_iadd d_Lw_law_611 ?_
    refine z_eqi (nI_add _ _) ?_
    refine z_sld d_Lw_law_612 (pk_in (i + 2) _ (by omega)) ?_
    refine z_eqi (congrArg G.x.2.2 (nI_clamp (by omega))) ?_
    refine z_if_eq (tgt := 620) d_Lw_law_613 rfl (fun c613 => ?_) (fun c613 => ?_)
    · exact absurd c613 c583
    · refine z_iconst (v := nI 1) d_Lw_law_616 (by decide) ?_
      refine z_goto (tgt := 621) d_Lw_law_617 rfl ?_
      refine z_aload_n d_Lw_law_621 rfl rfl ?_
      refine z_iload d_Lw_law_622 rfl ?_
      refine z_iconst (v := nI 3) d_Lw_law_624 (by decide) ?_
      refine z_iadd d_Lw_law_625 ?_
      refine z_eqi (nI_add _ _) ?_
      refine z_sld d_Lw_law_626 (pk_in (i + 3) _ (by omega)) ?_
      refine z_eqi (congrArg G.x.2.2 (nI_clamp (by omega))) ?_
      refine z_mc (as := [.int ((G.x.2.2 (i + 1))), .int (nI 1), .int ((G.x.2.2 (i + 3)))]) (dY := d + 7) HG d_Lw_law_627 rfl (by omega) (Y_Lw_118 HG) rfl rfl (Nat.le_of_ble_eq_true rfl) ((c_Md_judgement (d := d) (t := 1) HG mk (G.x.2.2 (i + 1)) (G.x.2.2 (i + 3))).deep (by omega)) (fun v2 s2 A2 hp2 => ?_)
      obtain ⟨rfl, mk2⟩ := hp2
      refine z_icmp_eq (tgt := 799) d_Lw_law_630 rfl (fun c630 => ?_) (fun c630 => ?_)
      · refine z_fg (lw_lo G o i) ⟨rfl, rfl, rfl, rfl, rfl, trivial⟩ ?_
        exact kk _ _ (I0.next kA Pk ⟨f, hf⟩ (by omega) (by omega) mk2)
      · exact absurd rfl c630
theorem lc_made (HG : z_ok G) (I : LI G o (n + 1) h K) (hi : i + 4 ≤ G.x.2.1) (hL : G.x.2.1 ≤ 2048) (kk : ∀ h' K', LI G o n h' K' → z_V G m_Lw_law (d + 8) 799 (lw_lo G o i) [] h' Q) : z_V G m_Lw_law (d + 8) 635 (lw_lo G o i) [] h Q := by
  have I0 := I
  obtain ⟨kA, Pk, ⟨s, A, mA, mk⟩, ⟨f, hf⟩, -, -⟩ := I
  refine z_aload_n d_Lw_law_635 rfl rfl ?_
  refine z_aload_n d_Lw_law_636 rfl rfl ?_
  refine z_iload d_Lw_law_637 rfl ?_
  refine z_iconst (v := nI 1) d_Lw_law_639 (by decide) ?_
  refine z_iadd d_Lw_law_640 ?_
  refine z_eqi (nI_add _ _) ?_
  refine z_sld d_Lw_law_641 (pk_in (i + 1) _ (by omega)) ?_
  refine z_eqi (congrArg G.x.2.2 (nI_clamp (by omega))) ?_
  refine z_callV1r (dY := d + 7) d_Lw_law_642 rfl (by omega) (Y_Lw_119 HG) kA.2.1 (cl_TK HG) (Nat.le_of_ble_eq_true rfl) ((c_TK_made (d := d) HG kA (G.x.2.2 (i + 1))).deep (by omega)) ?_
  rw [← mA.md]
  refine z_aload_n d_Lw_law_645 rfl rfl ?_
  refine z_aload_n d_Lw_law_646 rfl rfl ?_
  refine z_iload d_Lw_law_647 rfl ?_
  refine z_iconst (v := nI 1) d_Lw_law_649 (by decide) ?_
  refine z_iadd d_Lw_law_650 ?_
  refine z_eqi (nI_add _ _) ?_
  refine z_sld d_Lw_law_651 (pk_in (i + 1) _ (by omega)) ?_
  refine z_eqi (congrArg G.x.2.2 (nI_clamp (by omega))) ?_
  refine z_mc (as := [.int ((G.x.2.2 (i + 1)))]) (dY := d + 7) HG d_Lw_law_652 rfl (by omega) (Y_Lw_123 HG) rfl rfl (Nat.le_of_ble_eq_true rfl) ((c_Md_made (d := d) HG mk (G.x.2.2 (i + 1))).deep (by omega)) (fun v2 s2 A2 hp2 => ?_)
  obtain ⟨rfl, mk2⟩ := hp2
  refine z_icmp_eq (tgt := 799) d_Lw_law_655 rfl (fun c655 => ?_) (fun c655 => ?_)
  · refine z_fg (lw_lo G o i) ⟨rfl, rfl, rfl, rfl, rfl, trivial⟩ ?_
    exact kk _ _ (I0.next kA Pk ⟨f, hf⟩ (by omega) (by omega) mk2)
  · exact absurd rfl c655
theorem lc_entry (HG : z_ok G) (I : LI G o (n + 1) h K) (hi : i + 4 ≤ G.x.2.1) (hL : G.x.2.1 ≤ 2048) (kk : ∀ h' K', LI G o n h' K' → z_V G m_Lw_law (d + 8) 799 (lw_lo G o i) [] h' Q) : z_V G m_Lw_law (d + 8) 660 (lw_lo G o i) [] h Q := by
  have I0 := I
  obtain ⟨kA, Pk, ⟨s, A, mA, mk⟩, ⟨f, hf⟩, -, -⟩ := I
  refine z_aload_n d_Lw_law_660 rfl rfl ?_
  refine z_aload_n d_Lw_law_661 rfl rfl ?_
  refine z_iload d_Lw_law_662 rfl ?_
  refine z_iconst (v := nI 1) d_Lw_law_664 (by decide) ?_
  refine z_iadd d_Lw_law_665 ?_
  refine z_eqi (nI_add _ _) ?_
  refine z_sld d_Lw_law_666 (pk_in (i + 1) _ (by omega)) ?_
  refine z_eqi (congrArg G.x.2.2 (nI_clamp (by omega))) ?_
  refine z_aload_n d_Lw_law_667 rfl rfl ?_
  refine z_iload d_Lw_law_668 rfl ?_
  refine z_iconst (v := nI 2) d_Lw_law_670 (by decide) ?_
  refine z_iadd d_Lw_law_671 ?_
  refine z_eqi (nI_add _ _) ?_
  refine z_sld d_Lw_law_672 (pk_in (i + 2) _ (by omega)) ?_
  refine z_eqi (congrArg G.x.2.2 (nI_clamp (by omega))) ?_
  refine z_callV2r (dY := d + 7) d_Lw_law_673 rfl (by omega) (Y_Lw_124 HG) kA.2.1 (cl_TK HG) (Nat.le_of_ble_eq_true rfl) ((c_TK_entry (d := d) HG kA (G.x.2.2 (i + 1)) (G.x.2.2 (i + 2))).deep (by omega)) ?_
  rw [← mA.md]
  refine z_aload_n d_Lw_law_676 rfl rfl ?_
  refine z_aload_n d_Lw_law_677 rfl rfl ?_
  refine z_iload d_Lw_law_678 rfl ?_
  refine z_iconst (v := nI 1) d_Lw_law_680 (by decide) ?_
  refine z_iadd d_Lw_law_681 ?_
  refine z_eqi (nI_add _ _) ?_
  refine z_sld d_Lw_law_682 (pk_in (i + 1) _ (by omega)) ?_
  refine z_eqi (congrArg G.x.2.2 (nI_clamp (by omega))) ?_
  refine z_aload_n d_Lw_law_683 rfl rfl ?_
  refine z_iload d_Lw_law_684 rfl ?_
  refine z_iconst (v := nI 2) d_Lw_law_686 (by decide) ?_
  refine z_iadd d_Lw_law_687 ?_
  refine z_eqi (nI_add _ _) ?_
  refine z_sld d_Lw_law_688 (pk_in (i + 2) _ (by omega)) ?_
  refine z_eqi (congrArg G.x.2.2 (nI_clamp (by omega))) ?_
  refine z_mc (as := [.int ((G.x.2.2 (i + 1))), .int ((G.x.2.2 (i + 2)))]) (dY := d + 7) HG d_Lw_law_689 rfl (by omega) (Y_Lw_128 HG) rfl rfl (Nat.le_of_ble_eq_true rfl) ((c_Md_entry (d := d) HG mk (G.x.2.2 (i + 1)) (G.x.2.2 (i + 2))).deep (by omega)) (fun v2 s2 A2 hp2 => ?_)
  obtain ⟨rfl, mk2⟩ := hp2
  refine z_icmp_eq (tgt := 799) d_Lw_law_692 rfl (fun c692 => ?_) (fun c692 => ?_)
  · refine z_fg (lw_lo G o i) ⟨rfl, rfl, rfl, rfl, rfl, trivial⟩ ?_
    exact kk _ _ (I0.next kA Pk ⟨f, hf⟩ (by omega) (by omega) mk2)
  · exact absurd rfl c692
theorem lc_type (HG : z_ok G) (I : LI G o (n + 1) h K) (hi : i + 4 ≤ G.x.2.1) (hL : G.x.2.1 ≤ 2048) (kk : ∀ h' K', LI G o n h' K' → z_V G m_Lw_law (d + 8) 799 (lw_lo G o i) [] h' Q) : z_V G m_Lw_law (d + 8) 697 (lw_lo G o i) [] h Q := by
  have I0 := I
  obtain ⟨kA, Pk, ⟨s, A, mA, mk⟩, ⟨f, hf⟩, -, -⟩ := I
  refine z_aload_n d_Lw_law_697 rfl rfl ?_
  refine z_aload_n d_Lw_law_698 rfl rfl ?_
  refine z_iload d_Lw_law_699 rfl ?_
  refine z_iconst (v := nI 1) d_Lw_law_701 (by decide) ?_
  refine z_iadd d_Lw_law_702 ?_
  refine z_eqi (nI_add _ _) ?_
  refine z_sld d_Lw_law_703 (pk_in (i + 1) _ (by omega)) ?_
  refine z_eqi (congrArg G.x.2.2 (nI_clamp (by omega))) ?_
  refine z_aload_n d_Lw_law_704 rfl rfl ?_
  refine z_iload d_Lw_law_705 rfl ?_
  refine z_iconst (v := nI 2) d_Lw_law_707 (by decide) ?_
  refine z_iadd d_Lw_law_708 ?_
  refine z_eqi (nI_add _ _) ?_
  refine z_sld d_Lw_law_709 (pk_in (i + 2) _ (by omega)) ?_
  refine z_eqi (congrArg G.x.2.2 (nI_clamp (by omega))) ?_
  refine z_callV2r (dY := d + 7) d_Lw_law_710 rfl (by omega) (Y_Lw_129 HG) kA.2.1 (cl_TK HG) (Nat.le_of_ble_eq_true rfl) ((c_TK_type (d := d) HG kA (G.x.2.2 (i + 1)) (G.x.2.2 (i + 2))).deep (by omega)) ?_
  rw [← mA.md]
  refine z_aload_n d_Lw_law_713 rfl rfl ?_
  refine z_aload_n d_Lw_law_714 rfl rfl ?_
  refine z_iload d_Lw_law_715 rfl ?_
  refine z_iconst (v := nI 1) d_Lw_law_717 (by decide) ?_
  refine z_iadd d_Lw_law_718 ?_
  refine z_eqi (nI_add _ _) ?_
  refine z_sld d_Lw_law_719 (pk_in (i + 1) _ (by omega)) ?_
  refine z_eqi (congrArg G.x.2.2 (nI_clamp (by omega))) ?_
  refine z_aload_n d_Lw_law_720 rfl rfl ?_
  refine z_iload d_Lw_law_721 rfl ?_
  refine z_iconst (v := nI 2) d_Lw_law_723 (by decide) ?_
  refine z_iadd d_Lw_law_724 ?_
  refine z_eqi (nI_add _ _) ?_
  refine z_sld d_Lw_law_725 (pk_in (i + 2) _ (by omega)) ?_
  refine z_eqi (congrArg G.x.2.2 (nI_clamp (by omega))) ?_
  refine z_mc (as := [.int ((G.x.2.2 (i + 1))), .int ((G.x.2.2 (i + 2)))]) (dY := d + 7) HG d_Lw_law_726 rfl (by omega) (Y_Lw_132 HG) rfl rfl (Nat.le_of_ble_eq_true rfl) ((c_Md_type (d := d) HG mk (G.x.2.2 (i + 1)) (G.x.2.2 (i + 2))).deep (by omega)) (fun v2 s2 A2 hp2 => ?_)
  obtain ⟨rfl, mk2⟩ := hp2
  refine z_icmp_eq (tgt := 799) d_Lw_law_729 rfl (fun c729 => ?_) (fun c729 => ?_)
  · refine z_fg (lw_lo G o i) ⟨rfl, rfl, rfl, rfl, rfl, trivial⟩ ?_
    exact kk _ _ (I0.next kA Pk ⟨f, hf⟩ (by omega) (by omega) mk2)
  · exact absurd rfl c729
theorem lc_side (HG : z_ok G) (I : LI G o (n + 1) h K) (hi : i + 4 ≤ G.x.2.1) (hL : G.x.2.1 ≤ 2048) (kk : ∀ h' K', LI G o n h' K' → z_V G m_Lw_law (d + 8) 799 (lw_lo G o i) [] h' Q) : z_V G m_Lw_law (d + 8) 734 (lw_lo G o i) [] h Q := by
  have I0 := I
  obtain ⟨kA, Pk, ⟨s, A, mA, mk⟩, ⟨f, hf⟩, -, -⟩ := I
  refine z_aload_n d_Lw_law_734 rfl rfl ?_
  refine z_aload_n d_Lw_law_735 rfl rfl ?_
  refine z_iload d_Lw_law_736 rfl ?_
  refine z_iconst (v := nI 1) d_Lw_law_738 (by decide) ?_
  refine z_iadd d_Lw_law_739 ?_
  refine z_eqi (nI_add _ _) ?_
  refine z_sld d_Lw_law_740 (pk_in (i + 1) _ (by omega)) ?_
  refine z_eqi (congrArg G.x.2.2 (nI_clamp (by omega))) ?_
  refine z_aload_n d_Lw_law_741 rfl rfl ?_
  refine z_iload d_Lw_law_742 rfl ?_
  refine z_iconst (v := nI 2) d_Lw_law_744 (by decide) ?_
  refine z_iadd d_Lw_law_745 ?_
  refine z_eqi (nI_add _ _) ?_
  refine z_sld d_Lw_law_746 (pk_in (i + 2) _ (by omega)) ?_
  refine z_eqi (congrArg G.x.2.2 (nI_clamp (by omega))) ?_
  refine z_if_eq (tgt := 754) d_Lw_law_747 rfl (fun c747 => ?_) (fun c747 => ?_)
  · refine z_iconst (v := nI 0) d_Lw_law_754 (by decide) ?_
    refine z_aload_n d_Lw_law_755 rfl rfl ?_
    refine z_iload d_Lw_law_756 rfl ?_
    refine z_iconst (v := nI 3) d_Lw_law_758 (by decide) ?_
    refine z_iadd d_Lw_law_759 ?_
    refine z_eqi (nI_add _ _) ?_
    refine z_sld d_Lw_law_760 (pk_in (i + 3) _ (by omega)) ?_
    refine z_eqi (congrArg G.x.2.2 (nI_clamp (by omega))) ?_
    refine z_callV3r (dY := d + 7) d_Lw_law_761 rfl (by omega) (Y_Lw_133 HG) kA.2.1 (cl_TK HG) (Nat.le_of_ble_eq_true rfl) ((c_TK_side (d := d) HG kA (G.x.2.2 (i + 1)) (nI 0) (G.x.2.2 (i + 3))).deep (by omega)) ?_
    rw [← mA.md]
    refine z_aload_n d_Lw_law_764 rfl rfl ?_
    refine z_aload_n d_Lw_law_765 rfl rfl ?_
    refine z_iload d_Lw_law_766 rfl ?_
    refine z_iconst (v := nI 1) d_Lw_law_768 (by decide) ?_
    refine z_iadd d_Lw_law_769 ?_
    refine z_eqi (nI_add _ _) ?_
    refine z_sld d_Lw_law_770 (pk_in (i + 1) _ (by omega)) ?_
    refine z_eqi (congrArg G.x.2.2 (nI_clamp (by omega))) ?_
    refine z_aload_n d_Lw_law_771 rfl rfl ?_
    refine z_iload d_Lw_law_772 rfl ?_
    refine z_iconst (v := nI 2) d_Lw_law_774 (by decide) ?_
    refine z_iadd d_Lw_law_775 ?_
    refine z_eqi (nI_add _ _) ?_
    refine z_sld d_Lw_law_776 (pk_in (i + 2) _ (by omega)) ?_
    refine z_eqi (congrArg G.x.2.2 (nI_clamp (by omega))) ?_
    refine z_if_eq (tgt := 784) d_Lw_law_777 rfl (fun c777 => ?_) (fun c777 => ?_)
    · refine z_iconst (v := nI 0) d_Lw_law_784 (by decide) ?_
      refine z_aload_n d_Lw_law_785 rfl rfl ?_
      refine z_iload d_Lw_law_786 rfl ?_
      refine z_iconst (v := nI 3) d_Lw_law_788 (by decide) ?_
      refine z_iadd d_Lw_law_789 ?_
      refine z_eqi (nI_add _ _) ?_
      refine z_sld d_Lw_law_790 (pk_in (i + 3) _ (by omega)) ?_
      refine z_eqi (congrArg G.x.2.2 (nI_clamp (by omega))) ?_
      refine z_mc (as := [.int ((G.x.2.2 (i + 1))), .int (nI 0), .int ((G.x.2.2 (i + 3)))]) (dY := d + 7) HG d_Lw_law_791 rfl (by omega) (Y_Lw_136 HG) rfl rfl (Nat.le_of_ble_eq_true rfl) ((c_Md_side (d := d) (t := 0) HG mk (G.x.2.2 (i + 1)) (G.x.2.2 (i + 3))).deep (by omega)) (fun v2 s2 A2 hp2 => ?_)
      obtain ⟨rfl, mk2⟩ := hp2
      refine z_icmp_eq (tgt := 799) d_Lw_law_794 rfl (fun c794 => ?_) (fun c794 => ?_)
      · refine z_fg (lw_lo G o i) ⟨rfl, rfl, rfl, rfl, rfl, trivial⟩ ?_
        exact kk _ _ (I0.next kA Pk ⟨f, hf⟩ (by omega) (by omega) mk2)
      · exact absurd rfl c794
    · exact absurd c747 c777
  · refine z_iconst (v := nI 1) d_Lw_law_750 (by decide) ?_
    refine z_goto (tgt := 755) d_Lw_law_751 rfl ?_
    refine z_aload_n d_Lw_law_755 rfl rfl ?_
    refine z_iload d_Lw_law_756 rfl ?_
    refine z_iconst (v := nI 3) d_Lw_law_758 (by decide) ?_
    refine z_iadd d_Lw_law_759 ?_
    refine z_eqi (nI_add _ _) ?_
    refine z_sld d_Lw_law_760 (pk_in (i + 3) _ (by omega)) ?_
    refine z_eqi (congrArg G.x.2.2 (nI_clamp (by omega))) ?_
    refine z_callV3r (dY := d + 7) d_Lw_law_761 rfl (by omega) (Y_Lw_133 HG) kA.2.1 (cl_TK HG) (Nat.le_of_ble_eq_true rfl) ((c_TK_side (d := d) HG kA (G.x.2.2 (i + 1)) (nI 1) (G.x.2.2 (i + 3))).deep (by omega)) ?_
    rw [← mA.md]
    refine z_aload_n d_Lw_law_764 rfl rfl ?_
    refine z_aload_n d_Lw_law_765 rfl rfl ?_
    refine z_iload d_Lw_law_766 rfl ?_
    refine z_iconst (v := nI 1) d_Lw_law_768 (by decide) ?_
    refine z_iadd d_Lw_law_769 ?_
    refine z_eqi (nI_add _ _) ?_
    refine z_sld d_Lw_law_770 (pk_in (i + 1) _ (by omega)) ?_
    refine z_eqi (congrArg G.x.2.2 (nI_clamp (by omega))) ?_
    refine z_aload_n d_Lw_law_771 rfl rfl ?_
    refine z_iload d_Lw_law_772 rfl ?_
    refine z_iconst (v := nI 2) d_Lw_law_774 (by decide) ?_
    refine z_iadd d_Lw_law_775 ?_
    refine z_eqi (nI_add _ _) ?_
    refine z_sld d_Lw_law_776 (pk_in (i + 2) _ (by omega)) ?_
    refine z_eqi (congrArg G.x.2.2 (nI_clamp (by omega))) ?_
    refine z_if_eq (tgt := 784) d_Lw_law_777 rfl (fun c777 => ?_) (fun c777 => ?_)
    · exact absurd c777 c747
    · refine z_iconst (v := nI 1) d_Lw_law_780 (by decide) ?_
      refine z_goto (tgt := 785) d_Lw_law_781 rfl ?_
      refine z_aload_n d_Lw_law_785 rfl rfl ?_
      refine z_iload d_Lw_law_786 rfl ?_
      refine z_iconst (v := nI 3) d_Lw_law_788 (by decide) ?_
      refine z_iadd d_Lw_law_789 ?_
      refine z_eqi (nI_add _ _) ?_
      refine z_sld d_Lw_law_790 (pk_in (i + 3) _ (by omega)) ?_
      refine z_eqi (congrArg G.x.2.2 (nI_clamp (by omega))) ?_
      refine z_mc (as := [.int ((G.x.2.2 (i + 1))), .int (nI 1), .int ((G.x.2.2 (i + 3)))]) (dY := d + 7) HG d_Lw_law_791 rfl (by omega) (Y_Lw_136 HG) rfl rfl (Nat.le_of_ble_eq_true rfl) ((c_Md_side (d := d) (t := 1) HG mk (G.x.2.2 (i + 1)) (G.x.2.2 (i + 3))).deep (by omega)) (fun v2 s2 A2 hp2 => ?_)
      obtain ⟨rfl, mk2⟩ := hp2
      refine z_icmp_eq (tgt := 799) d_Lw_law_794 rfl (fun c794 => ?_) (fun c794 => ?_)
      · refine z_fg (lw_lo G o i) ⟨rfl, rfl, rfl, rfl, rfl, trivial⟩ ?_
        exact kk _ _ (I0.next kA Pk ⟨f, hf⟩ (by omega) (by omega) mk2)
      · exact absurd rfl c794
end LW
