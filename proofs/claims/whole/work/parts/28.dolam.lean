/-! Rewriter.takeNext, doLambda -/
theorem k_app_pre {f : Nat → Int32} {l1 l2 : List Nat} {n : Nat} (hn : n = l1.length) : k_app (k_app f 0 l1) n l2 = k_app f 0 (l1 ++ l2) := by
  subst hn
  have := k_app_app f 0 l1 l2
  rw [Nat.zero_add] at this
  exact this
/-- the row with the lambda at place i done -/
def p_beta (x : List Nat) (i : Nat) : List Nat :=
  let b := i + 2 + p_end 1 (x.drop (i + 2))
  let a := b + p_end 1 (x.drop b)
  x.take i ++ p_put (x.drop a) [0] (x.drop b) ++ x.drop (a + p_end 1 (x.drop a))
theorem p_end_drop {x : List Nat} {i : Nat} (h : i ≤ x.length) : i + p_end 1 (x.drop i) ≤ x.length := by
  have := p_end_le (x.drop i) 1
  rw [List.length_drop] at this
  omega
theorem l_d0 (x : List Nat) (i : Nat) : (x.drop 0).take (i - 0) = x.take i := by rw [List.drop_zero, Nat.sub_zero]
theorem l_dl {x : List Nat} {i : Nat} : (x.drop i).take (x.length - i) = x.drop i := by
  rw [List.take_of_length_le (by rw [List.length_drop]; omega)]
section DL
variable {G : z_G} {d q rc a b nb : Nat} {fx fb : Nat → Int32} {x : List Nat} {h : z_H}
theorem c_Rw_takeNext (HG : z_ok G) (hq : h.2.2 q = some (k_rw q rc a b)) : z_C G m_Rw_takeNext d [.ref q] h (z_rq none (z_set h q (k_rw q rc b a))) := by
  refine z_C.of (Nat.le_of_ble_eq_true rfl) ?_
  refine z_aload_n d_Rw_takeNext_0 rfl rfl ?_
  refine z_getf (L_Rw_24K HG) (by decide) (L_Rw_24 HG) d_Rw_takeNext_1 hq (by rfl) ?_
  refine z_astore_n d_Rw_takeNext_4 rfl (by decide) ?_
  refine z_aload_n d_Rw_takeNext_5 rfl rfl ?_
  refine z_aload_n d_Rw_takeNext_6 rfl rfl ?_
  refine z_getf (L_Rw_28K HG) (by decide) (L_Rw_28 HG) d_Rw_takeNext_7 hq (by rfl) ?_
  refine z_putf (L_Rw_24K HG) (by decide) (L_Rw_24 HG) rfl d_Rw_takeNext_10 hq rfl rfl (Nat.le_of_ble_eq_true rfl) ?_
  have hq1 : (z_set h q (k_rw q rc b b)).2.2 q = some (k_rw q rc b b) := va_up_self _ _ _
  refine z_aload_n d_Rw_takeNext_13 rfl rfl ?_
  refine z_aload_n d_Rw_takeNext_14 rfl rfl ?_
  refine z_putf (L_Rw_28K HG) (by decide) (L_Rw_28 HG) rfl d_Rw_takeNext_15 hq1 rfl rfl (Nat.le_of_ble_eq_true rfl) ?_
  refine z_return d_Rw_takeNext_18 rfl ⟨rfl, ?_⟩
  unfold z_set
  refine congrArg (fun z => (h.1, h.2.1, z)) ?_
  funext y
  simp only [va_up]
  split <;> rfl
theorem c2_doLambda (HG : z_ok G) {i : Nat} (hrm : z_rm G h) (hx : rl fx x) (ra : k_rr q a) (rb : k_rr q b) (e : k_ne a b) (hi : i + 2 ≤ x.length)
    (hq : h.2.2 q = some (k_rw q rc a b)) (hsc : k_sc G q h) (ha : rowAt G h a x.length fx) (hb : rowAt G h b nb fb) :
    z_C G m_Rw_doLambda (d + 3) [.ref q, .int (nI i)] h (z_eq2 ((p_beta x i).length ≤ 40) none (fun h' => ∃ h1, h' = z_set h1 q (k_rw q rc b a) ∧ k_fr q b h h1 ∧ k_sc G q h1 ∧ rowAt G h1 b (p_beta x i).length (k_app fb 0 (p_beta x i))) (k_xc G q b h)) := by
  have hx40 := hx.len
  have hb1 : i + 2 + p_end 1 (x.drop (i + 2)) ≤ x.length := p_end_drop hi
  have eb : p_beta x i = x.take i ++ p_put (x.drop (i + 2 + p_end 1 (x.drop (i + 2)) + p_end 1 (x.drop (i + 2 + p_end 1 (x.drop (i + 2)))))) [0] (x.drop (i + 2 + p_end 1 (x.drop (i + 2)))) ++ x.drop (i + 2 + p_end 1 (x.drop (i + 2)) + p_end 1 (x.drop (i + 2 + p_end 1 (x.drop (i + 2)))) + p_end 1 (x.drop (i + 2 + p_end 1 (x.drop (i + 2)) + p_end 1 (x.drop (i + 2 + p_end 1 (x.drop (i + 2))))))) := rfl
  rw [eb]
  generalize i + 2 + p_end 1 (x.drop (i + 2)) = nB at hb1 ⊢
  have ha1 : nB + p_end 1 (x.drop nB) ≤ x.length := p_end_drop hb1
  generalize hA : nB + p_end 1 (x.drop nB) = nA at ha1 ⊢
  have he1 : nA + p_end 1 (x.drop nA) ≤ x.length := p_end_drop ha1
  generalize hE : nA + p_end 1 (x.drop nA) = nE at he1 ⊢
  sorry
end DL
