/-! try -/
set_option maxHeartbeats 4000000 in
set_option maxRecDepth 20000 in
theorem try_68 {k : Option Value → mj_H → Prop} {G : mj_K} (hG : mj_cl2 cX2_spread (TbX2 6 (none) ct_X2_spread) k G) {v1 : Nat} {v2 : Nat} {v4 : Int32} {P : Int32 × Int32 × St → Prop} {K : (Int32 × St) → Prop} (hP : ∀ x, P x → G 68 [mj_unk, .ref v1, .ref v2, .int x.1, .int v4, .int x.2.1] [] (mkCs x.2.2) 0 0) (hK0 : ∀ y, K y → G 99 [mj_unk, .ref v1, .ref v2, .int y.1, .int v4] [] (mkCs y.2) 0 0) {v3 : Int32} {v5 : Int32} {s : St} (hw : ok (B_X2_spread_68 v1 v2 v4 (v3, v5, s)) (Sum.elim P K)) : G 68 [mj_unk, .ref v1, .ref v2, .int v3, .int v4, .int v5] [] (mkCs s) 0 0 := by
  unfold B_X2_spread_68 at hw
  refine mj_run hG.1 (fun pc => pc == 6 || pc == 9 || pc == 15 || pc == 31 || pc == 45 || pc == 64 || pc == 68 || pc == 80 || pc == 99 || pc == 105) 4000 ?_
  simp only [mj_step, mj_W_s, mj_fin, List.getElem?_cons_zero, List.getElem?_cons_succ, mj_go, Nat.reduceAdd, Nat.reduceSub, Nat.reduceLT, Nat.reduceLeDiff, Nat.zero_add, Nat.reduceEqDiff, Nat.reduceBEq, ↓reduceIte, Bool.false_eq_true, List.append_nil, List.nil_append, List.cons_append, Option.toList, and_true, true_and, true_or, or_true, reduceCtorEq, List.map_nil, bI_eq0, bI_eq1, bool_ft, pk_us, vnar0, vnar1, Bool.or_false, Bool.or_true, Bool.false_or, Bool.true_or, mj_kne, eq_self, Int32.reduceLT, Int32.reduceLE, Int32.reduceAdd, Int32.reduceSub, Int32.reduceMul, not_true_eq_false, not_false_eq_true, false_implies, true_implies, D_X2_spread_0, D_X2_spread_1, mj_F_aload_n_k, mj_F_bipush_n, mj_F_goto_off, mj_F_iastore, mj_F_iconst_n, mj_F_ifCond_eq_off, mj_F_ifCond_lt_off, mj_F_ifCond_ne_off, mj_F_if_icmp_ge_off, mj_F_iinc_k_n, mj_F_iload_k, mj_F_iload_n_k, mj_F_invokestatic_i, mj_F_istore_k, mj_F_istore_n_k, mj_F_ldc_i, mj_F_return_, mj_set, mj_set0, mj_unk, mj_c2, mj_kc, KT_X2, L_X2_spread, List.take_succ_cons, List.take_zero, List.drop_succ_cons, List.drop_zero, List.reverse_cons, List.reverse_nil, List.length_cons, List.length_nil, J_X2_spread]
  refine ⟨fun c => ?_, fun c => ?_⟩
  · replace hw := ok_t hw c
    exact hG.2 _ _ _ _ _ _ _ _ _ (by refine ⟨Or.inl rfl, ?_⟩; refine ⟨Or.inr rfl, ?_⟩; refine ⟨Or.inr rfl, ?_⟩; refine ⟨Or.inr rfl, ?_⟩; refine ⟨Or.inr rfl, ?_⟩; exact trivial) (Nat.zero_le _) (Nat.zero_le _) (hK0 _ (ok_some hw :) :)
  · replace hw := ok_f hw c
    refine c_X2_ease_in (ok_imp (ok_bind hw) ?_)
    intro p hw
    simp only [Option.toList, List.nil_append, List.cons_append, Nat.reduceSub]
    refine mj_run hG.1 (fun pc => pc == 6 || pc == 9 || pc == 15 || pc == 31 || pc == 45 || pc == 64 || pc == 68 || pc == 80 || pc == 99 || pc == 105) 4000 ?_
    simp only [mj_step, mj_W_s, mj_fin, List.getElem?_cons_zero, List.getElem?_cons_succ, mj_go, Nat.reduceAdd, Nat.reduceSub, Nat.reduceLT, Nat.reduceLeDiff, Nat.zero_add, Nat.reduceEqDiff, Nat.reduceBEq, ↓reduceIte, Bool.false_eq_true, List.append_nil, List.nil_append, List.cons_append, Option.toList, and_true, true_and, true_or, or_true, reduceCtorEq, List.map_nil, bI_eq0, bI_eq1, bool_ft, pk_us, vnar0, vnar1, Bool.or_false, Bool.or_true, Bool.false_or, Bool.true_or, mj_kne, eq_self, Int32.reduceLT, Int32.reduceLE, Int32.reduceAdd, Int32.reduceSub, Int32.reduceMul, not_true_eq_false, not_false_eq_true, false_implies, true_implies, D_X2_spread_0, D_X2_spread_1, mj_F_aload_n_k, mj_F_bipush_n, mj_F_goto_off, mj_F_iastore, mj_F_iconst_n, mj_F_ifCond_eq_off, mj_F_ifCond_lt_off, mj_F_ifCond_ne_off, mj_F_if_icmp_ge_off, mj_F_iinc_k_n, mj_F_iload_k, mj_F_iload_n_k, mj_F_invokestatic_i, mj_F_istore_k, mj_F_istore_n_k, mj_F_ldc_i, mj_F_return_, mj_set, mj_set0, mj_unk, mj_c2, mj_kc, KT_X2, L_X2_spread, List.take_succ_cons, List.take_zero, List.drop_succ_cons, List.drop_zero, List.reverse_cons, List.reverse_nil, List.length_cons, List.length_nil, J_X2_spread]
    refine ⟨fun c => ?_, fun c => ?_⟩
    · replace hw := ok_f hw c
      exact hG.2 _ _ _ _ _ _ _ _ _ (by refine ⟨Or.inl rfl, ?_⟩; refine ⟨Or.inr rfl, ?_⟩; refine ⟨Or.inr rfl, ?_⟩; refine ⟨Or.inr rfl, ?_⟩; refine ⟨Or.inr rfl, ?_⟩; refine ⟨Or.inr rfl, ?_⟩; exact trivial) (Nat.zero_le _) (Nat.zero_le _) (hP _ (ok_some hw :) :)
    · replace hw := ok_t hw c
      refine ⟨fun c => ?_, fun c => ?_⟩
      · replace hw := ok_t hw c
        exact hG.2 _ _ _ _ _ _ _ _ _ (by refine ⟨Or.inl rfl, ?_⟩; refine ⟨Or.inr rfl, ?_⟩; refine ⟨Or.inr rfl, ?_⟩; refine ⟨Or.inr rfl, ?_⟩; refine ⟨Or.inr rfl, ?_⟩; refine ⟨Or.inr rfl, ?_⟩; exact trivial) (Nat.zero_le _) (Nat.zero_le _) (hP _ (ok_some hw :) :)
      · replace hw := ok_f hw c
        exact hG.2 _ _ _ _ _ _ _ _ _ (by refine ⟨Or.inl rfl, ?_⟩; refine ⟨Or.inr rfl, ?_⟩; refine ⟨Or.inr rfl, ?_⟩; refine ⟨Or.inr rfl, ?_⟩; refine ⟨Or.inr rfl, ?_⟩; refine ⟨Or.inr rfl, ?_⟩; exact trivial) (Nat.zero_le _) (Nat.zero_le _) (hP _ (ok_some hw :) :)

